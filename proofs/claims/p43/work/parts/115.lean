set_option maxRecDepth 20000 in
theorem gX5_rawSamples_X5_beginArith : GoodIn wuX5_rawSamples (wsV RX5 119 RX5 yX5_beginArith wuX5_beginArith) := gu_V mw_1862 mw_1864 mw_52 mw_169 mw_1865
set_option maxRecDepth 20000 in
theorem gX5_rawSamples_X5_fixed : GoodIn wuX5_rawSamples (wsV RX5 130 RX5 yX5_fixed wuX5_fixed) := gu_V mw_2214 mw_1356 mw_1357 mw_169 mw_1358
set_option maxRecDepth 20000 in
set_option maxRecDepth 20000 in
theorem gX5_rawSamples_X5_isLast : GoodIn wuX5_rawSamples (wsV RX5 122 RX5 yX5_isLast wuX5_isLast) := gu_V mw_2205 mw_2206 mw_2207 mw_169 mw_2208
set_option maxRecDepth 20000 in
theorem dX5_rawSamples_0 : decode cX5_rawSamples 0 = .ok (.aload_n 0, 1) := by decide +kernel
theorem dX5_rawSamples_1 : decode cX5_rawSamples 1 = .ok (.getfield 66, 3) := by decide +kernel
theorem dX5_rawSamples_4 : decode cX5_rawSamples 4 = .ok (.istore_n 2, 1) := by decide +kernel
theorem dX5_rawSamples_5 : decode cX5_rawSamples 5 = .ok (.iload_n 2, 1) := by decide +kernel
theorem dX5_rawSamples_6 : decode cX5_rawSamples 6 = .ok (.ifCond .eq 15, 3) := by decide +kernel
theorem dX5_rawSamples_9 : decode cX5_rawSamples 9 = .ok (.aload_n 0, 1) := by decide +kernel
theorem dX5_rawSamples_10 : decode cX5_rawSamples 10 = .ok (.invokevirtual 122, 3) := by decide +kernel
theorem dX5_rawSamples_13 : decode cX5_rawSamples 13 = .ok (.ifCond .ne 8, 3) := by decide +kernel
theorem dX5_rawSamples_16 : decode cX5_rawSamples 16 = .ok (.aload_n 0, 1) := by decide +kernel
theorem dX5_rawSamples_17 : decode cX5_rawSamples 17 = .ok (.iconst 4, 1) := by decide +kernel
theorem dX5_rawSamples_18 : decode cX5_rawSamples 18 = .ok (.invokevirtual 126, 3) := by decide +kernel
theorem dX5_rawSamples_21 : decode cX5_rawSamples 21 = .ok (.aload_n 0, 1) := by decide +kernel
theorem dX5_rawSamples_22 : decode cX5_rawSamples 22 = .ok (.iconst 0, 1) := by decide +kernel
theorem dX5_rawSamples_23 : decode cX5_rawSamples 23 = .ok (.putfield 66, 3) := by decide +kernel
theorem dX5_rawSamples_26 : decode cX5_rawSamples 26 = .ok (.aload_n 0, 1) := by decide +kernel
theorem dX5_rawSamples_27 : decode cX5_rawSamples 27 = .ok (.getfield 57, 3) := by decide +kernel
theorem dX5_rawSamples_30 : decode cX5_rawSamples 30 = .ok (.ineg, 1) := by decide +kernel
theorem dX5_rawSamples_31 : decode cX5_rawSamples 31 = .ok (.bipush 7, 2) := by decide +kernel
theorem dX5_rawSamples_33 : decode cX5_rawSamples 33 = .ok (.iand, 1) := by decide +kernel
theorem dX5_rawSamples_34 : decode cX5_rawSamples 34 = .ok (.istore_n 3, 1) := by decide +kernel
theorem dX5_rawSamples_35 : decode cX5_rawSamples 35 = .ok (.iload_n 3, 1) := by decide +kernel
theorem dX5_rawSamples_36 : decode cX5_rawSamples 36 = .ok (.ifCond .le 21, 3) := by decide +kernel
theorem dX5_rawSamples_39 : decode cX5_rawSamples 39 = .ok (.aload_n 0, 1) := by decide +kernel
theorem dX5_rawSamples_40 : decode cX5_rawSamples 40 = .ok (.iconst 0, 1) := by decide +kernel
theorem dX5_rawSamples_41 : decode cX5_rawSamples 41 = .ok (.iload_n 3, 1) := by decide +kernel
theorem dX5_rawSamples_42 : decode cX5_rawSamples 42 = .ok (.invokevirtual 130, 3) := by decide +kernel
theorem dX5_rawSamples_45 : decode cX5_rawSamples 45 = .ok (.ifCond .eq 12, 3) := by decide +kernel
theorem dX5_rawSamples_48 : decode cX5_rawSamples 48 = .ok (.aload_n 0, 1) := by decide +kernel
theorem dX5_rawSamples_49 : decode cX5_rawSamples 49 = .ok (.iconst 2, 1) := by decide +kernel
theorem dX5_rawSamples_50 : decode cX5_rawSamples 50 = .ok (.aload_n 0, 1) := by decide +kernel
theorem dX5_rawSamples_51 : decode cX5_rawSamples 51 = .ok (.getfield 60, 3) := by decide +kernel
theorem dX5_rawSamples_54 : decode cX5_rawSamples 54 = .ok (.invokevirtual 89, 3) := by decide +kernel
theorem dX5_rawSamples_57 : decode cX5_rawSamples 57 = .ok (.iconst 0, 1) := by decide +kernel
theorem dX5_rawSamples_58 : decode cX5_rawSamples 58 = .ok (.istore 4, 2) := by decide +kernel
theorem dX5_rawSamples_60 : decode cX5_rawSamples 60 = .ok (.iload 4, 2) := by decide +kernel
theorem dX5_rawSamples_62 : decode cX5_rawSamples 62 = .ok (.sipush 384, 3) := by decide +kernel
theorem dX5_rawSamples_65 : decode cX5_rawSamples 65 = .ok (.if_icmp .ge 27, 3) := by decide +kernel
theorem dX5_rawSamples_68 : decode cX5_rawSamples 68 = .ok (.iload 4, 2) := by decide +kernel
theorem dX5_rawSamples_70 : decode cX5_rawSamples 70 = .ok (.aload_n 1, 1) := by decide +kernel
theorem dX5_rawSamples_71 : decode cX5_rawSamples 71 = .ok (.arraylength, 1) := by decide +kernel
theorem dX5_rawSamples_72 : decode cX5_rawSamples 72 = .ok (.if_icmp .ge 20, 3) := by decide +kernel
theorem dX5_rawSamples_75 : decode cX5_rawSamples 75 = .ok (.aload_n 1, 1) := by decide +kernel
theorem dX5_rawSamples_76 : decode cX5_rawSamples 76 = .ok (.iload 4, 2) := by decide +kernel
theorem dX5_rawSamples_78 : decode cX5_rawSamples 78 = .ok (.aload_n 0, 1) := by decide +kernel
theorem dX5_rawSamples_79 : decode cX5_rawSamples 79 = .ok (.iconst 0, 1) := by decide +kernel
theorem dX5_rawSamples_80 : decode cX5_rawSamples 80 = .ok (.bipush 8, 2) := by decide +kernel
theorem dX5_rawSamples_82 : decode cX5_rawSamples 82 = .ok (.invokevirtual 130, 3) := by decide +kernel
theorem dX5_rawSamples_85 : decode cX5_rawSamples 85 = .ok (.iastore, 1) := by decide +kernel
theorem dX5_rawSamples_86 : decode cX5_rawSamples 86 = .ok (.iinc 4 1, 3) := by decide +kernel
theorem dX5_rawSamples_89 : decode cX5_rawSamples 89 = .ok (.goto (-29), 3) := by decide +kernel
theorem dX5_rawSamples_92 : decode cX5_rawSamples 92 = .ok (.iload_n 2, 1) := by decide +kernel
theorem dX5_rawSamples_93 : decode cX5_rawSamples 93 = .ok (.ifCond .eq 7, 3) := by decide +kernel
theorem dX5_rawSamples_96 : decode cX5_rawSamples 96 = .ok (.aload_n 0, 1) := by decide +kernel
theorem dX5_rawSamples_97 : decode cX5_rawSamples 97 = .ok (.invokevirtual 119, 3) := by decide +kernel
theorem dX5_rawSamples_100 : decode cX5_rawSamples 100 = .ok (.return_, 1) := by decide +kernel
def FX5_rawSamples (G : GG) (M : DD) (a : Nat) (p0 : Option Nat) : Option (DD) :=
  ltt (M.1 a 6) fun x1 =>
  bnd (if x1 = ((0 : Int32)) then (some (M)) else
  (bnd (FX5_isLast G M a) fun y28 =>
  bnd (if y28.2 = ((0 : Int32)) then (none) else
  (some (y28.1))) fun (y29 : DD) =>
  some (y29))) fun (y2 : DD) =>
  chk (((0 : Int32)) = 0 ∨ ((0 : Int32)) = 1) <|
  ltt (uI y2 a 6 ((0 : Int32))) fun M3 =>
  ltt (M3.1 a 2) fun x4 =>
  ltt (-x4) fun x5 =>
  ltt ((x5 &&& ((7 : Int32)))) fun x6 =>
  bnd (if x6 ≤ ((0 : Int32)) then (some (M3)) else
  (bnd (FX5_fixed G M3 a ((0 : Int32)) x6) fun y23 =>
  bnd (if y23.2 = ((0 : Int32)) then (some (y23.1)) else
  (ltt (y23.1.1 a 4) fun x26 =>
  none)) fun (y24 : DD) =>
  some (y24))) fun (y7 : DD) =>
  bnd (itr (fun (s9 : Int32 × DD) => ((if ((384 : Int32)) ≤ s9.1 then (some (.inr (s9.1, s9.2))) else
  (dr G 13 p0 fun b16 =>
  ltt (Int32.ofNat (G.2.2 b16)) fun x17 =>
  if x17 ≤ s9.1 then (some (.inr (s9.1, s9.2))) else
  (bnd (FX5_fixed G s9.2 a ((0 : Int32)) ((8 : Int32))) fun y19 =>
  chk (¬ (s9.1 < 0 ∨ G.2.2 b16 ≤ s9.1.toNatClampNeg)) <|
  ltt (uI y19.1 b16 s9.1.toNatClampNeg y19.2) fun M20 =>
  ltt (s9.1 + (1 : Int32)) fun x21 =>
  some (.inl (x21, M20))))) : Option ((Int32 × DD) ⊕ (Int32 × DD)))) 1000000 ((0 : Int32), y7)) fun (y8 : Int32 × DD) =>
  bnd (if x1 = ((0 : Int32)) then (some (y8.2)) else
  (bnd (FX5_beginArith G y8.2 a) fun y13 =>
  some (y13))) fun (y11 : DD) =>
  some y11
set_option maxHeartbeats 4000000 in
set_option maxRecDepth 100000 in
theorem kX5_rawSamples (l : Launch) (D : va_G) (ct : CT) (ad : Nat → Nat) (Z : Nat → Nat) (G : GG) (M : DD) (sz : Nat) (a : Nat) (p0 : Option Nat) (y : DD) (hc : a < G.1) (hk : G.2.1 a = 5) (hF : FX5_rawSamples G M a p0 = some y) : Met l yX5_rawSamples wuX5_rawSamples ({ frames := 3, cells := 0, slots := 0, locals := 62 }) (va_Pc [.ref (ad a), va_re ad p0] (kB D ct ad Z G M sz)) (va_Qv (fun (_ : Unit) => True) (fun _ t => kE D ct ad G (wA ad G sz) y t) (wA ad G sz)) 0 0 (wA ad G sz) := by
  refine Met.ofW (cc := cX5_rawSamples) (maxL := 5) (ret := none) (by decide) rfl ?_
  intro p e s m args below meth c s₁ B hml hv
  obtain ⟨rfl, hsz, hP, hK, hD0, hZ, hN⟩ := hv
  have hx := B.exec
  have hb := B.bytes
  have hr := B.returns
  have hts := atoms_spec (ws := wuX5_rawSamples) B.pre
  have hown : s.vm.findClass RX5 = some m.cls := findClass_of_methodNamed B.named
  have hlocks := B.notSynchronized
  subst hsz
  have hD := wD_self (sz := s.heap.size) hD0
  have hA9 : ∀ q, s.heap.size ≤ q → wA ad G s.heap.size q := fun q h => Or.inr h
  generalize hAe : wA ad G s.heap.size = A at hD hA9 hZ ⊢
  have hS : va_S A s.heap s.heap [] := va_S.rf
  have hl := lv_entry ([.ref (ad a), va_re ad p0]) (n := 5) (by cases p0 <;> exact Nat.le_of_ble_eq_true rfl)
  rw [lg_entry_eq]
  generalize (lg_sl ([.ref (ad a), va_re ad p0]) ++ List.replicate (5 - (lg_sl ([.ref (ad a), va_re ad p0])).length) Slot.unset).toArray = ls at hl ⊢
  have hl : lv_has ls 5 [(0, .ref (ad a)), (1, va_re ad p0)] := by have e9 : lv_args 0 [.ref (ad a), va_re ad p0] = [(0, .ref (ad a)), (1, va_re ad p0)] := (by cases p0 <;> rfl); rw [e9] at hl; exact hl
  unfold FX5_rawSamples at hF
  refine lv_aload_n hx hb dX5_rawSamples_0 rfl (lv_at hl 0 rfl) ?_
  refine va_get (D := D) (ci := 5) (v := .int (M.1 a 6)) (C := RX5) (T := TX5) (N := 17) hx hb hts (mus hf_X5) hown hK hP a (wld_o ct ad G M hc hk (by decide)) rfl 6 (by decide) (hts (.fieldLink RX5 66 "VideoSuite$Reader" "arith" "Z") (mu mw_295)) (fun _ h9 => h9) rfl dX5_rawSamples_1 ?_
  obtain ⟨x1, ex1, hF⟩ := ltt_some hF
  refine lv_topi (fun zx1 ezx1 => ?_)
  obtain rfl : x1 = zx1 := ex1.trans ezx1.symm
  refine lv_istore_n (lv' := [(2, .int x1), (0, .ref (ad a)), (1, va_re ad p0)]) hx hb dX5_rawSamples_4 rfl hl (by decide) (by generalize p0 = o9; cases o9 <;> rfl) (fun ls hl => ?_)
  refine lv_iload_n hx hb dX5_rawSamples_5 rfl (lv_at hl 0 rfl) ?_
  obtain ⟨y2, hy2, hF⟩ := bnd_some hF
  have J2 : ∀ (H : Heap) (locs : List Loc) (ls : Array Slot), va_P D classes (wld ct ad G y2) H → va_D A (wld ct ad G y2) → va_S A s.heap H locs → lv_has ls 5 [(2, .int x1), (0, .ref (ad a)), (1, va_re ad p0)] → W p l e (headSpec wuX5_rawSamples ({ frames := 3, cells := 0, slots := 0, locals := 62 })).room s m ([.ref (ad a), va_re ad p0] : List Value).toArray below meth c H locs 0 0 (MQ below (va_Qv (fun (_ : Unit) => True) (fun _ t => kE D ct ad G A y t) A) ([.ref (ad a), va_re ad p0] : List Value).toArray s 0 0 A) (F0 m 21 ls []) := by
    intro H locs ls hP hD hS hl
    refine lv_aload_n hx hb dX5_rawSamples_21 rfl (lv_at hl 1 rfl) ?_
    refine lv_iconst (v := (0 : Int32)) hx hb dX5_rawSamples_22 (by decide) ?_
    obtain ⟨hz9, hF⟩ := chk_some hF
    refine va_put (D := D) (ci := 5) (v := .int (0 : Int32)) (ty := .boolean) (C := RX5) (T := TX5) (N := 17) hx hb hts (mus hf_X5) tyX5 tyX5_ok nmX5 hown hK hP hD hS a (wld_o ct ad G y2 hc hk (by decide)) rfl 6 (by decide) (hts (.fieldLink RX5 66 "VideoSuite$Reader" "arith" "Z") (mu mw_295)) (fun _ h9 => h9) rfl (by decide +kernel) (nar_z hz9).1 (nar_z hz9).2 (Nat.le_of_ble_eq_true rfl) dX5_rawSamples_23 (fun H locs hP hD hS => ?_)
    obtain ⟨M3, eM3, hF⟩ := ltt_some hF
    rw [set_oI ct ad G y2 hc hk (by decide) (by rfl), ← eM3] at hP hD
    refine lv_aload_n hx hb dX5_rawSamples_26 rfl (lv_at hl 1 rfl) ?_
    refine va_get (D := D) (ci := 5) (v := .int (M3.1 a 2)) (C := RX5) (T := TX5) (N := 17) hx hb hts (mus hf_X5) hown hK hP a (wld_o ct ad G M3 hc hk (by decide)) rfl 2 (by decide) (hts (.fieldLink RX5 57 "VideoSuite$Reader" "place" "I") (mu mw_289)) (fun _ h9 => h9) rfl dX5_rawSamples_27 ?_
    obtain ⟨x4, ex4, hF⟩ := ltt_some hF
    refine lv_topi (fun zx4 ezx4 => ?_)
    obtain rfl : x4 = zx4 := ex4.trans ezx4.symm
    refine lv_ineg hx hb dX5_rawSamples_30 ?_
    obtain ⟨x5, ex5, hF⟩ := ltt_some hF
    refine lv_topi (fun zx5 ezx5 => ?_)
    obtain rfl : x5 = zx5 := ex5.trans ezx5.symm
    refine lv_bipush (v := (7 : Int32)) hx hb dX5_rawSamples_31 (by decide) ?_
    refine lv_iand hx hb dX5_rawSamples_33 ?_
    obtain ⟨x6, ex6, hF⟩ := ltt_some hF
    refine lv_topi (fun zx6 ezx6 => ?_)
    obtain rfl : x6 = zx6 := ex6.trans ezx6.symm
    refine lv_istore_n (lv' := [(3, .int x6), (2, .int x1), (0, .ref (ad a)), (1, va_re ad p0)]) hx hb dX5_rawSamples_34 rfl hl (by decide) rfl (fun ls hl => ?_)
    refine lv_iload_n hx hb dX5_rawSamples_35 rfl (lv_at hl 0 rfl) ?_
    obtain ⟨y7, hy7, hF⟩ := bnd_some hF
    have J7 : ∀ (H : Heap) (locs : List Loc) (ls : Array Slot), va_P D classes (wld ct ad G y7) H → va_D A (wld ct ad G y7) → va_S A s.heap H locs → lv_has ls 5 [(3, .int x6), (2, .int x1), (0, .ref (ad a)), (1, va_re ad p0)] → W p l e (headSpec wuX5_rawSamples ({ frames := 3, cells := 0, slots := 0, locals := 62 })).room s m ([.ref (ad a), va_re ad p0] : List Value).toArray below meth c H locs 0 0 (MQ below (va_Qv (fun (_ : Unit) => True) (fun _ t => kE D ct ad G A y t) A) ([.ref (ad a), va_re ad p0] : List Value).toArray s 0 0 A) (F0 m 57 ls []) := by
      intro H locs ls hP hD hS hl
      refine lv_iconst (v := (0 : Int32)) hx hb dX5_rawSamples_57 (by decide) ?_
      refine lv_istore (lv' := [(4, .int (0 : Int32)), (3, .int x6), (2, .int x1), (0, .ref (ad a)), (1, va_re ad p0)]) hx hb dX5_rawSamples_58 hl (by decide) rfl (fun ls hl => ?_)
      obtain ⟨y8, hy8, hF⟩ := bnd_some hF
      have K8 : ∀ (H : Heap) (locs : List Loc) (ls : Array Slot), va_P D classes (wld ct ad G y8.2) H → va_D A (wld ct ad G y8.2) → va_S A s.heap H locs → lv_has ls 5 [(4, .int y8.1), (3, .int x6), (2, .int x1), (0, .ref (ad a)), (1, va_re ad p0)] → W p l e (headSpec wuX5_rawSamples ({ frames := 3, cells := 0, slots := 0, locals := 62 })).room s m ([.ref (ad a), va_re ad p0] : List Value).toArray below meth c H locs 0 0 (MQ below (va_Qv (fun (_ : Unit) => True) (fun _ t => kE D ct ad G A y t) A) ([.ref (ad a), va_re ad p0] : List Value).toArray s 0 0 A) (F0 m 92 ls []) := by
        intro H locs ls hP hD hS hl
        refine lv_iload_n hx hb dX5_rawSamples_92 rfl (lv_at hl 2 rfl) ?_
        obtain ⟨y11, hy11, hF⟩ := bnd_some hF
        have J11 : ∀ (H : Heap) (locs : List Loc) (ls : Array Slot), va_P D classes (wld ct ad G y11) H → va_D A (wld ct ad G y11) → va_S A s.heap H locs → lv_has ls 5 [(4, .int y8.1), (3, .int x6), (2, .int x1), (0, .ref (ad a)), (1, va_re ad p0)] → W p l e (headSpec wuX5_rawSamples ({ frames := 3, cells := 0, slots := 0, locals := 62 })).room s m ([.ref (ad a), va_re ad p0] : List Value).toArray below meth c H locs 0 0 (MQ below (va_Qv (fun (_ : Unit) => True) (fun _ t => kE D ct ad G A y t) A) ([.ref (ad a), va_re ad p0] : List Value).toArray s 0 0 A) (F0 m 100 ls []) := by
          intro H locs ls hP hD hS hl
          obtain rfl := Option.some.inj hF
          exact W.vret hx hb hr (fun t ht hW => ⟨⟨(), rfl, trivial, ⟨by rw [ht]; exact hP, va_K.moved hW.alike hK, hD⟩⟩, hS.F ht⟩) hS.2.2 dX5_rawSamples_100
        clear hF
        have hF := hy11
        clear hy11
        refine lv_if_eq (tgt := 100) hx hb dX5_rawSamples_93 (by decide) (fun c12 => ?_) (fun c12 => ?_)
        · rw [if_pos c12] at hF
          obtain rfl := Option.some.inj hF
          exact J11 _ _ _ hP hD hS (lv_sub hl [0, 1, 2, 3, 4] rfl)
        · rw [if_neg c12] at hF
          refine lv_aload_n hx hb dX5_rawSamples_96 rfl (lv_at hl 3 rfl) ?_
          obtain ⟨y13, hy13, hF⟩ := bnd_some hF
          have hf9 := wA_in hD hA9 hS
          refine va_callv (va_runV (As := []) (rest := []) ⟨hx, hb, hml, hown, hts⟩ (kX5_beginArith l D ct ad Z G y8.2 H.size a y13 hc hk hy13) (cwV 0 hts gX5_rawSamples_X5_beginArith rfl rfl rfl (by decide +kernel) ⟨Nat.le_of_ble_eq_true rfl, Nat.le_of_ble_eq_true rfl⟩) ⟨fun a U g mk q => by obtain ⟨q0, q1, qP, qK, qD, qZ, qN⟩ := q; exact ⟨q0, q1, qP, va_K.moved (u := U) (U := U.calling g mk a) (Vm.Alike.refl U.vm) qK, qD, sF.moved (u := U) (U := U.calling g mk a) (Vm.Alike.refl U.vm) qZ, nF.same rfl qN⟩, va_recv hK hP (ci := 5) (q0 := a) rfl (wld_o ct ad G y8.2 hc hk (by decide)), fun U hU hW => ⟨rfl, by rw [hU], by rw [hU]; exact hP, va_K.moved hW.alike hK, hD.weaken (fun _ _ _ _ => trivial), by rw [hU]; exact ((hZ.kept hS.2.1).narrow hf9).moved hW.alike, hN.warm hW⟩⟩ rfl rfl hl.1 rfl (lv_room (Nat.le_of_ble_eq_true rfl)) dX5_rawSamples_97 ⟨(Nat.zero_le _), (Nat.zero_le _)⟩) hS (fun q _ h => hf9 q h) hf9 (fun u t H locs ht hvm hw hB hz1 hk1 hS => ?_)
          obtain ⟨hP, hK9, hD9⟩ := hB
          rw [ht] at hP
          have hD := hD9.weaken (fun _ q _ h => hf9 q.1 h)
          obtain rfl := Option.some.inj hF
          exact J11 _ _ _ hP hD hS (lv_sub hl [0, 1, 2, 3, 4] rfl)
      clear hF
      refine itr_rule (fun (s9 : Int32 × DD) => ∀ (H : Heap) (locs : List Loc) (ls : Array Slot), va_P D classes (wld ct ad G s9.2) H → va_D A (wld ct ad G s9.2) → va_S A s.heap H locs → lv_has ls 5 [(4, .int s9.1), (3, .int x6), (2, .int x1), (0, .ref (ad a)), (1, va_re ad p0)] → W p l e (headSpec wuX5_rawSamples ({ frames := 3, cells := 0, slots := 0, locals := 62 })).room s m ([.ref (ad a), va_re ad p0] : List Value).toArray below meth c H locs 0 0 (MQ below (va_Qv (fun (_ : Unit) => True) (fun _ t => kE D ct ad G A y t) A) ([.ref (ad a), va_re ad p0] : List Value).toArray s 0 0 A) (F0 m 60 ls [])) ?_ _ _ hy8 _ _ _ hP hD hS (lv_sub hl [0, 1, 2, 3, 4] rfl)
      rintro s9 ⟨z14, hF, hwz14⟩ H locs ls hP hD hS hl
      try dsimp only at hF
      refine lv_iload hx hb dX5_rawSamples_60 (lv_at hl 0 rfl) ?_
      refine lv_sipush (v := (384 : Int32)) hx hb dX5_rawSamples_62 (by decide) ?_
      refine lv_icmp_ge (tgt := 92) hx hb dX5_rawSamples_65 (by decide) (fun c15 => ?_) (fun c15 => ?_)
      · rw [if_pos c15] at hF
        obtain rfl := Option.some.inj hF
        subst hwz14
        exact K8 _ _ _ hP hD hS (lv_sub hl [0, 1, 2, 3, 4] rfl)
      · rw [if_neg c15] at hF
        refine lv_iload hx hb dX5_rawSamples_68 (lv_at hl 0 rfl) ?_
        refine lv_aloadq_n hx hb dX5_rawSamples_70 rfl (lv_at hl 4 rfl) ?_
        obtain ⟨b16, ho16, hc16, hk16, hF⟩ := dr_some hF
        refine W_st (st' := [.ref (ad b16), .int s9.1]) (by rw [va_some ho16]) ?_
        refine va_alen (v := Int32.ofNat (G.2.2 b16)) hx hb hK hP b16 1 (wld_i ct ad G s9.2 hc16 hk16) rfl rfl dX5_rawSamples_71 ?_
        obtain ⟨x17, ex17, hF⟩ := ltt_some hF
        refine lv_topi (fun zx17 ezx17 => ?_)
        obtain rfl : x17 = zx17 := ex17.trans ezx17.symm
        refine lv_icmp_ge (tgt := 92) hx hb dX5_rawSamples_72 (by decide) (fun c18 => ?_) (fun c18 => ?_)
        · rw [if_pos c18] at hF
          obtain rfl := Option.some.inj hF
          subst hwz14
          exact K8 _ _ _ hP hD hS (lv_sub hl [0, 1, 2, 3, 4] rfl)
        · rw [if_neg c18] at hF
          refine lv_aloadq_n hx hb dX5_rawSamples_75 rfl (lv_at hl 4 rfl) ?_
          refine lv_iload hx hb dX5_rawSamples_76 (lv_at hl 0 rfl) ?_
          refine lv_aload_n hx hb dX5_rawSamples_78 rfl (lv_at hl 3 rfl) ?_
          refine lv_iconst (v := (0 : Int32)) hx hb dX5_rawSamples_79 (by decide) ?_
          refine lv_bipush (v := (8 : Int32)) hx hb dX5_rawSamples_80 (by decide) ?_
          obtain ⟨y19, hy19, hF⟩ := bnd_some hF
          have hf9 := wA_in hD hA9 hS
          refine va_calli (va_runV (As := [.int (0 : Int32), .int (8 : Int32)]) (rest := [.int s9.1, va_re ad p0]) ⟨hx, hb, hml, hown, hts⟩ (kX5_fixed l D ct ad Z G s9.2 H.size a ((0 : Int32)) ((8 : Int32)) y19 hc hk hy19) (cwV 2 hts gX5_rawSamples_X5_fixed rfl rfl rfl (by decide +kernel) ⟨Nat.le_of_ble_eq_true rfl, Nat.le_of_ble_eq_true rfl⟩) ⟨fun a U g mk q => by obtain ⟨q0, q1, qP, qK, qD, qZ, qN⟩ := q; exact ⟨q0, q1, qP, va_K.moved (u := U) (U := U.calling g mk a) (Vm.Alike.refl U.vm) qK, qD, sF.moved (u := U) (U := U.calling g mk a) (Vm.Alike.refl U.vm) qZ, nF.same rfl qN⟩, va_recv hK hP (ci := 5) (q0 := a) rfl (wld_o ct ad G s9.2 hc hk (by decide)), fun U hU hW => ⟨rfl, by rw [hU], by rw [hU]; exact hP, va_K.moved hW.alike hK, hD.weaken (fun _ _ _ _ => trivial), by rw [hU]; exact ((hZ.kept hS.2.1).narrow hf9).moved hW.alike, hN.warm hW⟩⟩ rfl rfl hl.1 rfl (lv_room (by simp only [List.map, va_re_cat]; exact Nat.le_of_ble_eq_true rfl)) dX5_rawSamples_82 ⟨(Nat.zero_le _), (Nat.zero_le _)⟩) hS (fun q _ h => hf9 q h) hf9 (fun r u t H locs ht hvm hw hB hz1 hk1 hS => ?_)
          obtain ⟨hP, hK9, hD9⟩ := hB
          rw [ht] at hP
          try dsimp only at hw
          subst hw
          have hD := hD9.weaken (fun _ q _ h => hf9 q.1 h)
          refine W_st (st' := [.int y19.2, .int s9.1, .ref (ad b16)]) (by rw [va_some ho16]) ?_
          obtain ⟨hvc, hF⟩ := chk_some hF
          refine va_iast hx hb hK hP hD hS b16 1 (wld_i ct ad G y19.1 hc16 hk16) rfl hvc dX5_rawSamples_85 (fun H locs hP hD hS => ?_)
          obtain ⟨M20, eM20, hF⟩ := ltt_some hF
          rw [set_i ct ad G y19.1 hc16 hk16, ← eM20] at hP hD
          obtain ⟨x21, ex21, hF⟩ := ltt_some hF
          refine lv_iinc (v := x21) (lv' := [(4, .int x21), (3, .int x6), (2, .int x1), (0, .ref (ad a)), (1, va_re ad p0)]) hx hb dX5_rawSamples_86 hl (k := 0) rfl (by rw [ex21]; rfl) (by decide) rfl (fun ls hl => ?_)
          refine lv_goto (tgt := 60) hx hb dX5_rawSamples_89 (by decide) ?_
          obtain rfl := Option.some.inj hF
          exact hwz14 _ _ _ hP hD hS (lv_sub hl [0, 1, 2, 3, 4] rfl)
    clear hF
    have hF := hy7
    clear hy7
    refine lv_if_le (tgt := 57) hx hb dX5_rawSamples_36 (by decide) (fun c22 => ?_) (fun c22 => ?_)
    · rw [if_pos c22] at hF
      obtain rfl := Option.some.inj hF
      exact J7 _ _ _ hP hD hS (lv_sub hl [0, 1, 2, 3] rfl)
    · rw [if_neg c22] at hF
      refine lv_aload_n hx hb dX5_rawSamples_39 rfl (lv_at hl 2 rfl) ?_
      refine lv_iconst (v := (0 : Int32)) hx hb dX5_rawSamples_40 (by decide) ?_
      refine lv_iload_n hx hb dX5_rawSamples_41 rfl (lv_at hl 0 rfl) ?_
      obtain ⟨y23, hy23, hF⟩ := bnd_some hF
      have hf9 := wA_in hD hA9 hS
      refine va_calli (va_runV (As := [.int (0 : Int32), .int x6]) (rest := []) ⟨hx, hb, hml, hown, hts⟩ (kX5_fixed l D ct ad Z G M3 H.size a ((0 : Int32)) x6 y23 hc hk hy23) (cwV 2 hts gX5_rawSamples_X5_fixed rfl rfl rfl (by decide +kernel) ⟨Nat.le_of_ble_eq_true rfl, Nat.le_of_ble_eq_true rfl⟩) ⟨fun a U g mk q => by obtain ⟨q0, q1, qP, qK, qD, qZ, qN⟩ := q; exact ⟨q0, q1, qP, va_K.moved (u := U) (U := U.calling g mk a) (Vm.Alike.refl U.vm) qK, qD, sF.moved (u := U) (U := U.calling g mk a) (Vm.Alike.refl U.vm) qZ, nF.same rfl qN⟩, va_recv hK hP (ci := 5) (q0 := a) rfl (wld_o ct ad G M3 hc hk (by decide)), fun U hU hW => ⟨rfl, by rw [hU], by rw [hU]; exact hP, va_K.moved hW.alike hK, hD.weaken (fun _ _ _ _ => trivial), by rw [hU]; exact ((hZ.kept hS.2.1).narrow hf9).moved hW.alike, hN.warm hW⟩⟩ rfl rfl hl.1 rfl (lv_room (Nat.le_of_ble_eq_true rfl)) dX5_rawSamples_42 ⟨(Nat.zero_le _), (Nat.zero_le _)⟩) hS (fun q _ h => hf9 q h) hf9 (fun r u t H locs ht hvm hw hB hz1 hk1 hS => ?_)
      obtain ⟨hP, hK9, hD9⟩ := hB
      rw [ht] at hP
      try dsimp only at hw
      subst hw
      have hD := hD9.weaken (fun _ q _ h => hf9 q.1 h)
      obtain ⟨y24, hy24, hF⟩ := bnd_some hF
      have J24 : ∀ (H : Heap) (locs : List Loc) (ls : Array Slot), va_P D classes (wld ct ad G y24) H → va_D A (wld ct ad G y24) → va_S A s.heap H locs → lv_has ls 5 [(3, .int x6), (2, .int x1), (0, .ref (ad a)), (1, va_re ad p0)] → W p l e (headSpec wuX5_rawSamples ({ frames := 3, cells := 0, slots := 0, locals := 62 })).room s m ([.ref (ad a), va_re ad p0] : List Value).toArray below meth c H locs 0 0 (MQ below (va_Qv (fun (_ : Unit) => True) (fun _ t => kE D ct ad G A y t) A) ([.ref (ad a), va_re ad p0] : List Value).toArray s 0 0 A) (F0 m 57 ls []) := by
        intro H locs ls hP hD hS hl
        obtain rfl := Option.some.inj hF
        exact J7 _ _ _ hP hD hS (lv_sub hl [0, 1, 2, 3] rfl)
      clear hF
      have hF := hy24
      clear hy24
      refine lv_if_eq (tgt := 57) hx hb dX5_rawSamples_45 (by decide) (fun c25 => ?_) (fun c25 => ?_)
      · rw [if_pos c25] at hF
        obtain rfl := Option.some.inj hF
        exact J24 _ _ _ hP hD hS (lv_sub hl [0, 1, 2, 3] rfl)
      · rw [if_neg c25] at hF
        refine lv_aload_n hx hb dX5_rawSamples_48 rfl (lv_at hl 2 rfl) ?_
        refine lv_iconst (v := (2 : Int32)) hx hb dX5_rawSamples_49 (by decide) ?_
        refine lv_aload_n hx hb dX5_rawSamples_50 rfl (lv_at hl 2 rfl) ?_
        refine va_get (D := D) (ci := 5) (v := .int (y23.1.1 a 4)) (C := RX5) (T := TX5) (N := 17) hx hb hts (mus hf_X5) hown hK hP a (wld_o ct ad G y23.1 hc hk (by decide)) rfl 4 (by decide) (hts (.fieldLink RX5 60 "VideoSuite$Reader" "begin" "I") (mu mw_292)) (fun _ h9 => h9) rfl dX5_rawSamples_51 ?_
        obtain ⟨x26, ex26, hF⟩ := ltt_some hF
        refine lv_topi (fun zx26 ezx26 => ?_)
        obtain rfl : x26 = zx26 := ex26.trans ezx26.symm
        cases hF
  clear hF
  have hF := hy2
  clear hy2
  refine lv_if_eq (tgt := 21) hx hb dX5_rawSamples_6 (by decide) (fun c27 => ?_) (fun c27 => ?_)
  · rw [if_pos c27] at hF
    obtain rfl := Option.some.inj hF
    exact J2 _ _ _ hP hD hS (lv_sub hl [0, 1, 2] rfl)
  · rw [if_neg c27] at hF
    refine lv_aload_n hx hb dX5_rawSamples_9 rfl (lv_at hl 1 rfl) ?_
    obtain ⟨y28, hy28, hF⟩ := bnd_some hF
    have hf9 := wA_in hD hA9 hS
    refine va_calli (va_runV (As := []) (rest := []) ⟨hx, hb, hml, hown, hts⟩ (kX5_isLast l D ct ad Z G M s.heap.size a y28 hc hk hy28) (cwV 0 hts gX5_rawSamples_X5_isLast rfl rfl rfl (by decide +kernel) ⟨Nat.le_of_ble_eq_true rfl, Nat.le_of_ble_eq_true rfl⟩) ⟨fun a U g mk q => by obtain ⟨q0, q1, qP, qK, qD, qZ, qN⟩ := q; exact ⟨q0, q1, qP, va_K.moved (u := U) (U := U.calling g mk a) (Vm.Alike.refl U.vm) qK, qD, sF.moved (u := U) (U := U.calling g mk a) (Vm.Alike.refl U.vm) qZ, nF.same rfl qN⟩, va_recv hK hP (ci := 5) (q0 := a) rfl (wld_o ct ad G M hc hk (by decide)), fun U hU hW => ⟨rfl, by rw [hU], by rw [hU]; exact hP, va_K.moved hW.alike hK, hD.weaken (fun _ _ _ _ => trivial), by rw [hU]; exact ((hZ.kept hS.2.1).narrow hf9).moved hW.alike, hN.warm hW⟩⟩ rfl rfl hl.1 rfl (lv_room (Nat.le_of_ble_eq_true rfl)) dX5_rawSamples_10 ⟨(Nat.zero_le _), (Nat.zero_le _)⟩) hS (fun q _ h => hf9 q h) hf9 (fun r u t H locs ht hvm hw hB hz1 hk1 hS => ?_)
    obtain ⟨hP, hK9, hD9⟩ := hB
    rw [ht] at hP
    try dsimp only at hw
    subst hw
    have hD := hD9.weaken (fun _ q _ h => hf9 q.1 h)
    obtain ⟨y29, hy29, hF⟩ := bnd_some hF
    have J29 : ∀ (H : Heap) (locs : List Loc) (ls : Array Slot), va_P D classes (wld ct ad G y29) H → va_D A (wld ct ad G y29) → va_S A s.heap H locs → lv_has ls 5 [(2, .int x1), (0, .ref (ad a)), (1, va_re ad p0)] → W p l e (headSpec wuX5_rawSamples ({ frames := 3, cells := 0, slots := 0, locals := 62 })).room s m ([.ref (ad a), va_re ad p0] : List Value).toArray below meth c H locs 0 0 (MQ below (va_Qv (fun (_ : Unit) => True) (fun _ t => kE D ct ad G A y t) A) ([.ref (ad a), va_re ad p0] : List Value).toArray s 0 0 A) (F0 m 21 ls []) := by
      intro H locs ls hP hD hS hl
      obtain rfl := Option.some.inj hF
      exact J2 _ _ _ hP hD hS (lv_sub hl [0, 1, 2] rfl)
    clear hF
    have hF := hy29
    clear hy29
    refine lv_if_ne (tgt := 21) hx hb dX5_rawSamples_13 (by decide) (fun c30 => ?_) (fun c30 => ?_)
    · rw [if_neg c30] at hF
      obtain rfl := Option.some.inj hF
      exact J29 _ _ _ hP hD hS (lv_sub hl [0, 1, 2] rfl)
    · rw [if_pos c30] at hF
      refine lv_aload_n hx hb dX5_rawSamples_16 rfl (lv_at hl 1 rfl) ?_
      refine lv_iconst (v := (4 : Int32)) hx hb dX5_rawSamples_17 (by decide) ?_
      cases hF
set_option maxRecDepth 20000 in
theorem gX5_spread_X5_code : GoodIn wuX5_spread (wsV RX5 142 RX5 yX5_code wuX5_code) := gu_V mw_2255 mw_2257 mw_104 mw_169 mw_2258
set_option maxRecDepth 20000 in
theorem dX5_spread_0 : decode cX5_spread 0 = .ok (.iconst 0, 1) := by decide +kernel
theorem dX5_spread_1 : decode cX5_spread 1 = .ok (.istore 5, 2) := by decide +kernel
theorem dX5_spread_3 : decode cX5_spread 3 = .ok (.iload_n 2, 1) := by decide +kernel
theorem dX5_spread_4 : decode cX5_spread 4 = .ok (.ifCond .le 42, 3) := by decide +kernel
theorem dX5_spread_7 : decode cX5_spread 7 = .ok (.iload_n 2, 1) := by decide +kernel
theorem dX5_spread_8 : decode cX5_spread 8 = .ok (.iload_n 1, 1) := by decide +kernel
theorem dX5_spread_9 : decode cX5_spread 9 = .ok (.if_icmp .ge 37, 3) := by decide +kernel
theorem dX5_spread_12 : decode cX5_spread 12 = .ok (.aload_n 0, 1) := by decide +kernel
theorem dX5_spread_13 : decode cX5_spread 13 = .ok (.bipush 15, 2) := by decide +kernel
theorem dX5_spread_15 : decode cX5_spread 15 = .ok (.iload_n 1, 1) := by decide +kernel
theorem dX5_spread_16 : decode cX5_spread 16 = .ok (.iconst 4, 1) := by decide +kernel
theorem dX5_spread_17 : decode cX5_spread 17 = .ok (.if_icmp .ne 8, 3) := by decide +kernel
theorem dX5_spread_20 : decode cX5_spread 20 = .ok (.bipush 18, 2) := by decide +kernel
theorem dX5_spread_22 : decode cX5_spread 22 = .ok (.goto 4, 3) := by decide +kernel
theorem dX5_spread_25 : decode cX5_spread 25 = .ok (.iconst 3, 1) := by decide +kernel
theorem dX5_spread_26 : decode cX5_spread 26 = .ok (.iload_n 2, 1) := by decide +kernel
theorem dX5_spread_27 : decode cX5_spread 27 = .ok (.iadd, 1) := by decide +kernel
theorem dX5_spread_28 : decode cX5_spread 28 = .ok (.invokevirtual 142, 3) := by decide +kernel
theorem dX5_spread_31 : decode cX5_spread 31 = .ok (.istore 5, 2) := by decide +kernel
theorem dX5_spread_33 : decode cX5_spread 33 = .ok (.iload 5, 2) := by decide +kernel
theorem dX5_spread_35 : decode cX5_spread 35 = .ok (.iload_n 2, 1) := by decide +kernel
theorem dX5_spread_36 : decode cX5_spread 36 = .ok (.iadd, 1) := by decide +kernel
theorem dX5_spread_37 : decode cX5_spread 37 = .ok (.iload_n 1, 1) := by decide +kernel
theorem dX5_spread_38 : decode cX5_spread 38 = .ok (.if_icmp .le 8, 3) := by decide +kernel
theorem dX5_spread_41 : decode cX5_spread 41 = .ok (.aload_n 0, 1) := by decide +kernel
theorem dX5_spread_42 : decode cX5_spread 42 = .ok (.iconst 4, 1) := by decide +kernel
theorem dX5_spread_43 : decode cX5_spread 43 = .ok (.invokevirtual 126, 3) := by decide +kernel
theorem dX5_spread_46 : decode cX5_spread 46 = .ok (.iload 4, 2) := by decide +kernel
theorem dX5_spread_48 : decode cX5_spread 48 = .ok (.iload 5, 2) := by decide +kernel
theorem dX5_spread_50 : decode cX5_spread 50 = .ok (.iadd, 1) := by decide +kernel
theorem dX5_spread_51 : decode cX5_spread 51 = .ok (.iload_n 2, 1) := by decide +kernel
theorem dX5_spread_52 : decode cX5_spread 52 = .ok (.iadd, 1) := by decide +kernel
theorem dX5_spread_53 : decode cX5_spread 53 = .ok (.iload_n 1, 1) := by decide +kernel
theorem dX5_spread_54 : decode cX5_spread 54 = .ok (.bipush 15, 2) := by decide +kernel
theorem dX5_spread_56 : decode cX5_spread 56 = .ok (.if_icmp .ne 7, 3) := by decide +kernel
theorem dX5_spread_59 : decode cX5_spread 59 = .ok (.iconst 0, 1) := by decide +kernel
theorem dX5_spread_60 : decode cX5_spread 60 = .ok (.goto 4, 3) := by decide +kernel
theorem dX5_spread_63 : decode cX5_spread 63 = .ok (.iconst 1, 1) := by decide +kernel
theorem dX5_spread_64 : decode cX5_spread 64 = .ok (.isub, 1) := by decide +kernel
theorem dX5_spread_65 : decode cX5_spread 65 = .ok (.istore 6, 2) := by decide +kernel
theorem dX5_spread_67 : decode cX5_spread 67 = .ok (.iconst 0, 1) := by decide +kernel
theorem dX5_spread_68 : decode cX5_spread 68 = .ok (.istore 7, 2) := by decide +kernel
theorem dX5_spread_70 : decode cX5_spread 70 = .ok (.iload 7, 2) := by decide +kernel
theorem dX5_spread_72 : decode cX5_spread 72 = .ok (.iload_n 2, 1) := by decide +kernel
theorem dX5_spread_73 : decode cX5_spread 73 = .ok (.if_icmp .ge 87, 3) := by decide +kernel
theorem dX5_spread_76 : decode cX5_spread 76 = .ok (.aload_n 3, 1) := by decide +kernel
theorem dX5_spread_77 : decode cX5_spread 77 = .ok (.iload 6, 2) := by decide +kernel
theorem dX5_spread_79 : decode cX5_spread 79 = .ok (.aload_n 0, 1) := by decide +kernel
theorem dX5_spread_80 : decode cX5_spread 80 = .ok (.getfield 21, 3) := by decide +kernel
theorem dX5_spread_83 : decode cX5_spread 83 = .ok (.iload 7, 2) := by decide +kernel
theorem dX5_spread_85 : decode cX5_spread 85 = .ok (.iaload, 1) := by decide +kernel
theorem dX5_spread_86 : decode cX5_spread 86 = .ok (.iastore, 1) := by decide +kernel
theorem dX5_spread_87 : decode cX5_spread 87 = .ok (.iload 7, 2) := by decide +kernel
theorem dX5_spread_89 : decode cX5_spread 89 = .ok (.iconst 1, 1) := by decide +kernel
theorem dX5_spread_90 : decode cX5_spread 90 = .ok (.iadd, 1) := by decide +kernel
theorem dX5_spread_91 : decode cX5_spread 91 = .ok (.iload_n 2, 1) := by decide +kernel
theorem dX5_spread_92 : decode cX5_spread 92 = .ok (.if_icmp .ge 59, 3) := by decide +kernel
theorem dX5_spread_95 : decode cX5_spread 95 = .ok (.iload 5, 2) := by decide +kernel
theorem dX5_spread_97 : decode cX5_spread 97 = .ok (.ifCond .le 54, 3) := by decide +kernel
theorem dX5_spread_100 : decode cX5_spread 100 = .ok (.aload_n 0, 1) := by decide +kernel
theorem dX5_spread_101 : decode cX5_spread 101 = .ok (.bipush 16, 2) := by decide +kernel
theorem dX5_spread_103 : decode cX5_spread 103 = .ok (.bipush 21, 2) := by decide +kernel
theorem dX5_spread_105 : decode cX5_spread 105 = .ok (.iload 5, 2) := by decide +kernel
theorem dX5_spread_107 : decode cX5_spread 107 = .ok (.bipush 7, 2) := by decide +kernel
theorem dX5_spread_109 : decode cX5_spread 109 = .ok (.if_icmp .ge 8, 3) := by decide +kernel
theorem dX5_spread_112 : decode cX5_spread 112 = .ok (.iload 5, 2) := by decide +kernel
theorem dX5_spread_114 : decode cX5_spread 114 = .ok (.goto 5, 3) := by decide +kernel
theorem dX5_spread_117 : decode cX5_spread 117 = .ok (.bipush 7, 2) := by decide +kernel
theorem dX5_spread_119 : decode cX5_spread 119 = .ok (.iadd, 1) := by decide +kernel
theorem dX5_spread_120 : decode cX5_spread 120 = .ok (.invokevirtual 142, 3) := by decide +kernel
theorem dX5_spread_123 : decode cX5_spread 123 = .ok (.istore 8, 2) := by decide +kernel
theorem dX5_spread_125 : decode cX5_spread 125 = .ok (.iload 8, 2) := by decide +kernel
theorem dX5_spread_127 : decode cX5_spread 127 = .ok (.iload 5, 2) := by decide +kernel
theorem dX5_spread_129 : decode cX5_spread 129 = .ok (.if_icmp .le 8, 3) := by decide +kernel
theorem dX5_spread_132 : decode cX5_spread 132 = .ok (.aload_n 0, 1) := by decide +kernel
theorem dX5_spread_133 : decode cX5_spread 133 = .ok (.iconst 4, 1) := by decide +kernel
theorem dX5_spread_134 : decode cX5_spread 134 = .ok (.invokevirtual 126, 3) := by decide +kernel
theorem dX5_spread_137 : decode cX5_spread 137 = .ok (.iload 5, 2) := by decide +kernel
theorem dX5_spread_139 : decode cX5_spread 139 = .ok (.iload 8, 2) := by decide +kernel
theorem dX5_spread_141 : decode cX5_spread 141 = .ok (.isub, 1) := by decide +kernel
theorem dX5_spread_142 : decode cX5_spread 142 = .ok (.istore 5, 2) := by decide +kernel
theorem dX5_spread_144 : decode cX5_spread 144 = .ok (.iload 6, 2) := by decide +kernel
theorem dX5_spread_146 : decode cX5_spread 146 = .ok (.iload 8, 2) := by decide +kernel
theorem dX5_spread_148 : decode cX5_spread 148 = .ok (.isub, 1) := by decide +kernel
theorem dX5_spread_149 : decode cX5_spread 149 = .ok (.istore 6, 2) := by decide +kernel
theorem dX5_spread_151 : decode cX5_spread 151 = .ok (.iinc 6 (-1), 3) := by decide +kernel
theorem dX5_spread_154 : decode cX5_spread 154 = .ok (.iinc 7 1, 3) := by decide +kernel
theorem dX5_spread_157 : decode cX5_spread 157 = .ok (.goto (-87), 3) := by decide +kernel
theorem dX5_spread_160 : decode cX5_spread 160 = .ok (.return_, 1) := by decide +kernel
def FX5_spread (G : GG) (M : DD) (a : Nat) (p0 : Int32) (p1 : Int32) (p2 : Option Nat) (p3 : Int32) : Option (DD) :=
  bnd (if p1 ≤ ((0 : Int32)) then (some ((0 : Int32), M)) else
  (bnd (if p0 ≤ p1 then (some ((0 : Int32), M)) else
  (bnd (if p0 = ((4 : Int32)) then (some ((18 : Int32))) else
  (some ((3 : Int32)))) fun (y34 : Int32) =>
  ltt ((y34 + p1)) fun x35 =>
  bnd (FX5_code G M a ((15 : Int32)) x35) fun y36 =>
  ltt ((y36.2 + p1)) fun x37 =>
  bnd (if x37 ≤ p0 then (some (y36.1)) else
  (none)) fun (y38 : DD) =>
  some (y36.2, y38))) fun (y32 : Int32 × DD) =>
  some (y32.1, y32.2))) fun (y1 : Int32 × DD) =>
  ltt ((p3 + y1.1)) fun x2 =>
  ltt ((x2 + p1)) fun x3 =>
  bnd (if p0 = ((15 : Int32)) then (some ((0 : Int32))) else
  (some ((1 : Int32)))) fun (y4 : Int32) =>
  ltt ((x3 - y4)) fun x5 =>
  bnd (itr (fun (s7 : Int32 × Int32 × Int32 × DD) => ((if p1 ≤ s7.2.2.1 then (some (.inr (s7.1, s7.2.1, s7.2.2.1, s7.2.2.2))) else
  (dr G 13 ((s7.2.2.2.2 a 14)) fun b11 =>
  chk (¬ (s7.2.2.1 < 0 ∨ G.2.2 b11 ≤ s7.2.2.1.toNatClampNeg)) <|
  ltt (s7.2.2.2.1 b11 s7.2.2.1.toNatClampNeg) fun x12 =>
  dr G 13 p2 fun b13 =>
  chk (¬ (s7.2.1 < 0 ∨ G.2.2 b13 ≤ s7.2.1.toNatClampNeg)) <|
  ltt (uI s7.2.2.2 b13 s7.2.1.toNatClampNeg x12) fun M14 =>
  ltt ((s7.2.2.1 + ((1 : Int32)))) fun x15 =>
  bnd (if p1 ≤ x15 then (some (s7.1, s7.2.1, M14)) else
  (bnd (if s7.1 ≤ ((0 : Int32)) then (some (s7.1, s7.2.1, M14)) else
  (bnd (if ((7 : Int32)) ≤ s7.1 then (some ((7 : Int32))) else
  (some (s7.1))) fun (y22 : Int32) =>
  ltt ((((21 : Int32)) + y22)) fun x23 =>
  bnd (FX5_code G M14 a ((16 : Int32)) x23) fun y24 =>
  bnd (if y24.2 ≤ s7.1 then (some (y24.1)) else
  (none)) fun (y25 : DD) =>
  ltt ((s7.1 - y24.2)) fun x26 =>
  ltt ((s7.2.1 - y24.2)) fun x27 =>
  some (x26, x27, y25))) fun (y20 : Int32 × Int32 × DD) =>
  some (y20.1, y20.2.1, y20.2.2))) fun (y16 : Int32 × Int32 × DD) =>
  ltt (y16.2.1 + (-1 : Int32)) fun x17 =>
  ltt (s7.2.2.1 + (1 : Int32)) fun x18 =>
  some (.inl (y16.1, x17, x18, y16.2.2)))) : Option ((Int32 × Int32 × Int32 × DD) ⊕ (Int32 × Int32 × Int32 × DD)))) 1000000 (y1.1, x5, (0 : Int32), y1.2)) fun (y6 : Int32 × Int32 × Int32 × DD) =>
  some y6.2.2.2
set_option maxHeartbeats 4000000 in
set_option maxRecDepth 100000 in
theorem kX5_spread (l : Launch) (D : va_G) (ct : CT) (ad : Nat → Nat) (Z : Nat → Nat) (G : GG) (M : DD) (sz : Nat) (a : Nat) (p0 : Int32) (p1 : Int32) (p2 : Option Nat) (p3 : Int32) (y : DD) (hc : a < G.1) (hk : G.2.1 a = 5) (hF : FX5_spread G M a p0 p1 p2 p3 = some y) : Met l yX5_spread wuX5_spread ({ frames := 2, cells := 0, slots := 0, locals := 51 }) (va_Pc [.ref (ad a), .int p0, .int p1, va_re ad p2, .int p3] (kB D ct ad Z G M sz)) (va_Qv (fun (_ : Unit) => True) (fun _ t => kE D ct ad G (wA ad G sz) y t) (wA ad G sz)) 0 0 (wA ad G sz) := by
  refine Met.ofW (cc := cX5_spread) (maxL := 9) (ret := none) (by decide) rfl ?_
  intro p e s m args below meth c s₁ B hml hv
  obtain ⟨rfl, hsz, hP, hK, hD0, hZ, hN⟩ := hv
  have hx := B.exec
  have hb := B.bytes
  have hr := B.returns
  have hts := atoms_spec (ws := wuX5_spread) B.pre
  have hown : s.vm.findClass RX5 = some m.cls := findClass_of_methodNamed B.named
  have hlocks := B.notSynchronized
  subst hsz
  have hD := wD_self (sz := s.heap.size) hD0
  have hA9 : ∀ q, s.heap.size ≤ q → wA ad G s.heap.size q := fun q h => Or.inr h
  generalize hAe : wA ad G s.heap.size = A at hD hA9 hZ ⊢
  have hS : va_S A s.heap s.heap [] := va_S.rf
  have hl := lv_entry ([.ref (ad a), .int p0, .int p1, va_re ad p2, .int p3]) (n := 9) (by cases p2 <;> exact Nat.le_of_ble_eq_true rfl)
  rw [lg_entry_eq]
  generalize (lg_sl ([.ref (ad a), .int p0, .int p1, va_re ad p2, .int p3]) ++ List.replicate (9 - (lg_sl ([.ref (ad a), .int p0, .int p1, va_re ad p2, .int p3])).length) Slot.unset).toArray = ls at hl ⊢
  have hl : lv_has ls 9 [(0, .ref (ad a)), (1, .int p0), (2, .int p1), (3, va_re ad p2), (4, .int p3)] := by have e9 : lv_args 0 [.ref (ad a), .int p0, .int p1, va_re ad p2, .int p3] = [(0, .ref (ad a)), (1, .int p0), (2, .int p1), (3, va_re ad p2), (4, .int p3)] := (by cases p2 <;> rfl); rw [e9] at hl; exact hl
  unfold FX5_spread at hF
  refine lv_iconst (v := (0 : Int32)) hx hb dX5_spread_0 (by decide) ?_
  refine lv_istore (lv' := [(5, .int (0 : Int32)), (0, .ref (ad a)), (1, .int p0), (2, .int p1), (3, va_re ad p2), (4, .int p3)]) hx hb dX5_spread_1 hl (by decide) rfl (fun ls hl => ?_)
  refine lv_iload_n hx hb dX5_spread_3 rfl (lv_at hl 3 rfl) ?_
  obtain ⟨y1, hy1, hF⟩ := bnd_some hF
  have J1 : ∀ (H : Heap) (locs : List Loc) (ls : Array Slot), va_P D classes (wld ct ad G y1.2) H → va_D A (wld ct ad G y1.2) → va_S A s.heap H locs → lv_has ls 9 [(5, .int y1.1), (0, .ref (ad a)), (1, .int p0), (2, .int p1), (3, va_re ad p2), (4, .int p3)] → W p l e (headSpec wuX5_spread ({ frames := 2, cells := 0, slots := 0, locals := 51 })).room s m ([.ref (ad a), .int p0, .int p1, va_re ad p2, .int p3] : List Value).toArray below meth c H locs 0 0 (MQ below (va_Qv (fun (_ : Unit) => True) (fun _ t => kE D ct ad G A y t) A) ([.ref (ad a), .int p0, .int p1, va_re ad p2, .int p3] : List Value).toArray s 0 0 A) (F0 m 46 ls []) := by
    intro H locs ls hP hD hS hl
    refine lv_iload hx hb dX5_spread_46 (lv_at hl 5 rfl) ?_
    refine lv_iload hx hb dX5_spread_48 (lv_at hl 0 rfl) ?_
    refine lv_iadd hx hb dX5_spread_50 ?_
    obtain ⟨x2, ex2, hF⟩ := ltt_some hF
    refine lv_topi (fun zx2 ezx2 => ?_)
    obtain rfl : x2 = zx2 := ex2.trans ezx2.symm
    refine lv_iload_n hx hb dX5_spread_51 rfl (lv_at hl 3 rfl) ?_
    refine lv_iadd hx hb dX5_spread_52 ?_
    obtain ⟨x3, ex3, hF⟩ := ltt_some hF
    refine lv_topi (fun zx3 ezx3 => ?_)
    obtain rfl : x3 = zx3 := ex3.trans ezx3.symm
    refine lv_iload_n hx hb dX5_spread_53 rfl (lv_at hl 2 rfl) ?_
    refine lv_bipush (v := (15 : Int32)) hx hb dX5_spread_54 (by decide) ?_
    obtain ⟨y4, hy4, hF⟩ := bnd_some hF
    have J4 : ∀ (H : Heap) (locs : List Loc) (ls : Array Slot), va_P D classes (wld ct ad G y1.2) H → va_D A (wld ct ad G y1.2) → va_S A s.heap H locs → lv_has ls 9 [(5, .int y1.1), (0, .ref (ad a)), (1, .int p0), (2, .int p1), (3, va_re ad p2), (4, .int p3)] → W p l e (headSpec wuX5_spread ({ frames := 2, cells := 0, slots := 0, locals := 51 })).room s m ([.ref (ad a), .int p0, .int p1, va_re ad p2, .int p3] : List Value).toArray below meth c H locs 0 0 (MQ below (va_Qv (fun (_ : Unit) => True) (fun _ t => kE D ct ad G A y t) A) ([.ref (ad a), .int p0, .int p1, va_re ad p2, .int p3] : List Value).toArray s 0 0 A) (F0 m 64 ls [.int y4, .int x3]) := by
      intro H locs ls hP hD hS hl
      refine lv_isub hx hb dX5_spread_64 ?_
      obtain ⟨x5, ex5, hF⟩ := ltt_some hF
      refine lv_topi (fun zx5 ezx5 => ?_)
      obtain rfl : x5 = zx5 := ex5.trans ezx5.symm
      refine lv_istore (lv' := [(6, .int x5), (5, .int y1.1), (0, .ref (ad a)), (1, .int p0), (2, .int p1), (3, va_re ad p2), (4, .int p3)]) hx hb dX5_spread_65 hl (by decide) rfl (fun ls hl => ?_)
      refine lv_iconst (v := (0 : Int32)) hx hb dX5_spread_67 (by decide) ?_
      refine lv_istore (lv' := [(7, .int (0 : Int32)), (6, .int x5), (5, .int y1.1), (0, .ref (ad a)), (1, .int p0), (2, .int p1), (3, va_re ad p2), (4, .int p3)]) hx hb dX5_spread_68 hl (by decide) rfl (fun ls hl => ?_)
      obtain ⟨y6, hy6, hF⟩ := bnd_some hF
      have K6 : ∀ (H : Heap) (locs : List Loc) (ls : Array Slot), va_P D classes (wld ct ad G y6.2.2.2) H → va_D A (wld ct ad G y6.2.2.2) → va_S A s.heap H locs → lv_has ls 9 [(7, .int y6.2.2.1), (6, .int y6.2.1), (5, .int y6.1), (0, .ref (ad a)), (1, .int p0), (2, .int p1), (3, va_re ad p2), (4, .int p3)] → W p l e (headSpec wuX5_spread ({ frames := 2, cells := 0, slots := 0, locals := 51 })).room s m ([.ref (ad a), .int p0, .int p1, va_re ad p2, .int p3] : List Value).toArray below meth c H locs 0 0 (MQ below (va_Qv (fun (_ : Unit) => True) (fun _ t => kE D ct ad G A y t) A) ([.ref (ad a), .int p0, .int p1, va_re ad p2, .int p3] : List Value).toArray s 0 0 A) (F0 m 160 ls []) := by
        intro H locs ls hP hD hS hl
        obtain rfl := Option.some.inj hF
        exact W.vret hx hb hr (fun t ht hW => ⟨⟨(), rfl, trivial, ⟨by rw [ht]; exact hP, va_K.moved hW.alike hK, hD⟩⟩, hS.F ht⟩) hS.2.2 dX5_spread_160
      clear hF
      refine itr_rule (fun (s7 : Int32 × Int32 × Int32 × DD) => ∀ (H : Heap) (locs : List Loc) (ls : Array Slot), va_P D classes (wld ct ad G s7.2.2.2) H → va_D A (wld ct ad G s7.2.2.2) → va_S A s.heap H locs → lv_has ls 9 [(7, .int s7.2.2.1), (6, .int s7.2.1), (5, .int s7.1), (0, .ref (ad a)), (1, .int p0), (2, .int p1), (3, va_re ad p2), (4, .int p3)] → W p l e (headSpec wuX5_spread ({ frames := 2, cells := 0, slots := 0, locals := 51 })).room s m ([.ref (ad a), .int p0, .int p1, va_re ad p2, .int p3] : List Value).toArray below meth c H locs 0 0 (MQ below (va_Qv (fun (_ : Unit) => True) (fun _ t => kE D ct ad G A y t) A) ([.ref (ad a), .int p0, .int p1, va_re ad p2, .int p3] : List Value).toArray s 0 0 A) (F0 m 70 ls [])) ?_ _ _ hy6 _ _ _ hP hD hS (lv_sub hl [0, 1, 2, 3, 4, 5, 6, 7] rfl)
      rintro s7 ⟨z9, hF, hwz9⟩ H locs ls hP hD hS hl
      try dsimp only at hF
      refine lv_iload hx hb dX5_spread_70 (lv_at hl 0 rfl) ?_
      refine lv_iload_n hx hb dX5_spread_72 rfl (lv_at hl 5 rfl) ?_
      refine lv_icmp_ge (tgt := 160) hx hb dX5_spread_73 (by decide) (fun c10 => ?_) (fun c10 => ?_)
      · rw [if_pos c10] at hF
        obtain rfl := Option.some.inj hF
        subst hwz9
        exact K6 _ _ _ hP hD hS (lv_sub hl [0, 1, 2, 3, 4, 5, 6, 7] rfl)
      · rw [if_neg c10] at hF
        refine lv_aloadq_n hx hb dX5_spread_76 rfl (lv_at hl 6 rfl) ?_
        refine lv_iload hx hb dX5_spread_77 (lv_at hl 1 rfl) ?_
        refine lv_aload_n hx hb dX5_spread_79 rfl (lv_at hl 3 rfl) ?_
        refine va_get (D := D) (ci := 5) (v := va_re ad (s7.2.2.2.2 a 14)) (C := RX5) (T := TX5) (N := 17) hx hb hts (mus hf_X5) hown hK hP a (wld_o ct ad G s7.2.2.2 hc hk (by decide)) rfl 14 (by decide) (hts (.fieldLink RX5 21 "VideoSuite$Reader" "size" "[I") (mu mw_305)) (fun _ h9 => h9) rfl dX5_spread_80 ?_
        refine lv_iload hx hb dX5_spread_83 (lv_at hl 0 rfl) ?_
        obtain ⟨b11, ho11, hc11, hk11, hF⟩ := dr_some hF
        refine W_st (st' := [.int s7.2.2.1, .ref (ad b11), .int s7.2.1, va_re ad p2]) (by rw [va_some ho11]) ?_
        obtain ⟨hvc, hF⟩ := chk_some hF
        refine va_iald hx hb hK hP b11 1 (wld_i ct ad G s7.2.2.2 hc11 hk11) rfl hvc dX5_spread_85 ?_
        obtain ⟨x12, ex12, hF⟩ := ltt_some hF
        refine lv_topi (fun zx12 ezx12 => ?_)
        obtain rfl : x12 = zx12 := ex12.trans ezx12.symm
        obtain ⟨b13, ho13, hc13, hk13, hF⟩ := dr_some hF
        refine W_st (st' := [.int x12, .int s7.2.1, .ref (ad b13)]) (by rw [va_some ho13]) ?_
        obtain ⟨hvc, hF⟩ := chk_some hF
        refine va_iast hx hb hK hP hD hS b13 1 (wld_i ct ad G s7.2.2.2 hc13 hk13) rfl hvc dX5_spread_86 (fun H locs hP hD hS => ?_)
        obtain ⟨M14, eM14, hF⟩ := ltt_some hF
        rw [set_i ct ad G s7.2.2.2 hc13 hk13, ← eM14] at hP hD
        refine lv_iload hx hb dX5_spread_87 (lv_at hl 0 rfl) ?_
        refine lv_iconst (v := (1 : Int32)) hx hb dX5_spread_89 (by decide) ?_
        refine lv_iadd hx hb dX5_spread_90 ?_
        obtain ⟨x15, ex15, hF⟩ := ltt_some hF
        refine lv_topi (fun zx15 ezx15 => ?_)
        obtain rfl : x15 = zx15 := ex15.trans ezx15.symm
        refine lv_iload_n hx hb dX5_spread_91 rfl (lv_at hl 5 rfl) ?_
        obtain ⟨y16, hy16, hF⟩ := bnd_some hF
        have J16 : ∀ (H : Heap) (locs : List Loc) (ls : Array Slot), va_P D classes (wld ct ad G y16.2.2) H → va_D A (wld ct ad G y16.2.2) → va_S A s.heap H locs → lv_has ls 9 [(7, .int s7.2.2.1), (6, .int y16.2.1), (5, .int y16.1), (0, .ref (ad a)), (1, .int p0), (2, .int p1), (3, va_re ad p2), (4, .int p3)] → W p l e (headSpec wuX5_spread ({ frames := 2, cells := 0, slots := 0, locals := 51 })).room s m ([.ref (ad a), .int p0, .int p1, va_re ad p2, .int p3] : List Value).toArray below meth c H locs 0 0 (MQ below (va_Qv (fun (_ : Unit) => True) (fun _ t => kE D ct ad G A y t) A) ([.ref (ad a), .int p0, .int p1, va_re ad p2, .int p3] : List Value).toArray s 0 0 A) (F0 m 151 ls []) := by
          intro H locs ls hP hD hS hl
          obtain ⟨x17, ex17, hF⟩ := ltt_some hF
          refine lv_iinc (v := x17) (lv' := [(6, .int x17), (7, .int s7.2.2.1), (5, .int y16.1), (0, .ref (ad a)), (1, .int p0), (2, .int p1), (3, va_re ad p2), (4, .int p3)]) hx hb dX5_spread_151 hl (k := 1) rfl (by rw [ex17]; rfl) (by decide) rfl (fun ls hl => ?_)
          obtain ⟨x18, ex18, hF⟩ := ltt_some hF
          refine lv_iinc (v := x18) (lv' := [(7, .int x18), (6, .int x17), (5, .int y16.1), (0, .ref (ad a)), (1, .int p0), (2, .int p1), (3, va_re ad p2), (4, .int p3)]) hx hb dX5_spread_154 hl (k := 1) rfl (by rw [ex18]; rfl) (by decide) rfl (fun ls hl => ?_)
          refine lv_goto (tgt := 70) hx hb dX5_spread_157 (by decide) ?_
          obtain rfl := Option.some.inj hF
          exact hwz9 _ _ _ hP hD hS (lv_sub hl [0, 1, 2, 3, 4, 5, 6, 7] rfl)
        clear hF
        have hF := hy16
        clear hy16
        refine lv_icmp_ge (tgt := 151) hx hb dX5_spread_92 (by decide) (fun c19 => ?_) (fun c19 => ?_)
        · rw [if_pos c19] at hF
          obtain rfl := Option.some.inj hF
          exact J16 _ _ _ hP hD hS (lv_sub hl [0, 1, 2, 3, 4, 5, 6, 7] rfl)
        · rw [if_neg c19] at hF
          refine lv_iload hx hb dX5_spread_95 (lv_at hl 2 rfl) ?_
          obtain ⟨y20, hy20, hF⟩ := bnd_some hF
          have J20 : ∀ (H : Heap) (locs : List Loc) (ls : Array Slot), va_P D classes (wld ct ad G y20.2.2) H → va_D A (wld ct ad G y20.2.2) → va_S A s.heap H locs → lv_has ls 9 [(7, .int s7.2.2.1), (6, .int y20.2.1), (5, .int y20.1), (0, .ref (ad a)), (1, .int p0), (2, .int p1), (3, va_re ad p2), (4, .int p3)] → W p l e (headSpec wuX5_spread ({ frames := 2, cells := 0, slots := 0, locals := 51 })).room s m ([.ref (ad a), .int p0, .int p1, va_re ad p2, .int p3] : List Value).toArray below meth c H locs 0 0 (MQ below (va_Qv (fun (_ : Unit) => True) (fun _ t => kE D ct ad G A y t) A) ([.ref (ad a), .int p0, .int p1, va_re ad p2, .int p3] : List Value).toArray s 0 0 A) (F0 m 151 ls []) := by
            intro H locs ls hP hD hS hl
            obtain rfl := Option.some.inj hF
            exact J16 _ _ _ hP hD hS (lv_sub hl [0, 1, 2, 3, 4, 5, 6, 7] rfl)
          clear hF
          have hF := hy20
          clear hy20
          refine lv_if_le (tgt := 151) hx hb dX5_spread_97 (by decide) (fun c21 => ?_) (fun c21 => ?_)
          · rw [if_pos c21] at hF
            obtain rfl := Option.some.inj hF
            exact J20 _ _ _ hP hD hS (lv_sub hl [0, 1, 2, 3, 4, 5, 6, 7] rfl)
          · rw [if_neg c21] at hF
            refine lv_aload_n hx hb dX5_spread_100 rfl (lv_at hl 3 rfl) ?_
            refine lv_bipush (v := (16 : Int32)) hx hb dX5_spread_101 (by decide) ?_
            refine lv_bipush (v := (21 : Int32)) hx hb dX5_spread_103 (by decide) ?_
            refine lv_iload hx hb dX5_spread_105 (lv_at hl 2 rfl) ?_
            refine lv_bipush (v := (7 : Int32)) hx hb dX5_spread_107 (by decide) ?_
            obtain ⟨y22, hy22, hF⟩ := bnd_some hF
            have J22 : ∀ (H : Heap) (locs : List Loc) (ls : Array Slot), va_P D classes (wld ct ad G M14) H → va_D A (wld ct ad G M14) → va_S A s.heap H locs → lv_has ls 9 [(7, .int s7.2.2.1), (6, .int s7.2.1), (5, .int s7.1), (0, .ref (ad a)), (1, .int p0), (2, .int p1), (3, va_re ad p2), (4, .int p3)] → W p l e (headSpec wuX5_spread ({ frames := 2, cells := 0, slots := 0, locals := 51 })).room s m ([.ref (ad a), .int p0, .int p1, va_re ad p2, .int p3] : List Value).toArray below meth c H locs 0 0 (MQ below (va_Qv (fun (_ : Unit) => True) (fun _ t => kE D ct ad G A y t) A) ([.ref (ad a), .int p0, .int p1, va_re ad p2, .int p3] : List Value).toArray s 0 0 A) (F0 m 119 ls [.int y22, .int (21 : Int32), .int (16 : Int32), .ref (ad a)]) := by
              intro H locs ls hP hD hS hl
              refine lv_iadd hx hb dX5_spread_119 ?_
              obtain ⟨x23, ex23, hF⟩ := ltt_some hF
              refine lv_topi (fun zx23 ezx23 => ?_)
              obtain rfl : x23 = zx23 := ex23.trans ezx23.symm
              obtain ⟨y24, hy24, hF⟩ := bnd_some hF
              have hf9 := wA_in hD hA9 hS
              refine va_calli (va_runV (As := [.int (16 : Int32), .int x23]) (rest := []) ⟨hx, hb, hml, hown, hts⟩ (kX5_code l D ct ad Z G M14 H.size a ((16 : Int32)) x23 y24 hc hk hy24) (cwV 2 hts gX5_spread_X5_code rfl rfl rfl (by decide +kernel) ⟨Nat.le_of_ble_eq_true rfl, Nat.le_of_ble_eq_true rfl⟩) ⟨fun a U g mk q => by obtain ⟨q0, q1, qP, qK, qD, qZ, qN⟩ := q; exact ⟨q0, q1, qP, va_K.moved (u := U) (U := U.calling g mk a) (Vm.Alike.refl U.vm) qK, qD, sF.moved (u := U) (U := U.calling g mk a) (Vm.Alike.refl U.vm) qZ, nF.same rfl qN⟩, va_recv hK hP (ci := 5) (q0 := a) rfl (wld_o ct ad G M14 hc hk (by decide)), fun U hU hW => ⟨rfl, by rw [hU], by rw [hU]; exact hP, va_K.moved hW.alike hK, hD.weaken (fun _ _ _ _ => trivial), by rw [hU]; exact ((hZ.kept hS.2.1).narrow hf9).moved hW.alike, hN.warm hW⟩⟩ rfl rfl hl.1 rfl (lv_room (Nat.le_of_ble_eq_true rfl)) dX5_spread_120 ⟨(Nat.zero_le _), (Nat.zero_le _)⟩) hS (fun q _ h => hf9 q h) hf9 (fun r u t H locs ht hvm hw hB hz1 hk1 hS => ?_)
              obtain ⟨hP, hK9, hD9⟩ := hB
              rw [ht] at hP
              try dsimp only at hw
              subst hw
              have hD := hD9.weaken (fun _ q _ h => hf9 q.1 h)
              refine lv_istore (lv' := [(8, .int y24.2), (7, .int s7.2.2.1), (6, .int s7.2.1), (5, .int s7.1), (0, .ref (ad a)), (1, .int p0), (2, .int p1), (3, va_re ad p2), (4, .int p3)]) hx hb dX5_spread_123 hl (by decide) rfl (fun ls hl => ?_)
              refine lv_iload hx hb dX5_spread_125 (lv_at hl 0 rfl) ?_
              refine lv_iload hx hb dX5_spread_127 (lv_at hl 3 rfl) ?_
              obtain ⟨y25, hy25, hF⟩ := bnd_some hF
              have J25 : ∀ (H : Heap) (locs : List Loc) (ls : Array Slot), va_P D classes (wld ct ad G y25) H → va_D A (wld ct ad G y25) → va_S A s.heap H locs → lv_has ls 9 [(8, .int y24.2), (7, .int s7.2.2.1), (6, .int s7.2.1), (5, .int s7.1), (0, .ref (ad a)), (1, .int p0), (2, .int p1), (3, va_re ad p2), (4, .int p3)] → W p l e (headSpec wuX5_spread ({ frames := 2, cells := 0, slots := 0, locals := 51 })).room s m ([.ref (ad a), .int p0, .int p1, va_re ad p2, .int p3] : List Value).toArray below meth c H locs 0 0 (MQ below (va_Qv (fun (_ : Unit) => True) (fun _ t => kE D ct ad G A y t) A) ([.ref (ad a), .int p0, .int p1, va_re ad p2, .int p3] : List Value).toArray s 0 0 A) (F0 m 137 ls []) := by
                intro H locs ls hP hD hS hl
                refine lv_iload hx hb dX5_spread_137 (lv_at hl 3 rfl) ?_
                refine lv_iload hx hb dX5_spread_139 (lv_at hl 0 rfl) ?_
                refine lv_isub hx hb dX5_spread_141 ?_
                obtain ⟨x26, ex26, hF⟩ := ltt_some hF
                refine lv_topi (fun zx26 ezx26 => ?_)
                obtain rfl : x26 = zx26 := ex26.trans ezx26.symm
                refine lv_istore (lv' := [(5, .int x26), (8, .int y24.2), (7, .int s7.2.2.1), (6, .int s7.2.1), (0, .ref (ad a)), (1, .int p0), (2, .int p1), (3, va_re ad p2), (4, .int p3)]) hx hb dX5_spread_142 hl (by decide) rfl (fun ls hl => ?_)
                refine lv_iload hx hb dX5_spread_144 (lv_at hl 3 rfl) ?_
                refine lv_iload hx hb dX5_spread_146 (lv_at hl 1 rfl) ?_
                refine lv_isub hx hb dX5_spread_148 ?_
                obtain ⟨x27, ex27, hF⟩ := ltt_some hF
                refine lv_topi (fun zx27 ezx27 => ?_)
                obtain rfl : x27 = zx27 := ex27.trans ezx27.symm
                refine lv_istore (lv' := [(6, .int x27), (5, .int x26), (8, .int y24.2), (7, .int s7.2.2.1), (0, .ref (ad a)), (1, .int p0), (2, .int p1), (3, va_re ad p2), (4, .int p3)]) hx hb dX5_spread_149 hl (by decide) rfl (fun ls hl => ?_)
                obtain rfl := Option.some.inj hF
                exact J20 _ _ _ hP hD hS (lv_sub hl [3, 0, 1, 4, 5, 6, 7, 8] rfl)
              clear hF
              have hF := hy25
              clear hy25
              refine lv_icmp_le (tgt := 137) hx hb dX5_spread_129 (by decide) (fun c28 => ?_) (fun c28 => ?_)
              · rw [if_pos c28] at hF
                obtain rfl := Option.some.inj hF
                exact J25 _ _ _ hP hD hS (lv_sub hl [0, 1, 2, 3, 4, 5, 6, 7, 8] rfl)
              · rw [if_neg c28] at hF
                refine lv_aload_n hx hb dX5_spread_132 rfl (lv_at hl 4 rfl) ?_
                refine lv_iconst (v := (4 : Int32)) hx hb dX5_spread_133 (by decide) ?_
                cases hF
            clear hF
            have hF := hy22
            clear hy22
            refine lv_icmp_ge (tgt := 117) hx hb dX5_spread_109 (by decide) (fun c29 => ?_) (fun c29 => ?_)
            · rw [if_pos c29] at hF
              refine lv_bipush (v := (7 : Int32)) hx hb dX5_spread_117 (by decide) ?_
              obtain rfl := Option.some.inj hF
              exact J22 _ _ _ hP hD hS (lv_sub hl [0, 1, 2, 3, 4, 5, 6, 7] rfl)
            · rw [if_neg c29] at hF
              refine lv_iload hx hb dX5_spread_112 (lv_at hl 2 rfl) ?_
              refine lv_goto (tgt := 119) hx hb dX5_spread_114 (by decide) ?_
              obtain rfl := Option.some.inj hF
              exact J22 _ _ _ hP hD hS (lv_sub hl [0, 1, 2, 3, 4, 5, 6, 7] rfl)
    clear hF
    have hF := hy4
    clear hy4
    refine lv_icmp_ne (tgt := 63) hx hb dX5_spread_56 (by decide) (fun c30 => ?_) (fun c30 => ?_)
    · rw [if_neg c30] at hF
      refine lv_iconst (v := (1 : Int32)) hx hb dX5_spread_63 (by decide) ?_
      obtain rfl := Option.some.inj hF
      exact J4 _ _ _ hP hD hS (lv_sub hl [0, 1, 2, 3, 4, 5] rfl)
    · rw [if_pos c30] at hF
      refine lv_iconst (v := (0 : Int32)) hx hb dX5_spread_59 (by decide) ?_
      refine lv_goto (tgt := 64) hx hb dX5_spread_60 (by decide) ?_
      obtain rfl := Option.some.inj hF
      exact J4 _ _ _ hP hD hS (lv_sub hl [0, 1, 2, 3, 4, 5] rfl)
  clear hF
  have hF := hy1
  clear hy1
  refine lv_if_le (tgt := 46) hx hb dX5_spread_4 (by decide) (fun c31 => ?_) (fun c31 => ?_)
  · rw [if_pos c31] at hF
    obtain rfl := Option.some.inj hF
    exact J1 _ _ _ hP hD hS (lv_sub hl [0, 1, 2, 3, 4, 5] rfl)
  · rw [if_neg c31] at hF
    refine lv_iload_n hx hb dX5_spread_7 rfl (lv_at hl 3 rfl) ?_
    refine lv_iload_n hx hb dX5_spread_8 rfl (lv_at hl 2 rfl) ?_
    obtain ⟨y32, hy32, hF⟩ := bnd_some hF
    have J32 : ∀ (H : Heap) (locs : List Loc) (ls : Array Slot), va_P D classes (wld ct ad G y32.2) H → va_D A (wld ct ad G y32.2) → va_S A s.heap H locs → lv_has ls 9 [(5, .int y32.1), (0, .ref (ad a)), (1, .int p0), (2, .int p1), (3, va_re ad p2), (4, .int p3)] → W p l e (headSpec wuX5_spread ({ frames := 2, cells := 0, slots := 0, locals := 51 })).room s m ([.ref (ad a), .int p0, .int p1, va_re ad p2, .int p3] : List Value).toArray below meth c H locs 0 0 (MQ below (va_Qv (fun (_ : Unit) => True) (fun _ t => kE D ct ad G A y t) A) ([.ref (ad a), .int p0, .int p1, va_re ad p2, .int p3] : List Value).toArray s 0 0 A) (F0 m 46 ls []) := by
      intro H locs ls hP hD hS hl
      obtain rfl := Option.some.inj hF
      exact J1 _ _ _ hP hD hS (lv_sub hl [0, 1, 2, 3, 4, 5] rfl)
    clear hF
    have hF := hy32
    clear hy32
    refine lv_icmp_ge (tgt := 46) hx hb dX5_spread_9 (by decide) (fun c33 => ?_) (fun c33 => ?_)
    · rw [if_pos c33] at hF
      obtain rfl := Option.some.inj hF
      exact J32 _ _ _ hP hD hS (lv_sub hl [0, 1, 2, 3, 4, 5] rfl)
    · rw [if_neg c33] at hF
      refine lv_aload_n hx hb dX5_spread_12 rfl (lv_at hl 1 rfl) ?_
      refine lv_bipush (v := (15 : Int32)) hx hb dX5_spread_13 (by decide) ?_
      refine lv_iload_n hx hb dX5_spread_15 rfl (lv_at hl 2 rfl) ?_
      refine lv_iconst (v := (4 : Int32)) hx hb dX5_spread_16 (by decide) ?_
      obtain ⟨y34, hy34, hF⟩ := bnd_some hF
      have J34 : ∀ (H : Heap) (locs : List Loc) (ls : Array Slot), va_P D classes (wld ct ad G M) H → va_D A (wld ct ad G M) → va_S A s.heap H locs → lv_has ls 9 [(5, .int (0 : Int32)), (0, .ref (ad a)), (1, .int p0), (2, .int p1), (3, va_re ad p2), (4, .int p3)] → W p l e (headSpec wuX5_spread ({ frames := 2, cells := 0, slots := 0, locals := 51 })).room s m ([.ref (ad a), .int p0, .int p1, va_re ad p2, .int p3] : List Value).toArray below meth c H locs 0 0 (MQ below (va_Qv (fun (_ : Unit) => True) (fun _ t => kE D ct ad G A y t) A) ([.ref (ad a), .int p0, .int p1, va_re ad p2, .int p3] : List Value).toArray s 0 0 A) (F0 m 26 ls [.int y34, .int (15 : Int32), .ref (ad a)]) := by
        intro H locs ls hP hD hS hl
        refine lv_iload_n hx hb dX5_spread_26 rfl (lv_at hl 3 rfl) ?_
        refine lv_iadd hx hb dX5_spread_27 ?_
        obtain ⟨x35, ex35, hF⟩ := ltt_some hF
        refine lv_topi (fun zx35 ezx35 => ?_)
        obtain rfl : x35 = zx35 := ex35.trans ezx35.symm
        obtain ⟨y36, hy36, hF⟩ := bnd_some hF
        have hf9 := wA_in hD hA9 hS
        refine va_calli (va_runV (As := [.int (15 : Int32), .int x35]) (rest := []) ⟨hx, hb, hml, hown, hts⟩ (kX5_code l D ct ad Z G M H.size a ((15 : Int32)) x35 y36 hc hk hy36) (cwV 2 hts gX5_spread_X5_code rfl rfl rfl (by decide +kernel) ⟨Nat.le_of_ble_eq_true rfl, Nat.le_of_ble_eq_true rfl⟩) ⟨fun a U g mk q => by obtain ⟨q0, q1, qP, qK, qD, qZ, qN⟩ := q; exact ⟨q0, q1, qP, va_K.moved (u := U) (U := U.calling g mk a) (Vm.Alike.refl U.vm) qK, qD, sF.moved (u := U) (U := U.calling g mk a) (Vm.Alike.refl U.vm) qZ, nF.same rfl qN⟩, va_recv hK hP (ci := 5) (q0 := a) rfl (wld_o ct ad G M hc hk (by decide)), fun U hU hW => ⟨rfl, by rw [hU], by rw [hU]; exact hP, va_K.moved hW.alike hK, hD.weaken (fun _ _ _ _ => trivial), by rw [hU]; exact ((hZ.kept hS.2.1).narrow hf9).moved hW.alike, hN.warm hW⟩⟩ rfl rfl hl.1 rfl (lv_room (Nat.le_of_ble_eq_true rfl)) dX5_spread_28 ⟨(Nat.zero_le _), (Nat.zero_le _)⟩) hS (fun q _ h => hf9 q h) hf9 (fun r u t H locs ht hvm hw hB hz1 hk1 hS => ?_)
        obtain ⟨hP, hK9, hD9⟩ := hB
        rw [ht] at hP
        try dsimp only at hw
        subst hw
        have hD := hD9.weaken (fun _ q _ h => hf9 q.1 h)
        refine lv_istore (lv' := [(5, .int y36.2), (0, .ref (ad a)), (1, .int p0), (2, .int p1), (3, va_re ad p2), (4, .int p3)]) hx hb dX5_spread_31 hl (by decide) rfl (fun ls hl => ?_)
        refine lv_iload hx hb dX5_spread_33 (lv_at hl 0 rfl) ?_
        refine lv_iload_n hx hb dX5_spread_35 rfl (lv_at hl 3 rfl) ?_
        refine lv_iadd hx hb dX5_spread_36 ?_
        obtain ⟨x37, ex37, hF⟩ := ltt_some hF
        refine lv_topi (fun zx37 ezx37 => ?_)
        obtain rfl : x37 = zx37 := ex37.trans ezx37.symm
        refine lv_iload_n hx hb dX5_spread_37 rfl (lv_at hl 2 rfl) ?_
        obtain ⟨y38, hy38, hF⟩ := bnd_some hF
        have J38 : ∀ (H : Heap) (locs : List Loc) (ls : Array Slot), va_P D classes (wld ct ad G y38) H → va_D A (wld ct ad G y38) → va_S A s.heap H locs → lv_has ls 9 [(5, .int y36.2), (0, .ref (ad a)), (1, .int p0), (2, .int p1), (3, va_re ad p2), (4, .int p3)] → W p l e (headSpec wuX5_spread ({ frames := 2, cells := 0, slots := 0, locals := 51 })).room s m ([.ref (ad a), .int p0, .int p1, va_re ad p2, .int p3] : List Value).toArray below meth c H locs 0 0 (MQ below (va_Qv (fun (_ : Unit) => True) (fun _ t => kE D ct ad G A y t) A) ([.ref (ad a), .int p0, .int p1, va_re ad p2, .int p3] : List Value).toArray s 0 0 A) (F0 m 46 ls []) := by
          intro H locs ls hP hD hS hl
          obtain rfl := Option.some.inj hF
          exact J32 _ _ _ hP hD hS (lv_sub hl [0, 1, 2, 3, 4, 5] rfl)
        clear hF
        have hF := hy38
        clear hy38
        refine lv_icmp_le (tgt := 46) hx hb dX5_spread_38 (by decide) (fun c39 => ?_) (fun c39 => ?_)
        · rw [if_pos c39] at hF
          obtain rfl := Option.some.inj hF
          exact J38 _ _ _ hP hD hS (lv_sub hl [0, 1, 2, 3, 4, 5] rfl)
        · rw [if_neg c39] at hF
          refine lv_aload_n hx hb dX5_spread_41 rfl (lv_at hl 1 rfl) ?_
          refine lv_iconst (v := (4 : Int32)) hx hb dX5_spread_42 (by decide) ?_
          cases hF
      clear hF
      have hF := hy34
      clear hy34
      refine lv_icmp_ne (tgt := 25) hx hb dX5_spread_17 (by decide) (fun c40 => ?_) (fun c40 => ?_)
      · rw [if_neg c40] at hF
        refine lv_iconst (v := (3 : Int32)) hx hb dX5_spread_25 (by decide) ?_
        obtain rfl := Option.some.inj hF
        exact J34 _ _ _ hP hD hS (lv_sub hl [0, 1, 2, 3, 4, 5] rfl)
      · rw [if_pos c40] at hF
        refine lv_bipush (v := (18 : Int32)) hx hb dX5_spread_20 (by decide) ?_
        refine lv_goto (tgt := 26) hx hb dX5_spread_22 (by decide) ?_
        obtain rfl := Option.some.inj hF
        exact J34 _ _ _ hP hD hS (lv_sub hl [0, 1, 2, 3, 4, 5] rfl)
set_option maxRecDepth 20000 in
theorem gX6_chooseWeights_X3_weightAt : GoodIn wuX6_chooseWeights (va_wsS RX6 169 yX3_weightAt wuX3_weightAt) := gu_S mw_2046 mw_1385 mw_174 mw_1386
set_option maxRecDepth 20000 in
theorem gX6_chooseWeights_X9_timeBetween : GoodIn wuX6_chooseWeights (va_wsS RX6 143 yX9_timeBetween wuX9_timeBetween) := gu_S mw_2044 mw_1892 mw_171 mw_1893
set_option maxRecDepth 20000 in
set_option maxRecDepth 20000 in
theorem gX6_chooseWeights_X9_scaleBy : GoodIn wuX6_chooseWeights (va_wsS RX6 149 yX9_scaleBy wuX9_scaleBy) := gu_S mw_2045 mw_1895 mw_171 mw_1896
set_option maxRecDepth 20000 in
theorem dX6_chooseWeights_0 : decode cX6_chooseWeights 0 = .ok (.aload_n 1, 1) := by decide +kernel
theorem dX6_chooseWeights_1 : decode cX6_chooseWeights 1 = .ok (.getfield 128, 3) := by decide +kernel
theorem dX6_chooseWeights_4 : decode cX6_chooseWeights 4 = .ok (.astore_n 3, 1) := by decide +kernel
theorem dX6_chooseWeights_5 : decode cX6_chooseWeights 5 = .ok (.aload_n 0, 1) := by decide +kernel
theorem dX6_chooseWeights_6 : decode cX6_chooseWeights 6 = .ok (.getfield 27, 3) := by decide +kernel
theorem dX6_chooseWeights_9 : decode cX6_chooseWeights 9 = .ok (.iconst 0, 1) := by decide +kernel
theorem dX6_chooseWeights_10 : decode cX6_chooseWeights 10 = .ok (.iaload, 1) := by decide +kernel
theorem dX6_chooseWeights_11 : decode cX6_chooseWeights 11 = .ok (.istore 4, 2) := by decide +kernel
theorem dX6_chooseWeights_13 : decode cX6_chooseWeights 13 = .ok (.aload_n 0, 1) := by decide +kernel
theorem dX6_chooseWeights_14 : decode cX6_chooseWeights 14 = .ok (.getfield 27, 3) := by decide +kernel
theorem dX6_chooseWeights_17 : decode cX6_chooseWeights 17 = .ok (.iconst 3, 1) := by decide +kernel
theorem dX6_chooseWeights_18 : decode cX6_chooseWeights 18 = .ok (.iaload, 1) := by decide +kernel
theorem dX6_chooseWeights_19 : decode cX6_chooseWeights 19 = .ok (.istore 5, 2) := by decide +kernel
theorem dX6_chooseWeights_21 : decode cX6_chooseWeights 21 = .ok (.iload 4, 2) := by decide +kernel
theorem dX6_chooseWeights_23 : decode cX6_chooseWeights 23 = .ok (.ifCond .lt 12, 3) := by decide +kernel
theorem dX6_chooseWeights_26 : decode cX6_chooseWeights 26 = .ok (.iload 5, 2) := by decide +kernel
theorem dX6_chooseWeights_28 : decode cX6_chooseWeights 28 = .ok (.ifCond .lt 7, 3) := by decide +kernel
theorem dX6_chooseWeights_31 : decode cX6_chooseWeights 31 = .ok (.iconst 1, 1) := by decide +kernel
theorem dX6_chooseWeights_32 : decode cX6_chooseWeights 32 = .ok (.goto 4, 3) := by decide +kernel
theorem dX6_chooseWeights_35 : decode cX6_chooseWeights 35 = .ok (.iconst 0, 1) := by decide +kernel
theorem dX6_chooseWeights_36 : decode cX6_chooseWeights 36 = .ok (.istore 6, 2) := by decide +kernel
theorem dX6_chooseWeights_38 : decode cX6_chooseWeights 38 = .ok (.aload_n 3, 1) := by decide +kernel
theorem dX6_chooseWeights_39 : decode cX6_chooseWeights 39 = .ok (.getfield 132, 3) := by decide +kernel
theorem dX6_chooseWeights_42 : decode cX6_chooseWeights 42 = .ok (.iconst 1, 1) := by decide +kernel
theorem dX6_chooseWeights_43 : decode cX6_chooseWeights 43 = .ok (.iaload, 1) := by decide +kernel
theorem dX6_chooseWeights_44 : decode cX6_chooseWeights 44 = .ok (.iconst 1, 1) := by decide +kernel
theorem dX6_chooseWeights_45 : decode cX6_chooseWeights 45 = .ok (.if_icmp .ne 7, 3) := by decide +kernel
theorem dX6_chooseWeights_48 : decode cX6_chooseWeights 48 = .ok (.iconst 1, 1) := by decide +kernel
theorem dX6_chooseWeights_49 : decode cX6_chooseWeights 49 = .ok (.goto 4, 3) := by decide +kernel
theorem dX6_chooseWeights_52 : decode cX6_chooseWeights 52 = .ok (.iconst 0, 1) := by decide +kernel
theorem dX6_chooseWeights_53 : decode cX6_chooseWeights 53 = .ok (.istore 7, 2) := by decide +kernel
theorem dX6_chooseWeights_55 : decode cX6_chooseWeights 55 = .ok (.iload 6, 2) := by decide +kernel
theorem dX6_chooseWeights_57 : decode cX6_chooseWeights 57 = .ok (.ifCond .eq 7, 3) := by decide +kernel
theorem dX6_chooseWeights_60 : decode cX6_chooseWeights 60 = .ok (.iconst 2, 1) := by decide +kernel
theorem dX6_chooseWeights_61 : decode cX6_chooseWeights 61 = .ok (.goto 13, 3) := by decide +kernel
theorem dX6_chooseWeights_64 : decode cX6_chooseWeights 64 = .ok (.iload 4, 2) := by decide +kernel
theorem dX6_chooseWeights_66 : decode cX6_chooseWeights 66 = .ok (.ifCond .lt 7, 3) := by decide +kernel
theorem dX6_chooseWeights_69 : decode cX6_chooseWeights 69 = .ok (.iconst 0, 1) := by decide +kernel
theorem dX6_chooseWeights_70 : decode cX6_chooseWeights 70 = .ok (.goto 4, 3) := by decide +kernel
theorem dX6_chooseWeights_73 : decode cX6_chooseWeights 73 = .ok (.iconst 1, 1) := by decide +kernel
theorem dX6_chooseWeights_74 : decode cX6_chooseWeights 74 = .ok (.istore 8, 2) := by decide +kernel
theorem dX6_chooseWeights_76 : decode cX6_chooseWeights 76 = .ok (.iload 7, 2) := by decide +kernel
theorem dX6_chooseWeights_78 : decode cX6_chooseWeights 78 = .ok (.ifCond .eq 187, 3) := by decide +kernel
theorem dX6_chooseWeights_81 : decode cX6_chooseWeights 81 = .ok (.aload_n 1, 1) := by decide +kernel
theorem dX6_chooseWeights_82 : decode cX6_chooseWeights 82 = .ok (.getfield 137, 3) := by decide +kernel
theorem dX6_chooseWeights_85 : decode cX6_chooseWeights 85 = .ok (.bipush 6, 2) := by decide +kernel
theorem dX6_chooseWeights_87 : decode cX6_chooseWeights 87 = .ok (.iaload, 1) := by decide +kernel
theorem dX6_chooseWeights_88 : decode cX6_chooseWeights 88 = .ok (.iconst 2, 1) := by decide +kernel
theorem dX6_chooseWeights_89 : decode cX6_chooseWeights 89 = .ok (.if_icmp .ne 176, 3) := by decide +kernel
theorem dX6_chooseWeights_92 : decode cX6_chooseWeights 92 = .ok (.iload 6, 2) := by decide +kernel
theorem dX6_chooseWeights_94 : decode cX6_chooseWeights 94 = .ok (.ifCond .eq 171, 3) := by decide +kernel
theorem dX6_chooseWeights_97 : decode cX6_chooseWeights 97 = .ok (.aload_n 1, 1) := by decide +kernel
theorem dX6_chooseWeights_98 : decode cX6_chooseWeights 98 = .ok (.getfield 87, 3) := by decide +kernel
theorem dX6_chooseWeights_101 : decode cX6_chooseWeights 101 = .ok (.iload 4, 2) := by decide +kernel
theorem dX6_chooseWeights_103 : decode cX6_chooseWeights 103 = .ok (.aaload, 1) := by decide +kernel
theorem dX6_chooseWeights_104 : decode cX6_chooseWeights 104 = .ok (.astore 9, 2) := by decide +kernel
theorem dX6_chooseWeights_106 : decode cX6_chooseWeights 106 = .ok (.aload_n 1, 1) := by decide +kernel
theorem dX6_chooseWeights_107 : decode cX6_chooseWeights 107 = .ok (.getfield 87, 3) := by decide +kernel
theorem dX6_chooseWeights_110 : decode cX6_chooseWeights 110 = .ok (.bipush 9, 2) := by decide +kernel
theorem dX6_chooseWeights_112 : decode cX6_chooseWeights 112 = .ok (.iload 5, 2) := by decide +kernel
theorem dX6_chooseWeights_114 : decode cX6_chooseWeights 114 = .ok (.iadd, 1) := by decide +kernel
theorem dX6_chooseWeights_115 : decode cX6_chooseWeights 115 = .ok (.aaload, 1) := by decide +kernel
theorem dX6_chooseWeights_116 : decode cX6_chooseWeights 116 = .ok (.astore 10, 2) := by decide +kernel
theorem dX6_chooseWeights_118 : decode cX6_chooseWeights 118 = .ok (.aload 9, 2) := by decide +kernel
theorem dX6_chooseWeights_120 : decode cX6_chooseWeights 120 = .ok (.ifnull 8, 3) := by decide +kernel
theorem dX6_chooseWeights_123 : decode cX6_chooseWeights 123 = .ok (.aload 10, 2) := by decide +kernel
theorem dX6_chooseWeights_125 : decode cX6_chooseWeights 125 = .ok (.ifnonnull 7, 3) := by decide +kernel
theorem dX6_chooseWeights_128 : decode cX6_chooseWeights 128 = .ok (.iconst 0, 1) := by decide +kernel
theorem dX6_chooseWeights_129 : decode cX6_chooseWeights 129 = .ok (.goto 16, 3) := by decide +kernel
theorem dX6_chooseWeights_132 : decode cX6_chooseWeights 132 = .ok (.aload 9, 2) := by decide +kernel
theorem dX6_chooseWeights_134 : decode cX6_chooseWeights 134 = .ok (.getfield 140, 3) := by decide +kernel
theorem dX6_chooseWeights_137 : decode cX6_chooseWeights 137 = .ok (.aload 10, 2) := by decide +kernel
theorem dX6_chooseWeights_139 : decode cX6_chooseWeights 139 = .ok (.getfield 140, 3) := by decide +kernel
theorem dX6_chooseWeights_142 : decode cX6_chooseWeights 142 = .ok (.invokestatic 143, 3) := by decide +kernel
theorem dX6_chooseWeights_145 : decode cX6_chooseWeights 145 = .ok (.istore 11, 2) := by decide +kernel
theorem dX6_chooseWeights_147 : decode cX6_chooseWeights 147 = .ok (.iload 11, 2) := by decide +kernel
theorem dX6_chooseWeights_149 : decode cX6_chooseWeights 149 = .ok (.ifCond .eq 21, 3) := by decide +kernel
theorem dX6_chooseWeights_152 : decode cX6_chooseWeights 152 = .ok (.aload 9, 2) := by decide +kernel
theorem dX6_chooseWeights_154 : decode cX6_chooseWeights 154 = .ok (.getfield 146, 3) := by decide +kernel
theorem dX6_chooseWeights_157 : decode cX6_chooseWeights 157 = .ok (.iconst 2, 1) := by decide +kernel
theorem dX6_chooseWeights_158 : decode cX6_chooseWeights 158 = .ok (.if_icmp .eq 12, 3) := by decide +kernel
theorem dX6_chooseWeights_161 : decode cX6_chooseWeights 161 = .ok (.aload 10, 2) := by decide +kernel
theorem dX6_chooseWeights_163 : decode cX6_chooseWeights 163 = .ok (.getfield 146, 3) := by decide +kernel
theorem dX6_chooseWeights_166 : decode cX6_chooseWeights 166 = .ok (.iconst 2, 1) := by decide +kernel
theorem dX6_chooseWeights_167 : decode cX6_chooseWeights 167 = .ok (.if_icmp .ne 7, 3) := by decide +kernel
theorem dX6_chooseWeights_170 : decode cX6_chooseWeights 170 = .ok (.iconst 1, 1) := by decide +kernel
theorem dX6_chooseWeights_171 : decode cX6_chooseWeights 171 = .ok (.goto 4, 3) := by decide +kernel
theorem dX6_chooseWeights_174 : decode cX6_chooseWeights 174 = .ok (.iconst 0, 1) := by decide +kernel
theorem dX6_chooseWeights_175 : decode cX6_chooseWeights 175 = .ok (.istore 12, 2) := by decide +kernel
theorem dX6_chooseWeights_177 : decode cX6_chooseWeights 177 = .ok (.iload 12, 2) := by decide +kernel
theorem dX6_chooseWeights_179 : decode cX6_chooseWeights 179 = .ok (.ifCond .eq 8, 3) := by decide +kernel
theorem dX6_chooseWeights_182 : decode cX6_chooseWeights 182 = .ok (.bipush 32, 2) := by decide +kernel
theorem dX6_chooseWeights_184 : decode cX6_chooseWeights 184 = .ok (.goto 25, 3) := by decide +kernel
theorem dX6_chooseWeights_187 : decode cX6_chooseWeights 187 = .ok (.aload 9, 2) := by decide +kernel
theorem dX6_chooseWeights_189 : decode cX6_chooseWeights 189 = .ok (.getfield 140, 3) := by decide +kernel
theorem dX6_chooseWeights_192 : decode cX6_chooseWeights 192 = .ok (.aload_n 1, 1) := by decide +kernel
theorem dX6_chooseWeights_193 : decode cX6_chooseWeights 193 = .ok (.getfield 46, 3) := by decide +kernel
theorem dX6_chooseWeights_196 : decode cX6_chooseWeights 196 = .ok (.getfield 140, 3) := by decide +kernel
theorem dX6_chooseWeights_199 : decode cX6_chooseWeights 199 = .ok (.invokestatic 143, 3) := by decide +kernel
theorem dX6_chooseWeights_202 : decode cX6_chooseWeights 202 = .ok (.iload 11, 2) := by decide +kernel
theorem dX6_chooseWeights_204 : decode cX6_chooseWeights 204 = .ok (.invokestatic 149, 3) := by decide +kernel
theorem dX6_chooseWeights_207 : decode cX6_chooseWeights 207 = .ok (.iconst 2, 1) := by decide +kernel
theorem dX6_chooseWeights_208 : decode cX6_chooseWeights 208 = .ok (.ishr, 1) := by decide +kernel
theorem dX6_chooseWeights_209 : decode cX6_chooseWeights 209 = .ok (.istore 13, 2) := by decide +kernel
theorem dX6_chooseWeights_211 : decode cX6_chooseWeights 211 = .ok (.aload_n 0, 1) := by decide +kernel
theorem dX6_chooseWeights_212 : decode cX6_chooseWeights 212 = .ok (.iload 13, 2) := by decide +kernel
theorem dX6_chooseWeights_214 : decode cX6_chooseWeights 214 = .ok (.bipush (-64), 2) := by decide +kernel
theorem dX6_chooseWeights_216 : decode cX6_chooseWeights 216 = .ok (.if_icmp .lt 11, 3) := by decide +kernel
theorem dX6_chooseWeights_219 : decode cX6_chooseWeights 219 = .ok (.iload 13, 2) := by decide +kernel
theorem dX6_chooseWeights_221 : decode cX6_chooseWeights 221 = .ok (.sipush 128, 3) := by decide +kernel
theorem dX6_chooseWeights_224 : decode cX6_chooseWeights 224 = .ok (.if_icmp .le 8, 3) := by decide +kernel
theorem dX6_chooseWeights_227 : decode cX6_chooseWeights 227 = .ok (.bipush 32, 2) := by decide +kernel
theorem dX6_chooseWeights_229 : decode cX6_chooseWeights 229 = .ok (.goto 5, 3) := by decide +kernel
theorem dX6_chooseWeights_232 : decode cX6_chooseWeights 232 = .ok (.iload 13, 2) := by decide +kernel
theorem dX6_chooseWeights_234 : decode cX6_chooseWeights 234 = .ok (.putfield 152, 3) := by decide +kernel
theorem dX6_chooseWeights_237 : decode cX6_chooseWeights 237 = .ok (.aload_n 0, 1) := by decide +kernel
theorem dX6_chooseWeights_238 : decode cX6_chooseWeights 238 = .ok (.bipush 64, 2) := by decide +kernel
theorem dX6_chooseWeights_240 : decode cX6_chooseWeights 240 = .ok (.aload_n 0, 1) := by decide +kernel
theorem dX6_chooseWeights_241 : decode cX6_chooseWeights 241 = .ok (.getfield 152, 3) := by decide +kernel
theorem dX6_chooseWeights_244 : decode cX6_chooseWeights 244 = .ok (.isub, 1) := by decide +kernel
theorem dX6_chooseWeights_245 : decode cX6_chooseWeights 245 = .ok (.putfield 155, 3) := by decide +kernel
theorem dX6_chooseWeights_248 : decode cX6_chooseWeights 248 = .ok (.aload_n 0, 1) := by decide +kernel
theorem dX6_chooseWeights_249 : decode cX6_chooseWeights 249 = .ok (.iconst 0, 1) := by decide +kernel
theorem dX6_chooseWeights_250 : decode cX6_chooseWeights 250 = .ok (.putfield 158, 3) := by decide +kernel
theorem dX6_chooseWeights_253 : decode cX6_chooseWeights 253 = .ok (.aload_n 0, 1) := by decide +kernel
theorem dX6_chooseWeights_254 : decode cX6_chooseWeights 254 = .ok (.iconst 0, 1) := by decide +kernel
theorem dX6_chooseWeights_255 : decode cX6_chooseWeights 255 = .ok (.putfield 161, 3) := by decide +kernel
theorem dX6_chooseWeights_258 : decode cX6_chooseWeights 258 = .ok (.aload_n 0, 1) := by decide +kernel
theorem dX6_chooseWeights_259 : decode cX6_chooseWeights 259 = .ok (.iconst 5, 1) := by decide +kernel
theorem dX6_chooseWeights_260 : decode cX6_chooseWeights 260 = .ok (.putfield 164, 3) := by decide +kernel
theorem dX6_chooseWeights_263 : decode cX6_chooseWeights 263 = .ok (.iconst 5, 1) := by decide +kernel
theorem dX6_chooseWeights_264 : decode cX6_chooseWeights 264 = .ok (.ireturn, 1) := by decide +kernel
theorem dX6_chooseWeights_265 : decode cX6_chooseWeights 265 = .ok (.iload 7, 2) := by decide +kernel
theorem dX6_chooseWeights_267 : decode cX6_chooseWeights 267 = .ok (.ifCond .eq 17, 3) := by decide +kernel
theorem dX6_chooseWeights_270 : decode cX6_chooseWeights 270 = .ok (.aload_n 1, 1) := by decide +kernel
theorem dX6_chooseWeights_271 : decode cX6_chooseWeights 271 = .ok (.getfield 137, 3) := by decide +kernel
theorem dX6_chooseWeights_274 : decode cX6_chooseWeights 274 = .ok (.bipush 6, 2) := by decide +kernel
theorem dX6_chooseWeights_276 : decode cX6_chooseWeights 276 = .ok (.iaload, 1) := by decide +kernel
theorem dX6_chooseWeights_277 : decode cX6_chooseWeights 277 = .ok (.iconst 1, 1) := by decide +kernel
theorem dX6_chooseWeights_278 : decode cX6_chooseWeights 278 = .ok (.if_icmp .eq 18, 3) := by decide +kernel
theorem dX6_chooseWeights_281 : decode cX6_chooseWeights 281 = .ok (.goto 12, 3) := by decide +kernel
theorem dX6_chooseWeights_284 : decode cX6_chooseWeights 284 = .ok (.aload_n 1, 1) := by decide +kernel
theorem dX6_chooseWeights_285 : decode cX6_chooseWeights 285 = .ok (.getfield 137, 3) := by decide +kernel
theorem dX6_chooseWeights_288 : decode cX6_chooseWeights 288 = .ok (.iconst 5, 1) := by decide +kernel
theorem dX6_chooseWeights_289 : decode cX6_chooseWeights 289 = .ok (.iaload, 1) := by decide +kernel
theorem dX6_chooseWeights_290 : decode cX6_chooseWeights 290 = .ok (.ifCond .ne 6, 3) := by decide +kernel
theorem dX6_chooseWeights_293 : decode cX6_chooseWeights 293 = .ok (.iload 8, 2) := by decide +kernel
theorem dX6_chooseWeights_295 : decode cX6_chooseWeights 295 = .ok (.ireturn, 1) := by decide +kernel
theorem dX6_chooseWeights_296 : decode cX6_chooseWeights 296 = .ok (.aload_n 0, 1) := by decide +kernel
theorem dX6_chooseWeights_297 : decode cX6_chooseWeights 297 = .ok (.aload_n 3, 1) := by decide +kernel
theorem dX6_chooseWeights_298 : decode cX6_chooseWeights 298 = .ok (.getfield 132, 3) := by decide +kernel
theorem dX6_chooseWeights_301 : decode cX6_chooseWeights 301 = .ok (.iload_n 2, 1) := by decide +kernel
theorem dX6_chooseWeights_302 : decode cX6_chooseWeights 302 = .ok (.ifCond .ne 8, 3) := by decide +kernel
theorem dX6_chooseWeights_305 : decode cX6_chooseWeights 305 = .ok (.bipush 22, 2) := by decide +kernel
theorem dX6_chooseWeights_307 : decode cX6_chooseWeights 307 = .ok (.goto 5, 3) := by decide +kernel
theorem dX6_chooseWeights_310 : decode cX6_chooseWeights 310 = .ok (.bipush 23, 2) := by decide +kernel
theorem dX6_chooseWeights_312 : decode cX6_chooseWeights 312 = .ok (.iaload, 1) := by decide +kernel
theorem dX6_chooseWeights_313 : decode cX6_chooseWeights 313 = .ok (.putfield 164, 3) := by decide +kernel
theorem dX6_chooseWeights_316 : decode cX6_chooseWeights 316 = .ok (.iload 4, 2) := by decide +kernel
theorem dX6_chooseWeights_318 : decode cX6_chooseWeights 318 = .ok (.ifCond .lt 37, 3) := by decide +kernel
theorem dX6_chooseWeights_321 : decode cX6_chooseWeights 321 = .ok (.aload_n 0, 1) := by decide +kernel
theorem dX6_chooseWeights_322 : decode cX6_chooseWeights 322 = .ok (.aload_n 3, 1) := by decide +kernel
theorem dX6_chooseWeights_323 : decode cX6_chooseWeights 323 = .ok (.getfield 167, 3) := by decide +kernel
theorem dX6_chooseWeights_326 : decode cX6_chooseWeights 326 = .ok (.iconst 0, 1) := by decide +kernel
theorem dX6_chooseWeights_327 : decode cX6_chooseWeights 327 = .ok (.iload 4, 2) := by decide +kernel
theorem dX6_chooseWeights_329 : decode cX6_chooseWeights 329 = .ok (.iload_n 2, 1) := by decide +kernel
theorem dX6_chooseWeights_330 : decode cX6_chooseWeights 330 = .ok (.invokestatic 169, 3) := by decide +kernel
theorem dX6_chooseWeights_333 : decode cX6_chooseWeights 333 = .ok (.iaload, 1) := by decide +kernel
theorem dX6_chooseWeights_334 : decode cX6_chooseWeights 334 = .ok (.putfield 155, 3) := by decide +kernel
theorem dX6_chooseWeights_337 : decode cX6_chooseWeights 337 = .ok (.aload_n 0, 1) := by decide +kernel
theorem dX6_chooseWeights_338 : decode cX6_chooseWeights 338 = .ok (.aload_n 3, 1) := by decide +kernel
theorem dX6_chooseWeights_339 : decode cX6_chooseWeights 339 = .ok (.getfield 167, 3) := by decide +kernel
theorem dX6_chooseWeights_342 : decode cX6_chooseWeights 342 = .ok (.iconst 0, 1) := by decide +kernel
theorem dX6_chooseWeights_343 : decode cX6_chooseWeights 343 = .ok (.iload 4, 2) := by decide +kernel
theorem dX6_chooseWeights_345 : decode cX6_chooseWeights 345 = .ok (.iload_n 2, 1) := by decide +kernel
theorem dX6_chooseWeights_346 : decode cX6_chooseWeights 346 = .ok (.invokestatic 169, 3) := by decide +kernel
theorem dX6_chooseWeights_349 : decode cX6_chooseWeights 349 = .ok (.iconst 1, 1) := by decide +kernel
theorem dX6_chooseWeights_350 : decode cX6_chooseWeights 350 = .ok (.iadd, 1) := by decide +kernel
theorem dX6_chooseWeights_351 : decode cX6_chooseWeights 351 = .ok (.iaload, 1) := by decide +kernel
theorem dX6_chooseWeights_352 : decode cX6_chooseWeights 352 = .ok (.putfield 158, 3) := by decide +kernel
theorem dX6_chooseWeights_355 : decode cX6_chooseWeights 355 = .ok (.iload 5, 2) := by decide +kernel
theorem dX6_chooseWeights_357 : decode cX6_chooseWeights 357 = .ok (.ifCond .lt 37, 3) := by decide +kernel
theorem dX6_chooseWeights_360 : decode cX6_chooseWeights 360 = .ok (.aload_n 0, 1) := by decide +kernel
theorem dX6_chooseWeights_361 : decode cX6_chooseWeights 361 = .ok (.aload_n 3, 1) := by decide +kernel
theorem dX6_chooseWeights_362 : decode cX6_chooseWeights 362 = .ok (.getfield 167, 3) := by decide +kernel
theorem dX6_chooseWeights_365 : decode cX6_chooseWeights 365 = .ok (.iconst 1, 1) := by decide +kernel
theorem dX6_chooseWeights_366 : decode cX6_chooseWeights 366 = .ok (.iload 5, 2) := by decide +kernel
theorem dX6_chooseWeights_368 : decode cX6_chooseWeights 368 = .ok (.iload_n 2, 1) := by decide +kernel
theorem dX6_chooseWeights_369 : decode cX6_chooseWeights 369 = .ok (.invokestatic 169, 3) := by decide +kernel
theorem dX6_chooseWeights_372 : decode cX6_chooseWeights 372 = .ok (.iaload, 1) := by decide +kernel
theorem dX6_chooseWeights_373 : decode cX6_chooseWeights 373 = .ok (.putfield 152, 3) := by decide +kernel
theorem dX6_chooseWeights_376 : decode cX6_chooseWeights 376 = .ok (.aload_n 0, 1) := by decide +kernel
theorem dX6_chooseWeights_377 : decode cX6_chooseWeights 377 = .ok (.aload_n 3, 1) := by decide +kernel
theorem dX6_chooseWeights_378 : decode cX6_chooseWeights 378 = .ok (.getfield 167, 3) := by decide +kernel
theorem dX6_chooseWeights_381 : decode cX6_chooseWeights 381 = .ok (.iconst 1, 1) := by decide +kernel
theorem dX6_chooseWeights_382 : decode cX6_chooseWeights 382 = .ok (.iload 5, 2) := by decide +kernel
theorem dX6_chooseWeights_384 : decode cX6_chooseWeights 384 = .ok (.iload_n 2, 1) := by decide +kernel
theorem dX6_chooseWeights_385 : decode cX6_chooseWeights 385 = .ok (.invokestatic 169, 3) := by decide +kernel
theorem dX6_chooseWeights_388 : decode cX6_chooseWeights 388 = .ok (.iconst 1, 1) := by decide +kernel
theorem dX6_chooseWeights_389 : decode cX6_chooseWeights 389 = .ok (.iadd, 1) := by decide +kernel
theorem dX6_chooseWeights_390 : decode cX6_chooseWeights 390 = .ok (.iaload, 1) := by decide +kernel
theorem dX6_chooseWeights_391 : decode cX6_chooseWeights 391 = .ok (.putfield 161, 3) := by decide +kernel
theorem dX6_chooseWeights_394 : decode cX6_chooseWeights 394 = .ok (.iload 8, 2) := by decide +kernel
theorem dX6_chooseWeights_396 : decode cX6_chooseWeights 396 = .ok (.iconst 3, 1) := by decide +kernel
theorem dX6_chooseWeights_397 : decode cX6_chooseWeights 397 = .ok (.iadd, 1) := by decide +kernel
theorem dX6_chooseWeights_398 : decode cX6_chooseWeights 398 = .ok (.ireturn, 1) := by decide +kernel
def FX6_chooseWeights (G : GG) (M : DD) (a : Nat) (p0 : Option Nat) (p1 : Int32) : Option (DD × Int32) :=
  dr G 9 p0 fun b2 =>
  dr G 13 ((M.2 a 5)) fun b3 =>
  chk (¬ (((0 : Int32)) < 0 ∨ G.2.2 b3 ≤ ((0 : Int32)).toNatClampNeg)) <|
  ltt (M.1 b3 ((0 : Int32)).toNatClampNeg) fun x4 =>
  chk (¬ (((3 : Int32)) < 0 ∨ G.2.2 b3 ≤ ((3 : Int32)).toNatClampNeg)) <|
  ltt (M.1 b3 ((3 : Int32)).toNatClampNeg) fun x5 =>
  bnd (if x4 < ((0 : Int32)) then (some ((0 : Int32))) else
  (bnd (if x5 < ((0 : Int32)) then (some ((0 : Int32))) else
  (some ((1 : Int32)))) fun (y242 : Int32) =>
  some (y242))) fun (y6 : Int32) =>
  dr G 3 ((M.2 b2 1)) fun b7 =>
  dr G 13 ((M.2 b7 0)) fun b8 =>
  chk (¬ (((1 : Int32)) < 0 ∨ G.2.2 b8 ≤ ((1 : Int32)).toNatClampNeg)) <|
  ltt (M.1 b8 ((1 : Int32)).toNatClampNeg) fun x9 =>
  bnd (if x9 = ((1 : Int32)) then (some ((1 : Int32))) else
  (some ((0 : Int32)))) fun (y10 : Int32) =>
  bnd (if y6 = ((0 : Int32)) then (bnd (if x4 < ((0 : Int32)) then (some ((1 : Int32))) else
  (some ((0 : Int32)))) fun (y238 : Int32) =>
  some (y238)) else
  (some ((2 : Int32)))) fun (y11 : Int32) =>
  if y10 = ((0 : Int32)) then (if y10 = ((0 : Int32)) then (dr G 13 ((M.2 b2 2)) fun b14 =>
  chk (¬ (((5 : Int32)) < 0 ∨ G.2.2 b14 ≤ ((5 : Int32)).toNatClampNeg)) <|
  ltt (M.1 b14 ((5 : Int32)).toNatClampNeg) fun x15 =>
  if x15 = ((0 : Int32)) then (some (M, y11)) else
  (bnd (if p1 = ((0 : Int32)) then (some ((22 : Int32))) else
  (some ((23 : Int32)))) fun (y17 : Int32) =>
  chk (¬ (y17 < 0 ∨ G.2.2 b8 ≤ y17.toNatClampNeg)) <|
  ltt (M.1 b8 y17.toNatClampNeg) fun x18 =>
  ltt (uI M a 13 x18) fun M19 =>
  bnd (if x4 < ((0 : Int32)) then (some (M19)) else
  (bnd (FX3_weightAt G M19 ((0 : Int32)) x4 p1) fun y34 =>
  dr G 13 ((M19.2 b7 3)) fun b35 =>
  chk (¬ (y34.2 < 0 ∨ G.2.2 b35 ≤ y34.2.toNatClampNeg)) <|
  ltt (y34.1.1 b35 y34.2.toNatClampNeg) fun x36 =>
  ltt (uI y34.1 a 9 x36) fun M37 =>
  bnd (FX3_weightAt G M37 ((0 : Int32)) x4 p1) fun y38 =>
  ltt ((y38.2 + ((1 : Int32)))) fun x39 =>
  dr G 13 ((M37.2 b7 3)) fun b40 =>
  chk (¬ (x39 < 0 ∨ G.2.2 b40 ≤ x39.toNatClampNeg)) <|
  ltt (y38.1.1 b40 x39.toNatClampNeg) fun x41 =>
  ltt (uI y38.1 a 11 x41) fun M42 =>
  some (M42))) fun (y20 : DD) =>
  bnd (if x5 < ((0 : Int32)) then (some (y20)) else
  (bnd (FX3_weightAt G y20 ((1 : Int32)) x5 p1) fun y24 =>
  dr G 13 ((y20.2 b7 3)) fun b25 =>
  chk (¬ (y24.2 < 0 ∨ G.2.2 b25 ≤ y24.2.toNatClampNeg)) <|
  ltt (y24.1.1 b25 y24.2.toNatClampNeg) fun x26 =>
  ltt (uI y24.1 a 10 x26) fun M27 =>
  bnd (FX3_weightAt G M27 ((1 : Int32)) x5 p1) fun y28 =>
  ltt ((y28.2 + ((1 : Int32)))) fun x29 =>
  dr G 13 ((M27.2 b7 3)) fun b30 =>
  chk (¬ (x29 < 0 ∨ G.2.2 b30 ≤ x29.toNatClampNeg)) <|
  ltt (y28.1.1 b30 x29.toNatClampNeg) fun x31 =>
  ltt (uI y28.1 a 12 x31) fun M32 =>
  some (M32))) fun (y21 : DD) =>
  ltt ((y11 + ((3 : Int32)))) fun x22 =>
  some (y21, x22))) else
  (dr G 13 ((M.2 b2 2)) fun b44 =>
  chk (¬ (((6 : Int32)) < 0 ∨ G.2.2 b44 ≤ ((6 : Int32)).toNatClampNeg)) <|
  ltt (M.1 b44 ((6 : Int32)).toNatClampNeg) fun x45 =>
  if x45 = ((1 : Int32)) then (bnd (if p1 = ((0 : Int32)) then (some ((22 : Int32))) else
  (some ((23 : Int32)))) fun (y47 : Int32) =>
  chk (¬ (y47 < 0 ∨ G.2.2 b8 ≤ y47.toNatClampNeg)) <|
  ltt (M.1 b8 y47.toNatClampNeg) fun x48 =>
  ltt (uI M a 13 x48) fun M49 =>
  bnd (if x4 < ((0 : Int32)) then (some (M49)) else
  (bnd (FX3_weightAt G M49 ((0 : Int32)) x4 p1) fun y64 =>
  dr G 13 ((M49.2 b7 3)) fun b65 =>
  chk (¬ (y64.2 < 0 ∨ G.2.2 b65 ≤ y64.2.toNatClampNeg)) <|
  ltt (y64.1.1 b65 y64.2.toNatClampNeg) fun x66 =>
  ltt (uI y64.1 a 9 x66) fun M67 =>
  bnd (FX3_weightAt G M67 ((0 : Int32)) x4 p1) fun y68 =>
  ltt ((y68.2 + ((1 : Int32)))) fun x69 =>
  dr G 13 ((M67.2 b7 3)) fun b70 =>
  chk (¬ (x69 < 0 ∨ G.2.2 b70 ≤ x69.toNatClampNeg)) <|
  ltt (y68.1.1 b70 x69.toNatClampNeg) fun x71 =>
  ltt (uI y68.1 a 11 x71) fun M72 =>
  some (M72))) fun (y50 : DD) =>
  bnd (if x5 < ((0 : Int32)) then (some (y50)) else
  (bnd (FX3_weightAt G y50 ((1 : Int32)) x5 p1) fun y54 =>
  dr G 13 ((y50.2 b7 3)) fun b55 =>
  chk (¬ (y54.2 < 0 ∨ G.2.2 b55 ≤ y54.2.toNatClampNeg)) <|
  ltt (y54.1.1 b55 y54.2.toNatClampNeg) fun x56 =>
  ltt (uI y54.1 a 10 x56) fun M57 =>
  bnd (FX3_weightAt G M57 ((1 : Int32)) x5 p1) fun y58 =>
  ltt ((y58.2 + ((1 : Int32)))) fun x59 =>
  dr G 13 ((M57.2 b7 3)) fun b60 =>
  chk (¬ (x59 < 0 ∨ G.2.2 b60 ≤ x59.toNatClampNeg)) <|
  ltt (y58.1.1 b60 x59.toNatClampNeg) fun x61 =>
  ltt (uI y58.1 a 12 x61) fun M62 =>
  some (M62))) fun (y51 : DD) =>
  ltt ((y11 + ((3 : Int32)))) fun x52 =>
  some (y51, x52)) else
  (some (M, y11)))) else
  (dr G 13 ((M.2 b2 2)) fun b74 =>
  chk (¬ (((6 : Int32)) < 0 ∨ G.2.2 b74 ≤ ((6 : Int32)).toNatClampNeg)) <|
  ltt (M.1 b74 ((6 : Int32)).toNatClampNeg) fun x75 =>
  if x75 = ((2 : Int32)) then (if y6 = ((0 : Int32)) then (if y10 = ((0 : Int32)) then (chk (¬ (((5 : Int32)) < 0 ∨ G.2.2 b74 ≤ ((5 : Int32)).toNatClampNeg)) <|
  ltt (M.1 b74 ((5 : Int32)).toNatClampNeg) fun x138 =>
  if x138 = ((0 : Int32)) then (some (M, y11)) else
  (bnd (if p1 = ((0 : Int32)) then (some ((22 : Int32))) else
  (some ((23 : Int32)))) fun (y140 : Int32) =>
  chk (¬ (y140 < 0 ∨ G.2.2 b8 ≤ y140.toNatClampNeg)) <|
  ltt (M.1 b8 y140.toNatClampNeg) fun x141 =>
  ltt (uI M a 13 x141) fun M142 =>
  bnd (if x4 < ((0 : Int32)) then (some (M142)) else
  (bnd (FX3_weightAt G M142 ((0 : Int32)) x4 p1) fun y157 =>
  dr G 13 ((M142.2 b7 3)) fun b158 =>
  chk (¬ (y157.2 < 0 ∨ G.2.2 b158 ≤ y157.2.toNatClampNeg)) <|
  ltt (y157.1.1 b158 y157.2.toNatClampNeg) fun x159 =>
  ltt (uI y157.1 a 9 x159) fun M160 =>
  bnd (FX3_weightAt G M160 ((0 : Int32)) x4 p1) fun y161 =>
  ltt ((y161.2 + ((1 : Int32)))) fun x162 =>
  dr G 13 ((M160.2 b7 3)) fun b163 =>
  chk (¬ (x162 < 0 ∨ G.2.2 b163 ≤ x162.toNatClampNeg)) <|
  ltt (y161.1.1 b163 x162.toNatClampNeg) fun x164 =>
  ltt (uI y161.1 a 11 x164) fun M165 =>
  some (M165))) fun (y143 : DD) =>
  bnd (if x5 < ((0 : Int32)) then (some (y143)) else
  (bnd (FX3_weightAt G y143 ((1 : Int32)) x5 p1) fun y147 =>
  dr G 13 ((y143.2 b7 3)) fun b148 =>
  chk (¬ (y147.2 < 0 ∨ G.2.2 b148 ≤ y147.2.toNatClampNeg)) <|
  ltt (y147.1.1 b148 y147.2.toNatClampNeg) fun x149 =>
  ltt (uI y147.1 a 10 x149) fun M150 =>
  bnd (FX3_weightAt G M150 ((1 : Int32)) x5 p1) fun y151 =>
  ltt ((y151.2 + ((1 : Int32)))) fun x152 =>
  dr G 13 ((M150.2 b7 3)) fun b153 =>
  chk (¬ (x152 < 0 ∨ G.2.2 b153 ≤ x152.toNatClampNeg)) <|
  ltt (y151.1.1 b153 x152.toNatClampNeg) fun x154 =>
  ltt (uI y151.1 a 12 x154) fun M155 =>
  some (M155))) fun (y144 : DD) =>
  ltt ((y11 + ((3 : Int32)))) fun x145 =>
  some (y144, x145))) else
  (chk (¬ (((6 : Int32)) < 0 ∨ G.2.2 b74 ≤ ((6 : Int32)).toNatClampNeg)) <|
  ltt (M.1 b74 ((6 : Int32)).toNatClampNeg) fun x167 =>
  if x167 = ((1 : Int32)) then (bnd (if p1 = ((0 : Int32)) then (some ((22 : Int32))) else
  (some ((23 : Int32)))) fun (y169 : Int32) =>
  chk (¬ (y169 < 0 ∨ G.2.2 b8 ≤ y169.toNatClampNeg)) <|
  ltt (M.1 b8 y169.toNatClampNeg) fun x170 =>
  ltt (uI M a 13 x170) fun M171 =>
  bnd (if x4 < ((0 : Int32)) then (some (M171)) else
  (bnd (FX3_weightAt G M171 ((0 : Int32)) x4 p1) fun y186 =>
  dr G 13 ((M171.2 b7 3)) fun b187 =>
  chk (¬ (y186.2 < 0 ∨ G.2.2 b187 ≤ y186.2.toNatClampNeg)) <|
  ltt (y186.1.1 b187 y186.2.toNatClampNeg) fun x188 =>
  ltt (uI y186.1 a 9 x188) fun M189 =>
  bnd (FX3_weightAt G M189 ((0 : Int32)) x4 p1) fun y190 =>
  ltt ((y190.2 + ((1 : Int32)))) fun x191 =>
  dr G 13 ((M189.2 b7 3)) fun b192 =>
  chk (¬ (x191 < 0 ∨ G.2.2 b192 ≤ x191.toNatClampNeg)) <|
  ltt (y190.1.1 b192 x191.toNatClampNeg) fun x193 =>
  ltt (uI y190.1 a 11 x193) fun M194 =>
  some (M194))) fun (y172 : DD) =>
  bnd (if x5 < ((0 : Int32)) then (some (y172)) else
  (bnd (FX3_weightAt G y172 ((1 : Int32)) x5 p1) fun y176 =>
  dr G 13 ((y172.2 b7 3)) fun b177 =>
  chk (¬ (y176.2 < 0 ∨ G.2.2 b177 ≤ y176.2.toNatClampNeg)) <|
  ltt (y176.1.1 b177 y176.2.toNatClampNeg) fun x178 =>
  ltt (uI y176.1 a 10 x178) fun M179 =>
  bnd (FX3_weightAt G M179 ((1 : Int32)) x5 p1) fun y180 =>
  ltt ((y180.2 + ((1 : Int32)))) fun x181 =>
  dr G 13 ((M179.2 b7 3)) fun b182 =>
  chk (¬ (x181 < 0 ∨ G.2.2 b182 ≤ x181.toNatClampNeg)) <|
  ltt (y180.1.1 b182 x181.toNatClampNeg) fun x183 =>
  ltt (uI y180.1 a 12 x183) fun M184 =>
  some (M184))) fun (y173 : DD) =>
  ltt ((y11 + ((3 : Int32)))) fun x174 =>
  some (y173, x174)) else
  (some (M, y11)))) else
  (dr G 14 ((M.2 b2 3)) fun b196 =>
  chk (¬ (x4 < 0 ∨ G.2.2 b196 ≤ x4.toNatClampNeg)) <|
  ltt ((((9 : Int32)) + x5)) fun x197 =>
  chk (¬ (x197 < 0 ∨ G.2.2 b196 ≤ x197.toNatClampNeg)) <|
  bnd (if ((M.2 b196 x4.toNatClampNeg)) = none then (some ((0 : Int32), M)) else
  (bnd (if ((M.2 b196 x197.toNatClampNeg)) = none then (some ((0 : Int32), M)) else
  (dr G 4 ((M.2 b196 x4.toNatClampNeg)) fun b232 =>
  ltt (M.1 b232 9) fun x233 =>
  dr G 4 ((M.2 b196 x197.toNatClampNeg)) fun b234 =>
  ltt (M.1 b234 9) fun x235 =>
  bnd (FX9_timeBetween G M x233 x235) fun y236 =>
  some (y236.2, y236.1))) fun (y230 : Int32 × DD) =>
  some (y230.1, y230.2))) fun (y198 : Int32 × DD) =>
  bnd (if y198.1 = ((0 : Int32)) then (some ((1 : Int32))) else
  (dr G 4 ((M.2 b196 x4.toNatClampNeg)) fun b221 =>
  ltt (y198.2.1 b221 10) fun x222 =>
  bnd (if x222 = ((2 : Int32)) then (some ((1 : Int32))) else
  (dr G 4 ((M.2 b196 x197.toNatClampNeg)) fun b225 =>
  ltt (y198.2.1 b225 10) fun x226 =>
  bnd (if x226 = ((2 : Int32)) then (some ((1 : Int32))) else
  (some ((0 : Int32)))) fun (y227 : Int32) =>
  some (y227))) fun (y223 : Int32) =>
  some (y223))) fun (y199 : Int32) =>
  bnd (if y199 = ((0 : Int32)) then (dr G 4 ((M.2 b196 x4.toNatClampNeg)) fun b213 =>
  ltt (y198.2.1 b213 9) fun x214 =>
  dr G 4 ((y198.2.2 b2 0)) fun b215 =>
  ltt (y198.2.1 b215 9) fun x216 =>
  bnd (FX9_timeBetween G y198.2 x214 x216) fun y217 =>
  bnd (FX9_scaleBy G y217.1 y217.2 y198.1) fun y218 =>
  ltt ((y218.2 >>> (((2 : Int32)) &&& 31))) fun x219 =>
  some (x219, y218.1)) else
  (some ((32 : Int32), y198.2))) fun (y200 : Int32 × DD) =>
  bnd (if y200.1 < ((-64 : Int32)) then (some ((32 : Int32))) else
  (bnd (if y200.1 ≤ ((128 : Int32)) then (some (y200.1)) else
  (some ((32 : Int32)))) fun (y210 : Int32) =>
  some (y210))) fun (y201 : Int32) =>
  ltt (uI y200.2 a 10 y201) fun M202 =>
  ltt (M202.1 a 10) fun x203 =>
  ltt ((((64 : Int32)) - x203)) fun x204 =>
  ltt (uI M202 a 9 x204) fun M205 =>
  ltt (uI M205 a 11 ((0 : Int32))) fun M206 =>
  ltt (uI M206 a 12 ((0 : Int32))) fun M207 =>
  ltt (uI M207 a 13 ((5 : Int32))) fun M208 =>
  some (M208, (5 : Int32)))) else
  (if y10 = ((0 : Int32)) then (chk (¬ (((5 : Int32)) < 0 ∨ G.2.2 b74 ≤ ((5 : Int32)).toNatClampNeg)) <|
  ltt (M.1 b74 ((5 : Int32)).toNatClampNeg) fun x78 =>
  if x78 = ((0 : Int32)) then (some (M, y11)) else
  (bnd (if p1 = ((0 : Int32)) then (some ((22 : Int32))) else
  (some ((23 : Int32)))) fun (y80 : Int32) =>
  chk (¬ (y80 < 0 ∨ G.2.2 b8 ≤ y80.toNatClampNeg)) <|
  ltt (M.1 b8 y80.toNatClampNeg) fun x81 =>
  ltt (uI M a 13 x81) fun M82 =>
  bnd (if x4 < ((0 : Int32)) then (some (M82)) else
  (bnd (FX3_weightAt G M82 ((0 : Int32)) x4 p1) fun y97 =>
  dr G 13 ((M82.2 b7 3)) fun b98 =>
  chk (¬ (y97.2 < 0 ∨ G.2.2 b98 ≤ y97.2.toNatClampNeg)) <|
  ltt (y97.1.1 b98 y97.2.toNatClampNeg) fun x99 =>
  ltt (uI y97.1 a 9 x99) fun M100 =>
  bnd (FX3_weightAt G M100 ((0 : Int32)) x4 p1) fun y101 =>
  ltt ((y101.2 + ((1 : Int32)))) fun x102 =>
  dr G 13 ((M100.2 b7 3)) fun b103 =>
  chk (¬ (x102 < 0 ∨ G.2.2 b103 ≤ x102.toNatClampNeg)) <|
  ltt (y101.1.1 b103 x102.toNatClampNeg) fun x104 =>
  ltt (uI y101.1 a 11 x104) fun M105 =>
  some (M105))) fun (y83 : DD) =>
  bnd (if x5 < ((0 : Int32)) then (some (y83)) else
  (bnd (FX3_weightAt G y83 ((1 : Int32)) x5 p1) fun y87 =>
  dr G 13 ((y83.2 b7 3)) fun b88 =>
  chk (¬ (y87.2 < 0 ∨ G.2.2 b88 ≤ y87.2.toNatClampNeg)) <|
  ltt (y87.1.1 b88 y87.2.toNatClampNeg) fun x89 =>
  ltt (uI y87.1 a 10 x89) fun M90 =>
  bnd (FX3_weightAt G M90 ((1 : Int32)) x5 p1) fun y91 =>
  ltt ((y91.2 + ((1 : Int32)))) fun x92 =>
  dr G 13 ((M90.2 b7 3)) fun b93 =>
  chk (¬ (x92 < 0 ∨ G.2.2 b93 ≤ x92.toNatClampNeg)) <|
  ltt (y91.1.1 b93 x92.toNatClampNeg) fun x94 =>
  ltt (uI y91.1 a 12 x94) fun M95 =>
  some (M95))) fun (y84 : DD) =>
  ltt ((y11 + ((3 : Int32)))) fun x85 =>
  some (y84, x85))) else
  (chk (¬ (((6 : Int32)) < 0 ∨ G.2.2 b74 ≤ ((6 : Int32)).toNatClampNeg)) <|
  ltt (M.1 b74 ((6 : Int32)).toNatClampNeg) fun x107 =>
  if x107 = ((1 : Int32)) then (bnd (if p1 = ((0 : Int32)) then (some ((22 : Int32))) else
  (some ((23 : Int32)))) fun (y109 : Int32) =>
  chk (¬ (y109 < 0 ∨ G.2.2 b8 ≤ y109.toNatClampNeg)) <|
  ltt (M.1 b8 y109.toNatClampNeg) fun x110 =>
  ltt (uI M a 13 x110) fun M111 =>
  bnd (if x4 < ((0 : Int32)) then (some (M111)) else
  (bnd (FX3_weightAt G M111 ((0 : Int32)) x4 p1) fun y126 =>
  dr G 13 ((M111.2 b7 3)) fun b127 =>
  chk (¬ (y126.2 < 0 ∨ G.2.2 b127 ≤ y126.2.toNatClampNeg)) <|
  ltt (y126.1.1 b127 y126.2.toNatClampNeg) fun x128 =>
  ltt (uI y126.1 a 9 x128) fun M129 =>
  bnd (FX3_weightAt G M129 ((0 : Int32)) x4 p1) fun y130 =>
  ltt ((y130.2 + ((1 : Int32)))) fun x131 =>
  dr G 13 ((M129.2 b7 3)) fun b132 =>
  chk (¬ (x131 < 0 ∨ G.2.2 b132 ≤ x131.toNatClampNeg)) <|
  ltt (y130.1.1 b132 x131.toNatClampNeg) fun x133 =>
  ltt (uI y130.1 a 11 x133) fun M134 =>
  some (M134))) fun (y112 : DD) =>
  bnd (if x5 < ((0 : Int32)) then (some (y112)) else
  (bnd (FX3_weightAt G y112 ((1 : Int32)) x5 p1) fun y116 =>
  dr G 13 ((y112.2 b7 3)) fun b117 =>
  chk (¬ (y116.2 < 0 ∨ G.2.2 b117 ≤ y116.2.toNatClampNeg)) <|
  ltt (y116.1.1 b117 y116.2.toNatClampNeg) fun x118 =>
  ltt (uI y116.1 a 10 x118) fun M119 =>
  bnd (FX3_weightAt G M119 ((1 : Int32)) x5 p1) fun y120 =>
  ltt ((y120.2 + ((1 : Int32)))) fun x121 =>
  dr G 13 ((M119.2 b7 3)) fun b122 =>
  chk (¬ (x121 < 0 ∨ G.2.2 b122 ≤ x121.toNatClampNeg)) <|
  ltt (y120.1.1 b122 x121.toNatClampNeg) fun x123 =>
  ltt (uI y120.1 a 12 x123) fun M124 =>
  some (M124))) fun (y113 : DD) =>
  ltt ((y11 + ((3 : Int32)))) fun x114 =>
  some (y113, x114)) else
  (some (M, y11)))))
set_option maxHeartbeats 4000000 in
set_option maxRecDepth 100000 in
theorem kX6_chooseWeights (l : Launch) (D : va_G) (ct : CT) (ad : Nat → Nat) (Z : Nat → Nat) (G : GG) (M : DD) (sz : Nat) (a : Nat) (p0 : Option Nat) (p1 : Int32) (y : DD × Int32) (hc : a < G.1) (hk : G.2.1 a = 6) (hF : FX6_chooseWeights G M a p0 p1 = some y) : Met l yX6_chooseWeights wuX6_chooseWeights ({ frames := 2, cells := 0, slots := 0, locals := 44 }) (va_Pc [.ref (ad a), va_re ad p0, .int p1] (kB D ct ad Z G M sz)) (va_Qi (fun (q : Int32) (_ : Unit) => q = y.2) (fun _ t => kE D ct ad G (wA ad G sz) y.1 t) (wA ad G sz)) 0 0 (wA ad G sz) := by
  refine Met.ofW (cc := cX6_chooseWeights) (maxL := 14) (ret := (some .int)) (by decide) rfl ?_
  intro p e s m args below meth c s₁ B hml hv
  obtain ⟨rfl, hsz, hP, hK, hD0, hZ, hN⟩ := hv
  have hx := B.exec
  have hb := B.bytes
  have hr := B.returns
  have hts := atoms_spec (ws := wuX6_chooseWeights) B.pre
  have hown : s.vm.findClass RX6 = some m.cls := findClass_of_methodNamed B.named
  have hlocks := B.notSynchronized
  subst hsz
  have hD := wD_self (sz := s.heap.size) hD0
  have hA9 : ∀ q, s.heap.size ≤ q → wA ad G s.heap.size q := fun q h => Or.inr h
  generalize hAe : wA ad G s.heap.size = A at hD hA9 hZ ⊢
  have hS : va_S A s.heap s.heap [] := va_S.rf
  have hl := lv_entry ([.ref (ad a), va_re ad p0, .int p1]) (n := 14) (by cases p0 <;> exact Nat.le_of_ble_eq_true rfl)
  rw [lg_entry_eq]
  generalize (lg_sl ([.ref (ad a), va_re ad p0, .int p1]) ++ List.replicate (14 - (lg_sl ([.ref (ad a), va_re ad p0, .int p1])).length) Slot.unset).toArray = ls at hl ⊢
  have hl : lv_has ls 14 [(0, .ref (ad a)), (1, va_re ad p0), (2, .int p1)] := by have e9 : lv_args 0 [.ref (ad a), va_re ad p0, .int p1] = [(0, .ref (ad a)), (1, va_re ad p0), (2, .int p1)] := (by cases p0 <;> rfl); rw [e9] at hl; exact hl
  unfold FX6_chooseWeights at hF
  refine lv_aloadq_n hx hb dX6_chooseWeights_0 rfl (lv_at hl 1 rfl) ?_
  obtain ⟨b2, ho2, hc2, hk2, hF⟩ := dr_some hF
  refine W_st (st' := [.ref (ad b2)]) (by rw [va_some ho2]) ?_
  refine va_get (D := D) (ci := 9) (v := va_re ad (M.2 b2 1)) (C := RX9) (T := TX9) (N := 20) hx hb hts (mus hf_X9) hown hK hP b2 (wld_o ct ad G M hc2 hk2 (by decide)) rfl 1 (by decide) (hts (.fieldLink RX6 128 "VideoSuite$Work" "head" "LVideoSuite$Header;") (mu mw_428)) (fun _ h9 => h9) rfl dX6_chooseWeights_1 ?_
  refine lv_astoreq_n (lv' := [(3, va_re ad (M.2 b2 1)), (0, .ref (ad a)), (1, va_re ad p0), (2, .int p1)]) hx hb dX6_chooseWeights_4 rfl hl (by decide) rfl (fun ls hl => ?_)
  refine lv_aload_n hx hb dX6_chooseWeights_5 rfl (lv_at hl 1 rfl) ?_
  refine va_get (D := D) (ci := 6) (v := va_re ad (M.2 a 5)) (C := RX6) (T := TX6) (N := 14) hx hb hts (mus hf_X6) hown hK hP a (wld_o ct ad G M hc hk (by decide)) rfl 5 (by decide) (hts (.fieldLink RX6 27 "VideoSuite$Samples" "motion" "[I") (mu mw_540)) (fun _ h9 => h9) rfl dX6_chooseWeights_6 ?_
  refine lv_iconst (v := (0 : Int32)) hx hb dX6_chooseWeights_9 (by decide) ?_
  obtain ⟨b3, ho3, hc3, hk3, hF⟩ := dr_some hF
  refine W_st (st' := [.int (0 : Int32), .ref (ad b3)]) (by rw [va_some ho3]) ?_
  obtain ⟨hvc, hF⟩ := chk_some hF
  refine va_iald hx hb hK hP b3 1 (wld_i ct ad G M hc3 hk3) rfl hvc dX6_chooseWeights_10 ?_
  obtain ⟨x4, ex4, hF⟩ := ltt_some hF
  refine lv_topi (fun zx4 ezx4 => ?_)
  obtain rfl : x4 = zx4 := ex4.trans ezx4.symm
  refine lv_istore (lv' := [(4, .int x4), (3, va_re ad (M.2 b2 1)), (0, .ref (ad a)), (1, va_re ad p0), (2, .int p1)]) hx hb dX6_chooseWeights_11 hl (by decide) (by generalize ((M.2 b2 1)) = o9; cases o9 <;> rfl) (fun ls hl => ?_)
  refine lv_aload_n hx hb dX6_chooseWeights_13 rfl (lv_at hl 2 rfl) ?_
  refine va_get (D := D) (ci := 6) (v := va_re ad (M.2 a 5)) (C := RX6) (T := TX6) (N := 14) hx hb hts (mus hf_X6) hown hK hP a (wld_o ct ad G M hc hk (by decide)) rfl 5 (by decide) (hts (.fieldLink RX6 27 "VideoSuite$Samples" "motion" "[I") (mu mw_540)) (fun _ h9 => h9) rfl dX6_chooseWeights_14 ?_
  refine lv_iconst (v := (3 : Int32)) hx hb dX6_chooseWeights_17 (by decide) ?_
  refine W_st (st' := [.int (3 : Int32), .ref (ad b3)]) (by rw [va_some ho3]) ?_
  obtain ⟨hvc, hF⟩ := chk_some hF
  refine va_iald hx hb hK hP b3 1 (wld_i ct ad G M hc3 hk3) rfl hvc dX6_chooseWeights_18 ?_
  obtain ⟨x5, ex5, hF⟩ := ltt_some hF
  refine lv_topi (fun zx5 ezx5 => ?_)
  obtain rfl : x5 = zx5 := ex5.trans ezx5.symm
  refine lv_istore (lv' := [(5, .int x5), (4, .int x4), (3, va_re ad (M.2 b2 1)), (0, .ref (ad a)), (1, va_re ad p0), (2, .int p1)]) hx hb dX6_chooseWeights_19 hl (by decide) rfl (fun ls hl => ?_)
  refine lv_iload hx hb dX6_chooseWeights_21 (lv_at hl 1 rfl) ?_
  obtain ⟨y6, hy6, hF⟩ := bnd_some hF
  have J6 : ∀ (H : Heap) (locs : List Loc) (ls : Array Slot), va_P D classes (wld ct ad G M) H → va_D A (wld ct ad G M) → va_S A s.heap H locs → lv_has ls 14 [(5, .int x5), (4, .int x4), (3, va_re ad (M.2 b2 1)), (0, .ref (ad a)), (1, va_re ad p0), (2, .int p1)] → W p l e (headSpec wuX6_chooseWeights ({ frames := 2, cells := 0, slots := 0, locals := 44 })).room s m ([.ref (ad a), va_re ad p0, .int p1] : List Value).toArray below meth c H locs 0 0 (MQ below (va_Qi (fun (q : Int32) (_ : Unit) => q = y.2) (fun _ t => kE D ct ad G A y.1 t) A) ([.ref (ad a), va_re ad p0, .int p1] : List Value).toArray s 0 0 A) (F0 m 36 ls [.int y6]) := by
    intro H locs ls hP hD hS hl
    refine lv_istore (lv' := [(6, .int y6), (5, .int x5), (4, .int x4), (3, va_re ad (M.2 b2 1)), (0, .ref (ad a)), (1, va_re ad p0), (2, .int p1)]) hx hb dX6_chooseWeights_36 hl (by decide) rfl (fun ls hl => ?_)
    refine lv_aloadq_n hx hb dX6_chooseWeights_38 rfl (lv_at hl 3 rfl) ?_
    obtain ⟨b7, ho7, hc7, hk7, hF⟩ := dr_some hF
    refine W_st (st' := [.ref (ad b7)]) (by rw [va_some ho7]) ?_
    refine va_get (D := D) (ci := 3) (v := va_re ad (M.2 b7 0)) (C := RX3) (T := TX3) (N := 4) hx hb hts (mus hf_X3) hown hK hP b7 (wld_o ct ad G M hc7 hk7 (by decide)) rfl 0 (by decide) (hts (.fieldLink RX6 132 "VideoSuite$Header" "v" "[I") (mu mw_619)) (fun _ h9 => h9) rfl dX6_chooseWeights_39 ?_
    refine lv_iconst (v := (1 : Int32)) hx hb dX6_chooseWeights_42 (by decide) ?_
    obtain ⟨b8, ho8, hc8, hk8, hF⟩ := dr_some hF
    refine W_st (st' := [.int (1 : Int32), .ref (ad b8)]) (by rw [va_some ho8]) ?_
    obtain ⟨hvc, hF⟩ := chk_some hF
    refine va_iald hx hb hK hP b8 1 (wld_i ct ad G M hc8 hk8) rfl hvc dX6_chooseWeights_43 ?_
    obtain ⟨x9, ex9, hF⟩ := ltt_some hF
    refine lv_topi (fun zx9 ezx9 => ?_)
    obtain rfl : x9 = zx9 := ex9.trans ezx9.symm
    refine lv_iconst (v := (1 : Int32)) hx hb dX6_chooseWeights_44 (by decide) ?_
    obtain ⟨y10, hy10, hF⟩ := bnd_some hF
    have J10 : ∀ (H : Heap) (locs : List Loc) (ls : Array Slot), va_P D classes (wld ct ad G M) H → va_D A (wld ct ad G M) → va_S A s.heap H locs → lv_has ls 14 [(6, .int y6), (5, .int x5), (4, .int x4), (3, va_re ad (M.2 b2 1)), (0, .ref (ad a)), (1, va_re ad p0), (2, .int p1)] → W p l e (headSpec wuX6_chooseWeights ({ frames := 2, cells := 0, slots := 0, locals := 44 })).room s m ([.ref (ad a), va_re ad p0, .int p1] : List Value).toArray below meth c H locs 0 0 (MQ below (va_Qi (fun (q : Int32) (_ : Unit) => q = y.2) (fun _ t => kE D ct ad G A y.1 t) A) ([.ref (ad a), va_re ad p0, .int p1] : List Value).toArray s 0 0 A) (F0 m 53 ls [.int y10]) := by
      intro H locs ls hP hD hS hl
      refine lv_istore (lv' := [(7, .int y10), (6, .int y6), (5, .int x5), (4, .int x4), (3, va_re ad (M.2 b2 1)), (0, .ref (ad a)), (1, va_re ad p0), (2, .int p1)]) hx hb dX6_chooseWeights_53 hl (by decide) rfl (fun ls hl => ?_)
      refine lv_iload hx hb dX6_chooseWeights_55 (lv_at hl 1 rfl) ?_
      obtain ⟨y11, hy11, hF⟩ := bnd_some hF
      have J11 : ∀ (H : Heap) (locs : List Loc) (ls : Array Slot), va_P D classes (wld ct ad G M) H → va_D A (wld ct ad G M) → va_S A s.heap H locs → lv_has ls 14 [(7, .int y10), (6, .int y6), (5, .int x5), (4, .int x4), (3, va_re ad (M.2 b2 1)), (0, .ref (ad a)), (1, va_re ad p0), (2, .int p1)] → W p l e (headSpec wuX6_chooseWeights ({ frames := 2, cells := 0, slots := 0, locals := 44 })).room s m ([.ref (ad a), va_re ad p0, .int p1] : List Value).toArray below meth c H locs 0 0 (MQ below (va_Qi (fun (q : Int32) (_ : Unit) => q = y.2) (fun _ t => kE D ct ad G A y.1 t) A) ([.ref (ad a), va_re ad p0, .int p1] : List Value).toArray s 0 0 A) (F0 m 74 ls [.int y11]) := by
        intro H locs ls hP hD hS hl
        refine lv_istore (lv' := [(8, .int y11), (7, .int y10), (6, .int y6), (5, .int x5), (4, .int x4), (3, va_re ad (M.2 b2 1)), (0, .ref (ad a)), (1, va_re ad p0), (2, .int p1)]) hx hb dX6_chooseWeights_74 hl (by decide) rfl (fun ls hl => ?_)
        refine lv_iload hx hb dX6_chooseWeights_76 (lv_at hl 1 rfl) ?_
        refine lv_if_eq (tgt := 265) hx hb dX6_chooseWeights_78 (by decide) (fun c12 => ?_) (fun c12 => ?_)
        · rw [if_pos c12] at hF
          refine lv_iload hx hb dX6_chooseWeights_265 (lv_at hl 1 rfl) ?_
          refine lv_if_eq (tgt := 284) hx hb dX6_chooseWeights_267 (by decide) (fun c13 => ?_) (fun c13 => ?_)
          · rw [if_pos c13] at hF
            refine lv_aloadq_n hx hb dX6_chooseWeights_284 rfl (lv_at hl 7 rfl) ?_
            refine W_st (st' := [.ref (ad b2)]) (by rw [va_some ho2]) ?_
            refine va_get (D := D) (ci := 9) (v := va_re ad (M.2 b2 2)) (C := RX9) (T := TX9) (N := 20) hx hb hts (mus hf_X9) hown hK hP b2 (wld_o ct ad G M hc2 hk2 (by decide)) rfl 2 (by decide) (hts (.fieldLink RX6 137 "VideoSuite$Work" "par" "[I") (mu mw_433)) (fun _ h9 => h9) rfl dX6_chooseWeights_285 ?_
            refine lv_iconst (v := (5 : Int32)) hx hb dX6_chooseWeights_288 (by decide) ?_
            obtain ⟨b14, ho14, hc14, hk14, hF⟩ := dr_some hF
            refine W_st (st' := [.int (5 : Int32), .ref (ad b14)]) (by rw [va_some ho14]) ?_
            obtain ⟨hvc, hF⟩ := chk_some hF
            refine va_iald hx hb hK hP b14 1 (wld_i ct ad G M hc14 hk14) rfl hvc dX6_chooseWeights_289 ?_
            obtain ⟨x15, ex15, hF⟩ := ltt_some hF
            refine lv_topi (fun zx15 ezx15 => ?_)
            obtain rfl : x15 = zx15 := ex15.trans ezx15.symm
            refine lv_if_ne (tgt := 296) hx hb dX6_chooseWeights_290 (by decide) (fun c16 => ?_) (fun c16 => ?_)
            · rw [if_neg c16] at hF
              refine lv_aload_n hx hb dX6_chooseWeights_296 rfl (lv_at hl 6 rfl) ?_
              refine lv_aloadq_n hx hb dX6_chooseWeights_297 rfl (lv_at hl 5 rfl) ?_
              refine W_st (st' := [.ref (ad b7), .ref (ad a)]) (by rw [va_some ho7]) ?_
              refine va_get (D := D) (ci := 3) (v := va_re ad (M.2 b7 0)) (C := RX3) (T := TX3) (N := 4) hx hb hts (mus hf_X3) hown hK hP b7 (wld_o ct ad G M hc7 hk7 (by decide)) rfl 0 (by decide) (hts (.fieldLink RX6 132 "VideoSuite$Header" "v" "[I") (mu mw_619)) (fun _ h9 => h9) rfl dX6_chooseWeights_298 ?_
              refine lv_iload_n hx hb dX6_chooseWeights_301 rfl (lv_at hl 8 rfl) ?_
              obtain ⟨y17, hy17, hF⟩ := bnd_some hF
              have J17 : ∀ (H : Heap) (locs : List Loc) (ls : Array Slot), va_P D classes (wld ct ad G M) H → va_D A (wld ct ad G M) → va_S A s.heap H locs → lv_has ls 14 [(8, .int y11), (7, .int y10), (6, .int y6), (5, .int x5), (4, .int x4), (3, va_re ad (M.2 b2 1)), (0, .ref (ad a)), (1, va_re ad p0), (2, .int p1)] → W p l e (headSpec wuX6_chooseWeights ({ frames := 2, cells := 0, slots := 0, locals := 44 })).room s m ([.ref (ad a), va_re ad p0, .int p1] : List Value).toArray below meth c H locs 0 0 (MQ below (va_Qi (fun (q : Int32) (_ : Unit) => q = y.2) (fun _ t => kE D ct ad G A y.1 t) A) ([.ref (ad a), va_re ad p0, .int p1] : List Value).toArray s 0 0 A) (F0 m 312 ls [.int y17, va_re ad (M.2 b7 0), .ref (ad a)]) := by
                intro H locs ls hP hD hS hl
                refine W_st (st' := [.int y17, .ref (ad b8), .ref (ad a)]) (by rw [va_some ho8]) ?_
                obtain ⟨hvc, hF⟩ := chk_some hF
                refine va_iald hx hb hK hP b8 1 (wld_i ct ad G M hc8 hk8) rfl hvc dX6_chooseWeights_312 ?_
                obtain ⟨x18, ex18, hF⟩ := ltt_some hF
                refine lv_topi (fun zx18 ezx18 => ?_)
                obtain rfl : x18 = zx18 := ex18.trans ezx18.symm
                refine va_put (D := D) (ci := 6) (v := .int x18) (ty := .int) (C := RX6) (T := TX6) (N := 14) hx hb hts (mus hf_X6) tyX6 tyX6_ok nmX6 hown hK hP hD hS a (wld_o ct ad G M hc hk (by decide)) rfl 13 (by decide) (hts (.fieldLink RX6 164 "VideoSuite$Samples" "shift" "I") (mu mw_549)) (fun _ h9 => h9) rfl (by decide +kernel) rfl rfl (Nat.le_of_ble_eq_true rfl) dX6_chooseWeights_313 (fun H locs hP hD hS => ?_)
                obtain ⟨M19, eM19, hF⟩ := ltt_some hF
                rw [set_oI ct ad G M hc hk (by decide) (by rfl), ← eM19] at hP hD
                refine lv_iload hx hb dX6_chooseWeights_316 (lv_at hl 4 rfl) ?_
                obtain ⟨y20, hy20, hF⟩ := bnd_some hF
                have J20 : ∀ (H : Heap) (locs : List Loc) (ls : Array Slot), va_P D classes (wld ct ad G y20) H → va_D A (wld ct ad G y20) → va_S A s.heap H locs → lv_has ls 14 [(8, .int y11), (7, .int y10), (6, .int y6), (5, .int x5), (4, .int x4), (3, va_re ad (M.2 b2 1)), (0, .ref (ad a)), (1, va_re ad p0), (2, .int p1)] → W p l e (headSpec wuX6_chooseWeights ({ frames := 2, cells := 0, slots := 0, locals := 44 })).room s m ([.ref (ad a), va_re ad p0, .int p1] : List Value).toArray below meth c H locs 0 0 (MQ below (va_Qi (fun (q : Int32) (_ : Unit) => q = y.2) (fun _ t => kE D ct ad G A y.1 t) A) ([.ref (ad a), va_re ad p0, .int p1] : List Value).toArray s 0 0 A) (F0 m 355 ls []) := by
                  intro H locs ls hP hD hS hl
                  refine lv_iload hx hb dX6_chooseWeights_355 (lv_at hl 3 rfl) ?_
                  obtain ⟨y21, hy21, hF⟩ := bnd_some hF
                  have J21 : ∀ (H : Heap) (locs : List Loc) (ls : Array Slot), va_P D classes (wld ct ad G y21) H → va_D A (wld ct ad G y21) → va_S A s.heap H locs → lv_has ls 14 [(8, .int y11), (7, .int y10), (6, .int y6), (5, .int x5), (4, .int x4), (3, va_re ad (M.2 b2 1)), (0, .ref (ad a)), (1, va_re ad p0), (2, .int p1)] → W p l e (headSpec wuX6_chooseWeights ({ frames := 2, cells := 0, slots := 0, locals := 44 })).room s m ([.ref (ad a), va_re ad p0, .int p1] : List Value).toArray below meth c H locs 0 0 (MQ below (va_Qi (fun (q : Int32) (_ : Unit) => q = y.2) (fun _ t => kE D ct ad G A y.1 t) A) ([.ref (ad a), va_re ad p0, .int p1] : List Value).toArray s 0 0 A) (F0 m 394 ls []) := by
                    intro H locs ls hP hD hS hl
                    refine lv_iload hx hb dX6_chooseWeights_394 (lv_at hl 0 rfl) ?_
                    refine lv_iconst (v := (3 : Int32)) hx hb dX6_chooseWeights_396 (by decide) ?_
                    refine lv_iadd hx hb dX6_chooseWeights_397 ?_
                    obtain ⟨x22, ex22, hF⟩ := ltt_some hF
                    refine lv_topi (fun zx22 ezx22 => ?_)
                    obtain rfl : x22 = zx22 := ex22.trans ezx22.symm
                    obtain rfl := Option.some.inj hF
                    exact W.iret (v := x22) hx hb hr (fun t ht hW => ⟨⟨_, (), rfl, rfl, ⟨by rw [ht]; exact hP, va_K.moved hW.alike hK, hD⟩⟩, hS.F ht⟩) hS.2.2 dX6_chooseWeights_398
                  clear hF
                  have hF := hy21
                  clear hy21
                  refine lv_if_lt (tgt := 394) hx hb dX6_chooseWeights_357 (by decide) (fun c23 => ?_) (fun c23 => ?_)
                  · rw [if_pos c23] at hF
                    obtain rfl := Option.some.inj hF
                    exact J21 _ _ _ hP hD hS (lv_sub hl [0, 1, 2, 3, 4, 5, 6, 7, 8] rfl)
                  · rw [if_neg c23] at hF
                    refine lv_aload_n hx hb dX6_chooseWeights_360 rfl (lv_at hl 6 rfl) ?_
                    refine lv_aloadq_n hx hb dX6_chooseWeights_361 rfl (lv_at hl 5 rfl) ?_
                    refine W_st (st' := [.ref (ad b7), .ref (ad a)]) (by rw [va_some ho7]) ?_
                    refine va_get (D := D) (ci := 3) (v := va_re ad (y20.2 b7 3)) (C := RX3) (T := TX3) (N := 4) hx hb hts (mus hf_X3) hown hK hP b7 (wld_o ct ad G y20 hc7 hk7 (by decide)) rfl 3 (by decide) (hts (.fieldLink RX6 167 "VideoSuite$Header" "weight" "[I") (mu mw_628)) (fun _ h9 => h9) rfl dX6_chooseWeights_362 ?_
                    refine lv_iconst (v := (1 : Int32)) hx hb dX6_chooseWeights_365 (by decide) ?_
                    refine lv_iload hx hb dX6_chooseWeights_366 (lv_at hl 3 rfl) ?_
                    refine lv_iload_n hx hb dX6_chooseWeights_368 rfl (lv_at hl 8 rfl) ?_
                    obtain ⟨y24, hy24, hF⟩ := bnd_some hF
                    have hf9 := wA_in hD hA9 hS
                    refine va_calli (va_runS (As := [.int (1 : Int32), .int x5, .int p1]) (rest := [va_re ad (y20.2 b7 3), .ref (ad a)]) ⟨hx, hb, hml, hown, hts⟩ (kX3_weightAt l D ct ad Z G y20 H.size ((1 : Int32)) x5 p1 y24 hy24) (va_cwS 3 hts gX6_chooseWeights_X3_weightAt rfl rfl rfl (by decide +kernel) ⟨Nat.le_of_ble_eq_true rfl, Nat.le_of_ble_eq_true rfl⟩) ⟨fun a U g mk q => by obtain ⟨q0, q1, qP, qK, qD, qZ, qN⟩ := q; exact ⟨q0, q1, qP, va_K.moved (u := U) (U := U.calling g mk a) (Vm.Alike.refl U.vm) qK, qD, sF.moved (u := U) (U := U.calling g mk a) (Vm.Alike.refl U.vm) qZ, nF.same rfl qN⟩, fun U hU hW => ⟨rfl, by rw [hU], by rw [hU]; exact hP, va_K.moved hW.alike hK, hD.weaken (fun _ _ _ _ => trivial), by rw [hU]; exact ((hZ.kept hS.2.1).narrow hf9).moved hW.alike, hN.warm hW⟩⟩ rfl rfl hl.1 rfl (lv_room (by simp only [List.map, va_re_cat]; exact Nat.le_of_ble_eq_true rfl)) dX6_chooseWeights_369 ⟨(Nat.zero_le _), (Nat.zero_le _)⟩) hS (fun q _ h => hf9 q h) hf9 (fun r u t H locs ht hvm hw hB hz1 hk1 hS => ?_)
                    obtain ⟨hP, hK9, hD9⟩ := hB
                    rw [ht] at hP
                    try dsimp only at hw
                    subst hw
                    have hD := hD9.weaken (fun _ q _ h => hf9 q.1 h)
                    obtain ⟨b25, ho25, hc25, hk25, hF⟩ := dr_some hF
                    refine W_st (st' := [.int y24.2, .ref (ad b25), .ref (ad a)]) (by rw [va_some ho25]) ?_
                    obtain ⟨hvc, hF⟩ := chk_some hF
                    refine va_iald hx hb hK hP b25 1 (wld_i ct ad G y24.1 hc25 hk25) rfl hvc dX6_chooseWeights_372 ?_
                    obtain ⟨x26, ex26, hF⟩ := ltt_some hF
                    refine lv_topi (fun zx26 ezx26 => ?_)
                    obtain rfl : x26 = zx26 := ex26.trans ezx26.symm
                    refine va_put (D := D) (ci := 6) (v := .int x26) (ty := .int) (C := RX6) (T := TX6) (N := 14) hx hb hts (mus hf_X6) tyX6 tyX6_ok nmX6 hown hK hP hD hS a (wld_o ct ad G y24.1 hc hk (by decide)) rfl 10 (by decide) (hts (.fieldLink RX6 152 "VideoSuite$Samples" "otherWeight" "I") (mu mw_546)) (fun _ h9 => h9) rfl (by decide +kernel) rfl rfl (Nat.le_of_ble_eq_true rfl) dX6_chooseWeights_373 (fun H locs hP hD hS => ?_)
                    obtain ⟨M27, eM27, hF⟩ := ltt_some hF
                    rw [set_oI ct ad G y24.1 hc hk (by decide) (by rfl), ← eM27] at hP hD
                    refine lv_aload_n hx hb dX6_chooseWeights_376 rfl (lv_at hl 6 rfl) ?_
                    refine lv_aloadq_n hx hb dX6_chooseWeights_377 rfl (lv_at hl 5 rfl) ?_
                    refine W_st (st' := [.ref (ad b7), .ref (ad a)]) (by rw [va_some ho7]) ?_
                    refine va_get (D := D) (ci := 3) (v := va_re ad (M27.2 b7 3)) (C := RX3) (T := TX3) (N := 4) hx hb hts (mus hf_X3) hown hK hP b7 (wld_o ct ad G M27 hc7 hk7 (by decide)) rfl 3 (by decide) (hts (.fieldLink RX6 167 "VideoSuite$Header" "weight" "[I") (mu mw_628)) (fun _ h9 => h9) rfl dX6_chooseWeights_378 ?_
                    refine lv_iconst (v := (1 : Int32)) hx hb dX6_chooseWeights_381 (by decide) ?_
                    refine lv_iload hx hb dX6_chooseWeights_382 (lv_at hl 3 rfl) ?_
                    refine lv_iload_n hx hb dX6_chooseWeights_384 rfl (lv_at hl 8 rfl) ?_
                    obtain ⟨y28, hy28, hF⟩ := bnd_some hF
                    have hf9 := wA_in hD hA9 hS
                    refine va_calli (va_runS (As := [.int (1 : Int32), .int x5, .int p1]) (rest := [va_re ad (M27.2 b7 3), .ref (ad a)]) ⟨hx, hb, hml, hown, hts⟩ (kX3_weightAt l D ct ad Z G M27 H.size ((1 : Int32)) x5 p1 y28 hy28) (va_cwS 3 hts gX6_chooseWeights_X3_weightAt rfl rfl rfl (by decide +kernel) ⟨Nat.le_of_ble_eq_true rfl, Nat.le_of_ble_eq_true rfl⟩) ⟨fun a U g mk q => by obtain ⟨q0, q1, qP, qK, qD, qZ, qN⟩ := q; exact ⟨q0, q1, qP, va_K.moved (u := U) (U := U.calling g mk a) (Vm.Alike.refl U.vm) qK, qD, sF.moved (u := U) (U := U.calling g mk a) (Vm.Alike.refl U.vm) qZ, nF.same rfl qN⟩, fun U hU hW => ⟨rfl, by rw [hU], by rw [hU]; exact hP, va_K.moved hW.alike hK, hD.weaken (fun _ _ _ _ => trivial), by rw [hU]; exact ((hZ.kept hS.2.1).narrow hf9).moved hW.alike, hN.warm hW⟩⟩ rfl rfl hl.1 rfl (lv_room (by simp only [List.map, va_re_cat]; exact Nat.le_of_ble_eq_true rfl)) dX6_chooseWeights_385 ⟨(Nat.zero_le _), (Nat.zero_le _)⟩) hS (fun q _ h => hf9 q h) hf9 (fun r u t H locs ht hvm hw hB hz1 hk1 hS => ?_)
                    obtain ⟨hP, hK9, hD9⟩ := hB
                    rw [ht] at hP
                    try dsimp only at hw
                    subst hw
                    have hD := hD9.weaken (fun _ q _ h => hf9 q.1 h)
                    refine lv_iconst (v := (1 : Int32)) hx hb dX6_chooseWeights_388 (by decide) ?_
                    refine lv_iadd hx hb dX6_chooseWeights_389 ?_
                    obtain ⟨x29, ex29, hF⟩ := ltt_some hF
                    refine lv_topi (fun zx29 ezx29 => ?_)
                    obtain rfl : x29 = zx29 := ex29.trans ezx29.symm
                    obtain ⟨b30, ho30, hc30, hk30, hF⟩ := dr_some hF
                    refine W_st (st' := [.int x29, .ref (ad b30), .ref (ad a)]) (by rw [va_some ho30]) ?_
                    obtain ⟨hvc, hF⟩ := chk_some hF
                    refine va_iald hx hb hK hP b30 1 (wld_i ct ad G y28.1 hc30 hk30) rfl hvc dX6_chooseWeights_390 ?_
                    obtain ⟨x31, ex31, hF⟩ := ltt_some hF
                    refine lv_topi (fun zx31 ezx31 => ?_)
                    obtain rfl : x31 = zx31 := ex31.trans ezx31.symm
                    refine va_put (D := D) (ci := 6) (v := .int x31) (ty := .int) (C := RX6) (T := TX6) (N := 14) hx hb hts (mus hf_X6) tyX6 tyX6_ok nmX6 hown hK hP hD hS a (wld_o ct ad G y28.1 hc hk (by decide)) rfl 12 (by decide) (hts (.fieldLink RX6 161 "VideoSuite$Samples" "otherOffset" "I") (mu mw_548)) (fun _ h9 => h9) rfl (by decide +kernel) rfl rfl (Nat.le_of_ble_eq_true rfl) dX6_chooseWeights_391 (fun H locs hP hD hS => ?_)
                    obtain ⟨M32, eM32, hF⟩ := ltt_some hF
                    rw [set_oI ct ad G y28.1 hc hk (by decide) (by rfl), ← eM32] at hP hD
                    obtain rfl := Option.some.inj hF
                    exact J21 _ _ _ hP hD hS (lv_sub hl [0, 1, 2, 3, 4, 5, 6, 7, 8] rfl)
                clear hF
                have hF := hy20
                clear hy20
                refine lv_if_lt (tgt := 355) hx hb dX6_chooseWeights_318 (by decide) (fun c33 => ?_) (fun c33 => ?_)
                · rw [if_pos c33] at hF
                  obtain rfl := Option.some.inj hF
                  exact J20 _ _ _ hP hD hS (lv_sub hl [0, 1, 2, 3, 4, 5, 6, 7, 8] rfl)
                · rw [if_neg c33] at hF
                  refine lv_aload_n hx hb dX6_chooseWeights_321 rfl (lv_at hl 6 rfl) ?_
                  refine lv_aloadq_n hx hb dX6_chooseWeights_322 rfl (lv_at hl 5 rfl) ?_
                  refine W_st (st' := [.ref (ad b7), .ref (ad a)]) (by rw [va_some ho7]) ?_
                  refine va_get (D := D) (ci := 3) (v := va_re ad (M19.2 b7 3)) (C := RX3) (T := TX3) (N := 4) hx hb hts (mus hf_X3) hown hK hP b7 (wld_o ct ad G M19 hc7 hk7 (by decide)) rfl 3 (by decide) (hts (.fieldLink RX6 167 "VideoSuite$Header" "weight" "[I") (mu mw_628)) (fun _ h9 => h9) rfl dX6_chooseWeights_323 ?_
                  refine lv_iconst (v := (0 : Int32)) hx hb dX6_chooseWeights_326 (by decide) ?_
                  refine lv_iload hx hb dX6_chooseWeights_327 (lv_at hl 4 rfl) ?_
                  refine lv_iload_n hx hb dX6_chooseWeights_329 rfl (lv_at hl 8 rfl) ?_
                  obtain ⟨y34, hy34, hF⟩ := bnd_some hF
                  have hf9 := wA_in hD hA9 hS
                  refine va_calli (va_runS (As := [.int (0 : Int32), .int x4, .int p1]) (rest := [va_re ad (M19.2 b7 3), .ref (ad a)]) ⟨hx, hb, hml, hown, hts⟩ (kX3_weightAt l D ct ad Z G M19 H.size ((0 : Int32)) x4 p1 y34 hy34) (va_cwS 3 hts gX6_chooseWeights_X3_weightAt rfl rfl rfl (by decide +kernel) ⟨Nat.le_of_ble_eq_true rfl, Nat.le_of_ble_eq_true rfl⟩) ⟨fun a U g mk q => by obtain ⟨q0, q1, qP, qK, qD, qZ, qN⟩ := q; exact ⟨q0, q1, qP, va_K.moved (u := U) (U := U.calling g mk a) (Vm.Alike.refl U.vm) qK, qD, sF.moved (u := U) (U := U.calling g mk a) (Vm.Alike.refl U.vm) qZ, nF.same rfl qN⟩, fun U hU hW => ⟨rfl, by rw [hU], by rw [hU]; exact hP, va_K.moved hW.alike hK, hD.weaken (fun _ _ _ _ => trivial), by rw [hU]; exact ((hZ.kept hS.2.1).narrow hf9).moved hW.alike, hN.warm hW⟩⟩ rfl rfl hl.1 rfl (lv_room (by simp only [List.map, va_re_cat]; exact Nat.le_of_ble_eq_true rfl)) dX6_chooseWeights_330 ⟨(Nat.zero_le _), (Nat.zero_le _)⟩) hS (fun q _ h => hf9 q h) hf9 (fun r u t H locs ht hvm hw hB hz1 hk1 hS => ?_)
                  obtain ⟨hP, hK9, hD9⟩ := hB
                  rw [ht] at hP
                  try dsimp only at hw
                  subst hw
                  have hD := hD9.weaken (fun _ q _ h => hf9 q.1 h)
                  obtain ⟨b35, ho35, hc35, hk35, hF⟩ := dr_some hF
                  refine W_st (st' := [.int y34.2, .ref (ad b35), .ref (ad a)]) (by rw [va_some ho35]) ?_
                  obtain ⟨hvc, hF⟩ := chk_some hF
                  refine va_iald hx hb hK hP b35 1 (wld_i ct ad G y34.1 hc35 hk35) rfl hvc dX6_chooseWeights_333 ?_
                  obtain ⟨x36, ex36, hF⟩ := ltt_some hF
                  refine lv_topi (fun zx36 ezx36 => ?_)
                  obtain rfl : x36 = zx36 := ex36.trans ezx36.symm
                  refine va_put (D := D) (ci := 6) (v := .int x36) (ty := .int) (C := RX6) (T := TX6) (N := 14) hx hb hts (mus hf_X6) tyX6 tyX6_ok nmX6 hown hK hP hD hS a (wld_o ct ad G y34.1 hc hk (by decide)) rfl 9 (by decide) (hts (.fieldLink RX6 155 "VideoSuite$Samples" "weight" "I") (mu mw_545)) (fun _ h9 => h9) rfl (by decide +kernel) rfl rfl (Nat.le_of_ble_eq_true rfl) dX6_chooseWeights_334 (fun H locs hP hD hS => ?_)
                  obtain ⟨M37, eM37, hF⟩ := ltt_some hF
                  rw [set_oI ct ad G y34.1 hc hk (by decide) (by rfl), ← eM37] at hP hD
                  refine lv_aload_n hx hb dX6_chooseWeights_337 rfl (lv_at hl 6 rfl) ?_
                  refine lv_aloadq_n hx hb dX6_chooseWeights_338 rfl (lv_at hl 5 rfl) ?_
                  refine W_st (st' := [.ref (ad b7), .ref (ad a)]) (by rw [va_some ho7]) ?_
                  refine va_get (D := D) (ci := 3) (v := va_re ad (M37.2 b7 3)) (C := RX3) (T := TX3) (N := 4) hx hb hts (mus hf_X3) hown hK hP b7 (wld_o ct ad G M37 hc7 hk7 (by decide)) rfl 3 (by decide) (hts (.fieldLink RX6 167 "VideoSuite$Header" "weight" "[I") (mu mw_628)) (fun _ h9 => h9) rfl dX6_chooseWeights_339 ?_
                  refine lv_iconst (v := (0 : Int32)) hx hb dX6_chooseWeights_342 (by decide) ?_
                  refine lv_iload hx hb dX6_chooseWeights_343 (lv_at hl 4 rfl) ?_
                  refine lv_iload_n hx hb dX6_chooseWeights_345 rfl (lv_at hl 8 rfl) ?_
                  obtain ⟨y38, hy38, hF⟩ := bnd_some hF
                  have hf9 := wA_in hD hA9 hS
                  refine va_calli (va_runS (As := [.int (0 : Int32), .int x4, .int p1]) (rest := [va_re ad (M37.2 b7 3), .ref (ad a)]) ⟨hx, hb, hml, hown, hts⟩ (kX3_weightAt l D ct ad Z G M37 H.size ((0 : Int32)) x4 p1 y38 hy38) (va_cwS 3 hts gX6_chooseWeights_X3_weightAt rfl rfl rfl (by decide +kernel) ⟨Nat.le_of_ble_eq_true rfl, Nat.le_of_ble_eq_true rfl⟩) ⟨fun a U g mk q => by obtain ⟨q0, q1, qP, qK, qD, qZ, qN⟩ := q; exact ⟨q0, q1, qP, va_K.moved (u := U) (U := U.calling g mk a) (Vm.Alike.refl U.vm) qK, qD, sF.moved (u := U) (U := U.calling g mk a) (Vm.Alike.refl U.vm) qZ, nF.same rfl qN⟩, fun U hU hW => ⟨rfl, by rw [hU], by rw [hU]; exact hP, va_K.moved hW.alike hK, hD.weaken (fun _ _ _ _ => trivial), by rw [hU]; exact ((hZ.kept hS.2.1).narrow hf9).moved hW.alike, hN.warm hW⟩⟩ rfl rfl hl.1 rfl (lv_room (by simp only [List.map, va_re_cat]; exact Nat.le_of_ble_eq_true rfl)) dX6_chooseWeights_346 ⟨(Nat.zero_le _), (Nat.zero_le _)⟩) hS (fun q _ h => hf9 q h) hf9 (fun r u t H locs ht hvm hw hB hz1 hk1 hS => ?_)
                  obtain ⟨hP, hK9, hD9⟩ := hB
                  rw [ht] at hP
                  try dsimp only at hw
                  subst hw
                  have hD := hD9.weaken (fun _ q _ h => hf9 q.1 h)
                  refine lv_iconst (v := (1 : Int32)) hx hb dX6_chooseWeights_349 (by decide) ?_
                  refine lv_iadd hx hb dX6_chooseWeights_350 ?_
                  obtain ⟨x39, ex39, hF⟩ := ltt_some hF
                  refine lv_topi (fun zx39 ezx39 => ?_)
                  obtain rfl : x39 = zx39 := ex39.trans ezx39.symm
                  obtain ⟨b40, ho40, hc40, hk40, hF⟩ := dr_some hF
                  refine W_st (st' := [.int x39, .ref (ad b40), .ref (ad a)]) (by rw [va_some ho40]) ?_
                  obtain ⟨hvc, hF⟩ := chk_some hF
                  refine va_iald hx hb hK hP b40 1 (wld_i ct ad G y38.1 hc40 hk40) rfl hvc dX6_chooseWeights_351 ?_
                  obtain ⟨x41, ex41, hF⟩ := ltt_some hF
                  refine lv_topi (fun zx41 ezx41 => ?_)
                  obtain rfl : x41 = zx41 := ex41.trans ezx41.symm
                  refine va_put (D := D) (ci := 6) (v := .int x41) (ty := .int) (C := RX6) (T := TX6) (N := 14) hx hb hts (mus hf_X6) tyX6 tyX6_ok nmX6 hown hK hP hD hS a (wld_o ct ad G y38.1 hc hk (by decide)) rfl 11 (by decide) (hts (.fieldLink RX6 158 "VideoSuite$Samples" "offset" "I") (mu mw_547)) (fun _ h9 => h9) rfl (by decide +kernel) rfl rfl (Nat.le_of_ble_eq_true rfl) dX6_chooseWeights_352 (fun H locs hP hD hS => ?_)
                  obtain ⟨M42, eM42, hF⟩ := ltt_some hF
                  rw [set_oI ct ad G y38.1 hc hk (by decide) (by rfl), ← eM42] at hP hD
                  obtain rfl := Option.some.inj hF
                  exact J20 _ _ _ hP hD hS (lv_sub hl [0, 1, 2, 3, 4, 5, 6, 7, 8] rfl)
              clear hF
              have hF := hy17
              clear hy17
              refine lv_if_ne (tgt := 310) hx hb dX6_chooseWeights_302 (by decide) (fun c43 => ?_) (fun c43 => ?_)
              · rw [if_neg c43] at hF
                refine lv_bipush (v := (23 : Int32)) hx hb dX6_chooseWeights_310 (by decide) ?_
                obtain rfl := Option.some.inj hF
                exact J17 _ _ _ hP hD hS (lv_sub hl [0, 1, 2, 3, 4, 5, 6, 7, 8] rfl)
              · rw [if_pos c43] at hF
                refine lv_bipush (v := (22 : Int32)) hx hb dX6_chooseWeights_305 (by decide) ?_
                refine lv_goto (tgt := 312) hx hb dX6_chooseWeights_307 (by decide) ?_
                obtain rfl := Option.some.inj hF
                exact J17 _ _ _ hP hD hS (lv_sub hl [0, 1, 2, 3, 4, 5, 6, 7, 8] rfl)
            · rw [if_pos c16] at hF
              refine lv_iload hx hb dX6_chooseWeights_293 (lv_at hl 0 rfl) ?_
              obtain rfl := Option.some.inj hF
              exact W.iret (v := y11) hx hb hr (fun t ht hW => ⟨⟨_, (), rfl, rfl, ⟨by rw [ht]; exact hP, va_K.moved hW.alike hK, hD⟩⟩, hS.F ht⟩) hS.2.2 dX6_chooseWeights_295
          · rw [if_neg c13] at hF
            refine lv_aloadq_n hx hb dX6_chooseWeights_270 rfl (lv_at hl 7 rfl) ?_
            refine W_st (st' := [.ref (ad b2)]) (by rw [va_some ho2]) ?_
            refine va_get (D := D) (ci := 9) (v := va_re ad (M.2 b2 2)) (C := RX9) (T := TX9) (N := 20) hx hb hts (mus hf_X9) hown hK hP b2 (wld_o ct ad G M hc2 hk2 (by decide)) rfl 2 (by decide) (hts (.fieldLink RX6 137 "VideoSuite$Work" "par" "[I") (mu mw_433)) (fun _ h9 => h9) rfl dX6_chooseWeights_271 ?_
            refine lv_bipush (v := (6 : Int32)) hx hb dX6_chooseWeights_274 (by decide) ?_
            obtain ⟨b44, ho44, hc44, hk44, hF⟩ := dr_some hF
            refine W_st (st' := [.int (6 : Int32), .ref (ad b44)]) (by rw [va_some ho44]) ?_
            obtain ⟨hvc, hF⟩ := chk_some hF
            refine va_iald hx hb hK hP b44 1 (wld_i ct ad G M hc44 hk44) rfl hvc dX6_chooseWeights_276 ?_
            obtain ⟨x45, ex45, hF⟩ := ltt_some hF
            refine lv_topi (fun zx45 ezx45 => ?_)
            obtain rfl : x45 = zx45 := ex45.trans ezx45.symm
            refine lv_iconst (v := (1 : Int32)) hx hb dX6_chooseWeights_277 (by decide) ?_
            refine lv_icmp_eq (tgt := 296) hx hb dX6_chooseWeights_278 (by decide) (fun c46 => ?_) (fun c46 => ?_)
            · rw [if_pos c46] at hF
              refine lv_aload_n hx hb dX6_chooseWeights_296 rfl (lv_at hl 6 rfl) ?_
              refine lv_aloadq_n hx hb dX6_chooseWeights_297 rfl (lv_at hl 5 rfl) ?_
              refine W_st (st' := [.ref (ad b7), .ref (ad a)]) (by rw [va_some ho7]) ?_
              refine va_get (D := D) (ci := 3) (v := va_re ad (M.2 b7 0)) (C := RX3) (T := TX3) (N := 4) hx hb hts (mus hf_X3) hown hK hP b7 (wld_o ct ad G M hc7 hk7 (by decide)) rfl 0 (by decide) (hts (.fieldLink RX6 132 "VideoSuite$Header" "v" "[I") (mu mw_619)) (fun _ h9 => h9) rfl dX6_chooseWeights_298 ?_
              refine lv_iload_n hx hb dX6_chooseWeights_301 rfl (lv_at hl 8 rfl) ?_
              obtain ⟨y47, hy47, hF⟩ := bnd_some hF
              have J47 : ∀ (H : Heap) (locs : List Loc) (ls : Array Slot), va_P D classes (wld ct ad G M) H → va_D A (wld ct ad G M) → va_S A s.heap H locs → lv_has ls 14 [(8, .int y11), (7, .int y10), (6, .int y6), (5, .int x5), (4, .int x4), (3, va_re ad (M.2 b2 1)), (0, .ref (ad a)), (1, va_re ad p0), (2, .int p1)] → W p l e (headSpec wuX6_chooseWeights ({ frames := 2, cells := 0, slots := 0, locals := 44 })).room s m ([.ref (ad a), va_re ad p0, .int p1] : List Value).toArray below meth c H locs 0 0 (MQ below (va_Qi (fun (q : Int32) (_ : Unit) => q = y.2) (fun _ t => kE D ct ad G A y.1 t) A) ([.ref (ad a), va_re ad p0, .int p1] : List Value).toArray s 0 0 A) (F0 m 312 ls [.int y47, va_re ad (M.2 b7 0), .ref (ad a)]) := by
                intro H locs ls hP hD hS hl
                refine W_st (st' := [.int y47, .ref (ad b8), .ref (ad a)]) (by rw [va_some ho8]) ?_
                obtain ⟨hvc, hF⟩ := chk_some hF
                refine va_iald hx hb hK hP b8 1 (wld_i ct ad G M hc8 hk8) rfl hvc dX6_chooseWeights_312 ?_
                obtain ⟨x48, ex48, hF⟩ := ltt_some hF
                refine lv_topi (fun zx48 ezx48 => ?_)
                obtain rfl : x48 = zx48 := ex48.trans ezx48.symm
                refine va_put (D := D) (ci := 6) (v := .int x48) (ty := .int) (C := RX6) (T := TX6) (N := 14) hx hb hts (mus hf_X6) tyX6 tyX6_ok nmX6 hown hK hP hD hS a (wld_o ct ad G M hc hk (by decide)) rfl 13 (by decide) (hts (.fieldLink RX6 164 "VideoSuite$Samples" "shift" "I") (mu mw_549)) (fun _ h9 => h9) rfl (by decide +kernel) rfl rfl (Nat.le_of_ble_eq_true rfl) dX6_chooseWeights_313 (fun H locs hP hD hS => ?_)
                obtain ⟨M49, eM49, hF⟩ := ltt_some hF
                rw [set_oI ct ad G M hc hk (by decide) (by rfl), ← eM49] at hP hD
                refine lv_iload hx hb dX6_chooseWeights_316 (lv_at hl 4 rfl) ?_
                obtain ⟨y50, hy50, hF⟩ := bnd_some hF
                have J50 : ∀ (H : Heap) (locs : List Loc) (ls : Array Slot), va_P D classes (wld ct ad G y50) H → va_D A (wld ct ad G y50) → va_S A s.heap H locs → lv_has ls 14 [(8, .int y11), (7, .int y10), (6, .int y6), (5, .int x5), (4, .int x4), (3, va_re ad (M.2 b2 1)), (0, .ref (ad a)), (1, va_re ad p0), (2, .int p1)] → W p l e (headSpec wuX6_chooseWeights ({ frames := 2, cells := 0, slots := 0, locals := 44 })).room s m ([.ref (ad a), va_re ad p0, .int p1] : List Value).toArray below meth c H locs 0 0 (MQ below (va_Qi (fun (q : Int32) (_ : Unit) => q = y.2) (fun _ t => kE D ct ad G A y.1 t) A) ([.ref (ad a), va_re ad p0, .int p1] : List Value).toArray s 0 0 A) (F0 m 355 ls []) := by
                  intro H locs ls hP hD hS hl
                  refine lv_iload hx hb dX6_chooseWeights_355 (lv_at hl 3 rfl) ?_
                  obtain ⟨y51, hy51, hF⟩ := bnd_some hF
                  have J51 : ∀ (H : Heap) (locs : List Loc) (ls : Array Slot), va_P D classes (wld ct ad G y51) H → va_D A (wld ct ad G y51) → va_S A s.heap H locs → lv_has ls 14 [(8, .int y11), (7, .int y10), (6, .int y6), (5, .int x5), (4, .int x4), (3, va_re ad (M.2 b2 1)), (0, .ref (ad a)), (1, va_re ad p0), (2, .int p1)] → W p l e (headSpec wuX6_chooseWeights ({ frames := 2, cells := 0, slots := 0, locals := 44 })).room s m ([.ref (ad a), va_re ad p0, .int p1] : List Value).toArray below meth c H locs 0 0 (MQ below (va_Qi (fun (q : Int32) (_ : Unit) => q = y.2) (fun _ t => kE D ct ad G A y.1 t) A) ([.ref (ad a), va_re ad p0, .int p1] : List Value).toArray s 0 0 A) (F0 m 394 ls []) := by
                    intro H locs ls hP hD hS hl
                    refine lv_iload hx hb dX6_chooseWeights_394 (lv_at hl 0 rfl) ?_
                    refine lv_iconst (v := (3 : Int32)) hx hb dX6_chooseWeights_396 (by decide) ?_
                    refine lv_iadd hx hb dX6_chooseWeights_397 ?_
                    obtain ⟨x52, ex52, hF⟩ := ltt_some hF
                    refine lv_topi (fun zx52 ezx52 => ?_)
                    obtain rfl : x52 = zx52 := ex52.trans ezx52.symm
                    obtain rfl := Option.some.inj hF
                    exact W.iret (v := x52) hx hb hr (fun t ht hW => ⟨⟨_, (), rfl, rfl, ⟨by rw [ht]; exact hP, va_K.moved hW.alike hK, hD⟩⟩, hS.F ht⟩) hS.2.2 dX6_chooseWeights_398
                  clear hF
                  have hF := hy51
                  clear hy51
                  refine lv_if_lt (tgt := 394) hx hb dX6_chooseWeights_357 (by decide) (fun c53 => ?_) (fun c53 => ?_)
                  · rw [if_pos c53] at hF
                    obtain rfl := Option.some.inj hF
                    exact J51 _ _ _ hP hD hS (lv_sub hl [0, 1, 2, 3, 4, 5, 6, 7, 8] rfl)
                  · rw [if_neg c53] at hF
                    refine lv_aload_n hx hb dX6_chooseWeights_360 rfl (lv_at hl 6 rfl) ?_
                    refine lv_aloadq_n hx hb dX6_chooseWeights_361 rfl (lv_at hl 5 rfl) ?_
                    refine W_st (st' := [.ref (ad b7), .ref (ad a)]) (by rw [va_some ho7]) ?_
                    refine va_get (D := D) (ci := 3) (v := va_re ad (y50.2 b7 3)) (C := RX3) (T := TX3) (N := 4) hx hb hts (mus hf_X3) hown hK hP b7 (wld_o ct ad G y50 hc7 hk7 (by decide)) rfl 3 (by decide) (hts (.fieldLink RX6 167 "VideoSuite$Header" "weight" "[I") (mu mw_628)) (fun _ h9 => h9) rfl dX6_chooseWeights_362 ?_
                    refine lv_iconst (v := (1 : Int32)) hx hb dX6_chooseWeights_365 (by decide) ?_
                    refine lv_iload hx hb dX6_chooseWeights_366 (lv_at hl 3 rfl) ?_
                    refine lv_iload_n hx hb dX6_chooseWeights_368 rfl (lv_at hl 8 rfl) ?_
                    obtain ⟨y54, hy54, hF⟩ := bnd_some hF
                    have hf9 := wA_in hD hA9 hS
                    refine va_calli (va_runS (As := [.int (1 : Int32), .int x5, .int p1]) (rest := [va_re ad (y50.2 b7 3), .ref (ad a)]) ⟨hx, hb, hml, hown, hts⟩ (kX3_weightAt l D ct ad Z G y50 H.size ((1 : Int32)) x5 p1 y54 hy54) (va_cwS 3 hts gX6_chooseWeights_X3_weightAt rfl rfl rfl (by decide +kernel) ⟨Nat.le_of_ble_eq_true rfl, Nat.le_of_ble_eq_true rfl⟩) ⟨fun a U g mk q => by obtain ⟨q0, q1, qP, qK, qD, qZ, qN⟩ := q; exact ⟨q0, q1, qP, va_K.moved (u := U) (U := U.calling g mk a) (Vm.Alike.refl U.vm) qK, qD, sF.moved (u := U) (U := U.calling g mk a) (Vm.Alike.refl U.vm) qZ, nF.same rfl qN⟩, fun U hU hW => ⟨rfl, by rw [hU], by rw [hU]; exact hP, va_K.moved hW.alike hK, hD.weaken (fun _ _ _ _ => trivial), by rw [hU]; exact ((hZ.kept hS.2.1).narrow hf9).moved hW.alike, hN.warm hW⟩⟩ rfl rfl hl.1 rfl (lv_room (by simp only [List.map, va_re_cat]; exact Nat.le_of_ble_eq_true rfl)) dX6_chooseWeights_369 ⟨(Nat.zero_le _), (Nat.zero_le _)⟩) hS (fun q _ h => hf9 q h) hf9 (fun r u t H locs ht hvm hw hB hz1 hk1 hS => ?_)
                    obtain ⟨hP, hK9, hD9⟩ := hB
                    rw [ht] at hP
                    try dsimp only at hw
                    subst hw
                    have hD := hD9.weaken (fun _ q _ h => hf9 q.1 h)
                    obtain ⟨b55, ho55, hc55, hk55, hF⟩ := dr_some hF
                    refine W_st (st' := [.int y54.2, .ref (ad b55), .ref (ad a)]) (by rw [va_some ho55]) ?_
                    obtain ⟨hvc, hF⟩ := chk_some hF
                    refine va_iald hx hb hK hP b55 1 (wld_i ct ad G y54.1 hc55 hk55) rfl hvc dX6_chooseWeights_372 ?_
                    obtain ⟨x56, ex56, hF⟩ := ltt_some hF
                    refine lv_topi (fun zx56 ezx56 => ?_)
                    obtain rfl : x56 = zx56 := ex56.trans ezx56.symm
                    refine va_put (D := D) (ci := 6) (v := .int x56) (ty := .int) (C := RX6) (T := TX6) (N := 14) hx hb hts (mus hf_X6) tyX6 tyX6_ok nmX6 hown hK hP hD hS a (wld_o ct ad G y54.1 hc hk (by decide)) rfl 10 (by decide) (hts (.fieldLink RX6 152 "VideoSuite$Samples" "otherWeight" "I") (mu mw_546)) (fun _ h9 => h9) rfl (by decide +kernel) rfl rfl (Nat.le_of_ble_eq_true rfl) dX6_chooseWeights_373 (fun H locs hP hD hS => ?_)
                    obtain ⟨M57, eM57, hF⟩ := ltt_some hF
                    rw [set_oI ct ad G y54.1 hc hk (by decide) (by rfl), ← eM57] at hP hD
                    refine lv_aload_n hx hb dX6_chooseWeights_376 rfl (lv_at hl 6 rfl) ?_
                    refine lv_aloadq_n hx hb dX6_chooseWeights_377 rfl (lv_at hl 5 rfl) ?_
                    refine W_st (st' := [.ref (ad b7), .ref (ad a)]) (by rw [va_some ho7]) ?_
                    refine va_get (D := D) (ci := 3) (v := va_re ad (M57.2 b7 3)) (C := RX3) (T := TX3) (N := 4) hx hb hts (mus hf_X3) hown hK hP b7 (wld_o ct ad G M57 hc7 hk7 (by decide)) rfl 3 (by decide) (hts (.fieldLink RX6 167 "VideoSuite$Header" "weight" "[I") (mu mw_628)) (fun _ h9 => h9) rfl dX6_chooseWeights_378 ?_
                    refine lv_iconst (v := (1 : Int32)) hx hb dX6_chooseWeights_381 (by decide) ?_
                    refine lv_iload hx hb dX6_chooseWeights_382 (lv_at hl 3 rfl) ?_
                    refine lv_iload_n hx hb dX6_chooseWeights_384 rfl (lv_at hl 8 rfl) ?_
                    obtain ⟨y58, hy58, hF⟩ := bnd_some hF
                    have hf9 := wA_in hD hA9 hS
                    refine va_calli (va_runS (As := [.int (1 : Int32), .int x5, .int p1]) (rest := [va_re ad (M57.2 b7 3), .ref (ad a)]) ⟨hx, hb, hml, hown, hts⟩ (kX3_weightAt l D ct ad Z G M57 H.size ((1 : Int32)) x5 p1 y58 hy58) (va_cwS 3 hts gX6_chooseWeights_X3_weightAt rfl rfl rfl (by decide +kernel) ⟨Nat.le_of_ble_eq_true rfl, Nat.le_of_ble_eq_true rfl⟩) ⟨fun a U g mk q => by obtain ⟨q0, q1, qP, qK, qD, qZ, qN⟩ := q; exact ⟨q0, q1, qP, va_K.moved (u := U) (U := U.calling g mk a) (Vm.Alike.refl U.vm) qK, qD, sF.moved (u := U) (U := U.calling g mk a) (Vm.Alike.refl U.vm) qZ, nF.same rfl qN⟩, fun U hU hW => ⟨rfl, by rw [hU], by rw [hU]; exact hP, va_K.moved hW.alike hK, hD.weaken (fun _ _ _ _ => trivial), by rw [hU]; exact ((hZ.kept hS.2.1).narrow hf9).moved hW.alike, hN.warm hW⟩⟩ rfl rfl hl.1 rfl (lv_room (by simp only [List.map, va_re_cat]; exact Nat.le_of_ble_eq_true rfl)) dX6_chooseWeights_385 ⟨(Nat.zero_le _), (Nat.zero_le _)⟩) hS (fun q _ h => hf9 q h) hf9 (fun r u t H locs ht hvm hw hB hz1 hk1 hS => ?_)
                    obtain ⟨hP, hK9, hD9⟩ := hB
                    rw [ht] at hP
                    try dsimp only at hw
                    subst hw
                    have hD := hD9.weaken (fun _ q _ h => hf9 q.1 h)
                    refine lv_iconst (v := (1 : Int32)) hx hb dX6_chooseWeights_388 (by decide) ?_
                    refine lv_iadd hx hb dX6_chooseWeights_389 ?_
                    obtain ⟨x59, ex59, hF⟩ := ltt_some hF
                    refine lv_topi (fun zx59 ezx59 => ?_)
                    obtain rfl : x59 = zx59 := ex59.trans ezx59.symm
                    obtain ⟨b60, ho60, hc60, hk60, hF⟩ := dr_some hF
                    refine W_st (st' := [.int x59, .ref (ad b60), .ref (ad a)]) (by rw [va_some ho60]) ?_
                    obtain ⟨hvc, hF⟩ := chk_some hF
                    refine va_iald hx hb hK hP b60 1 (wld_i ct ad G y58.1 hc60 hk60) rfl hvc dX6_chooseWeights_390 ?_
                    obtain ⟨x61, ex61, hF⟩ := ltt_some hF
                    refine lv_topi (fun zx61 ezx61 => ?_)
                    obtain rfl : x61 = zx61 := ex61.trans ezx61.symm
                    refine va_put (D := D) (ci := 6) (v := .int x61) (ty := .int) (C := RX6) (T := TX6) (N := 14) hx hb hts (mus hf_X6) tyX6 tyX6_ok nmX6 hown hK hP hD hS a (wld_o ct ad G y58.1 hc hk (by decide)) rfl 12 (by decide) (hts (.fieldLink RX6 161 "VideoSuite$Samples" "otherOffset" "I") (mu mw_548)) (fun _ h9 => h9) rfl (by decide +kernel) rfl rfl (Nat.le_of_ble_eq_true rfl) dX6_chooseWeights_391 (fun H locs hP hD hS => ?_)
                    obtain ⟨M62, eM62, hF⟩ := ltt_some hF
                    rw [set_oI ct ad G y58.1 hc hk (by decide) (by rfl), ← eM62] at hP hD
                    obtain rfl := Option.some.inj hF
                    exact J51 _ _ _ hP hD hS (lv_sub hl [0, 1, 2, 3, 4, 5, 6, 7, 8] rfl)
                clear hF
                have hF := hy50
                clear hy50
                refine lv_if_lt (tgt := 355) hx hb dX6_chooseWeights_318 (by decide) (fun c63 => ?_) (fun c63 => ?_)
                · rw [if_pos c63] at hF
                  obtain rfl := Option.some.inj hF
                  exact J50 _ _ _ hP hD hS (lv_sub hl [0, 1, 2, 3, 4, 5, 6, 7, 8] rfl)
                · rw [if_neg c63] at hF
                  refine lv_aload_n hx hb dX6_chooseWeights_321 rfl (lv_at hl 6 rfl) ?_
                  refine lv_aloadq_n hx hb dX6_chooseWeights_322 rfl (lv_at hl 5 rfl) ?_
                  refine W_st (st' := [.ref (ad b7), .ref (ad a)]) (by rw [va_some ho7]) ?_
                  refine va_get (D := D) (ci := 3) (v := va_re ad (M49.2 b7 3)) (C := RX3) (T := TX3) (N := 4) hx hb hts (mus hf_X3) hown hK hP b7 (wld_o ct ad G M49 hc7 hk7 (by decide)) rfl 3 (by decide) (hts (.fieldLink RX6 167 "VideoSuite$Header" "weight" "[I") (mu mw_628)) (fun _ h9 => h9) rfl dX6_chooseWeights_323 ?_
                  refine lv_iconst (v := (0 : Int32)) hx hb dX6_chooseWeights_326 (by decide) ?_
                  refine lv_iload hx hb dX6_chooseWeights_327 (lv_at hl 4 rfl) ?_
                  refine lv_iload_n hx hb dX6_chooseWeights_329 rfl (lv_at hl 8 rfl) ?_
                  obtain ⟨y64, hy64, hF⟩ := bnd_some hF
                  have hf9 := wA_in hD hA9 hS
                  refine va_calli (va_runS (As := [.int (0 : Int32), .int x4, .int p1]) (rest := [va_re ad (M49.2 b7 3), .ref (ad a)]) ⟨hx, hb, hml, hown, hts⟩ (kX3_weightAt l D ct ad Z G M49 H.size ((0 : Int32)) x4 p1 y64 hy64) (va_cwS 3 hts gX6_chooseWeights_X3_weightAt rfl rfl rfl (by decide +kernel) ⟨Nat.le_of_ble_eq_true rfl, Nat.le_of_ble_eq_true rfl⟩) ⟨fun a U g mk q => by obtain ⟨q0, q1, qP, qK, qD, qZ, qN⟩ := q; exact ⟨q0, q1, qP, va_K.moved (u := U) (U := U.calling g mk a) (Vm.Alike.refl U.vm) qK, qD, sF.moved (u := U) (U := U.calling g mk a) (Vm.Alike.refl U.vm) qZ, nF.same rfl qN⟩, fun U hU hW => ⟨rfl, by rw [hU], by rw [hU]; exact hP, va_K.moved hW.alike hK, hD.weaken (fun _ _ _ _ => trivial), by rw [hU]; exact ((hZ.kept hS.2.1).narrow hf9).moved hW.alike, hN.warm hW⟩⟩ rfl rfl hl.1 rfl (lv_room (by simp only [List.map, va_re_cat]; exact Nat.le_of_ble_eq_true rfl)) dX6_chooseWeights_330 ⟨(Nat.zero_le _), (Nat.zero_le _)⟩) hS (fun q _ h => hf9 q h) hf9 (fun r u t H locs ht hvm hw hB hz1 hk1 hS => ?_)
                  obtain ⟨hP, hK9, hD9⟩ := hB
                  rw [ht] at hP
                  try dsimp only at hw
                  subst hw
                  have hD := hD9.weaken (fun _ q _ h => hf9 q.1 h)
                  obtain ⟨b65, ho65, hc65, hk65, hF⟩ := dr_some hF
                  refine W_st (st' := [.int y64.2, .ref (ad b65), .ref (ad a)]) (by rw [va_some ho65]) ?_
                  obtain ⟨hvc, hF⟩ := chk_some hF
                  refine va_iald hx hb hK hP b65 1 (wld_i ct ad G y64.1 hc65 hk65) rfl hvc dX6_chooseWeights_333 ?_
                  obtain ⟨x66, ex66, hF⟩ := ltt_some hF
                  refine lv_topi (fun zx66 ezx66 => ?_)
                  obtain rfl : x66 = zx66 := ex66.trans ezx66.symm
                  refine va_put (D := D) (ci := 6) (v := .int x66) (ty := .int) (C := RX6) (T := TX6) (N := 14) hx hb hts (mus hf_X6) tyX6 tyX6_ok nmX6 hown hK hP hD hS a (wld_o ct ad G y64.1 hc hk (by decide)) rfl 9 (by decide) (hts (.fieldLink RX6 155 "VideoSuite$Samples" "weight" "I") (mu mw_545)) (fun _ h9 => h9) rfl (by decide +kernel) rfl rfl (Nat.le_of_ble_eq_true rfl) dX6_chooseWeights_334 (fun H locs hP hD hS => ?_)
                  obtain ⟨M67, eM67, hF⟩ := ltt_some hF
                  rw [set_oI ct ad G y64.1 hc hk (by decide) (by rfl), ← eM67] at hP hD
                  refine lv_aload_n hx hb dX6_chooseWeights_337 rfl (lv_at hl 6 rfl) ?_
                  refine lv_aloadq_n hx hb dX6_chooseWeights_338 rfl (lv_at hl 5 rfl) ?_
                  refine W_st (st' := [.ref (ad b7), .ref (ad a)]) (by rw [va_some ho7]) ?_
                  refine va_get (D := D) (ci := 3) (v := va_re ad (M67.2 b7 3)) (C := RX3) (T := TX3) (N := 4) hx hb hts (mus hf_X3) hown hK hP b7 (wld_o ct ad G M67 hc7 hk7 (by decide)) rfl 3 (by decide) (hts (.fieldLink RX6 167 "VideoSuite$Header" "weight" "[I") (mu mw_628)) (fun _ h9 => h9) rfl dX6_chooseWeights_339 ?_
                  refine lv_iconst (v := (0 : Int32)) hx hb dX6_chooseWeights_342 (by decide) ?_
                  refine lv_iload hx hb dX6_chooseWeights_343 (lv_at hl 4 rfl) ?_
                  refine lv_iload_n hx hb dX6_chooseWeights_345 rfl (lv_at hl 8 rfl) ?_
                  obtain ⟨y68, hy68, hF⟩ := bnd_some hF
                  have hf9 := wA_in hD hA9 hS
                  refine va_calli (va_runS (As := [.int (0 : Int32), .int x4, .int p1]) (rest := [va_re ad (M67.2 b7 3), .ref (ad a)]) ⟨hx, hb, hml, hown, hts⟩ (kX3_weightAt l D ct ad Z G M67 H.size ((0 : Int32)) x4 p1 y68 hy68) (va_cwS 3 hts gX6_chooseWeights_X3_weightAt rfl rfl rfl (by decide +kernel) ⟨Nat.le_of_ble_eq_true rfl, Nat.le_of_ble_eq_true rfl⟩) ⟨fun a U g mk q => by obtain ⟨q0, q1, qP, qK, qD, qZ, qN⟩ := q; exact ⟨q0, q1, qP, va_K.moved (u := U) (U := U.calling g mk a) (Vm.Alike.refl U.vm) qK, qD, sF.moved (u := U) (U := U.calling g mk a) (Vm.Alike.refl U.vm) qZ, nF.same rfl qN⟩, fun U hU hW => ⟨rfl, by rw [hU], by rw [hU]; exact hP, va_K.moved hW.alike hK, hD.weaken (fun _ _ _ _ => trivial), by rw [hU]; exact ((hZ.kept hS.2.1).narrow hf9).moved hW.alike, hN.warm hW⟩⟩ rfl rfl hl.1 rfl (lv_room (by simp only [List.map, va_re_cat]; exact Nat.le_of_ble_eq_true rfl)) dX6_chooseWeights_346 ⟨(Nat.zero_le _), (Nat.zero_le _)⟩) hS (fun q _ h => hf9 q h) hf9 (fun r u t H locs ht hvm hw hB hz1 hk1 hS => ?_)
                  obtain ⟨hP, hK9, hD9⟩ := hB
                  rw [ht] at hP
                  try dsimp only at hw
                  subst hw
                  have hD := hD9.weaken (fun _ q _ h => hf9 q.1 h)
                  refine lv_iconst (v := (1 : Int32)) hx hb dX6_chooseWeights_349 (by decide) ?_
                  refine lv_iadd hx hb dX6_chooseWeights_350 ?_
                  obtain ⟨x69, ex69, hF⟩ := ltt_some hF
                  refine lv_topi (fun zx69 ezx69 => ?_)
                  obtain rfl : x69 = zx69 := ex69.trans ezx69.symm
                  obtain ⟨b70, ho70, hc70, hk70, hF⟩ := dr_some hF
                  refine W_st (st' := [.int x69, .ref (ad b70), .ref (ad a)]) (by rw [va_some ho70]) ?_
                  obtain ⟨hvc, hF⟩ := chk_some hF
                  refine va_iald hx hb hK hP b70 1 (wld_i ct ad G y68.1 hc70 hk70) rfl hvc dX6_chooseWeights_351 ?_
                  obtain ⟨x71, ex71, hF⟩ := ltt_some hF
                  refine lv_topi (fun zx71 ezx71 => ?_)
                  obtain rfl : x71 = zx71 := ex71.trans ezx71.symm
                  refine va_put (D := D) (ci := 6) (v := .int x71) (ty := .int) (C := RX6) (T := TX6) (N := 14) hx hb hts (mus hf_X6) tyX6 tyX6_ok nmX6 hown hK hP hD hS a (wld_o ct ad G y68.1 hc hk (by decide)) rfl 11 (by decide) (hts (.fieldLink RX6 158 "VideoSuite$Samples" "offset" "I") (mu mw_547)) (fun _ h9 => h9) rfl (by decide +kernel) rfl rfl (Nat.le_of_ble_eq_true rfl) dX6_chooseWeights_352 (fun H locs hP hD hS => ?_)
                  obtain ⟨M72, eM72, hF⟩ := ltt_some hF
                  rw [set_oI ct ad G y68.1 hc hk (by decide) (by rfl), ← eM72] at hP hD
                  obtain rfl := Option.some.inj hF
                  exact J50 _ _ _ hP hD hS (lv_sub hl [0, 1, 2, 3, 4, 5, 6, 7, 8] rfl)
              clear hF
              have hF := hy47
              clear hy47
              refine lv_if_ne (tgt := 310) hx hb dX6_chooseWeights_302 (by decide) (fun c73 => ?_) (fun c73 => ?_)
              · rw [if_neg c73] at hF
                refine lv_bipush (v := (23 : Int32)) hx hb dX6_chooseWeights_310 (by decide) ?_
                obtain rfl := Option.some.inj hF
                exact J47 _ _ _ hP hD hS (lv_sub hl [0, 1, 2, 3, 4, 5, 6, 7, 8] rfl)
              · rw [if_pos c73] at hF
                refine lv_bipush (v := (22 : Int32)) hx hb dX6_chooseWeights_305 (by decide) ?_
                refine lv_goto (tgt := 312) hx hb dX6_chooseWeights_307 (by decide) ?_
                obtain rfl := Option.some.inj hF
                exact J47 _ _ _ hP hD hS (lv_sub hl [0, 1, 2, 3, 4, 5, 6, 7, 8] rfl)
            · rw [if_neg c46] at hF
              refine lv_goto (tgt := 293) hx hb dX6_chooseWeights_281 (by decide) ?_
              refine lv_iload hx hb dX6_chooseWeights_293 (lv_at hl 0 rfl) ?_
              obtain rfl := Option.some.inj hF
              exact W.iret (v := y11) hx hb hr (fun t ht hW => ⟨⟨_, (), rfl, rfl, ⟨by rw [ht]; exact hP, va_K.moved hW.alike hK, hD⟩⟩, hS.F ht⟩) hS.2.2 dX6_chooseWeights_295
        · rw [if_neg c12] at hF
          refine lv_aloadq_n hx hb dX6_chooseWeights_81 rfl (lv_at hl 7 rfl) ?_
          refine W_st (st' := [.ref (ad b2)]) (by rw [va_some ho2]) ?_
          refine va_get (D := D) (ci := 9) (v := va_re ad (M.2 b2 2)) (C := RX9) (T := TX9) (N := 20) hx hb hts (mus hf_X9) hown hK hP b2 (wld_o ct ad G M hc2 hk2 (by decide)) rfl 2 (by decide) (hts (.fieldLink RX6 137 "VideoSuite$Work" "par" "[I") (mu mw_433)) (fun _ h9 => h9) rfl dX6_chooseWeights_82 ?_
          refine lv_bipush (v := (6 : Int32)) hx hb dX6_chooseWeights_85 (by decide) ?_
          obtain ⟨b74, ho74, hc74, hk74, hF⟩ := dr_some hF
          refine W_st (st' := [.int (6 : Int32), .ref (ad b74)]) (by rw [va_some ho74]) ?_
          obtain ⟨hvc, hF⟩ := chk_some hF
          refine va_iald hx hb hK hP b74 1 (wld_i ct ad G M hc74 hk74) rfl hvc dX6_chooseWeights_87 ?_
          obtain ⟨x75, ex75, hF⟩ := ltt_some hF
          refine lv_topi (fun zx75 ezx75 => ?_)
          obtain rfl : x75 = zx75 := ex75.trans ezx75.symm
          refine lv_iconst (v := (2 : Int32)) hx hb dX6_chooseWeights_88 (by decide) ?_
          refine lv_icmp_ne (tgt := 265) hx hb dX6_chooseWeights_89 (by decide) (fun c76 => ?_) (fun c76 => ?_)
          · rw [if_neg c76] at hF
            refine lv_iload hx hb dX6_chooseWeights_265 (lv_at hl 1 rfl) ?_
            refine lv_if_eq (tgt := 284) hx hb dX6_chooseWeights_267 (by decide) (fun c77 => ?_) (fun c77 => ?_)
            · rw [if_pos c77] at hF
              refine lv_aloadq_n hx hb dX6_chooseWeights_284 rfl (lv_at hl 7 rfl) ?_
              refine W_st (st' := [.ref (ad b2)]) (by rw [va_some ho2]) ?_
              refine va_get (D := D) (ci := 9) (v := va_re ad (M.2 b2 2)) (C := RX9) (T := TX9) (N := 20) hx hb hts (mus hf_X9) hown hK hP b2 (wld_o ct ad G M hc2 hk2 (by decide)) rfl 2 (by decide) (hts (.fieldLink RX6 137 "VideoSuite$Work" "par" "[I") (mu mw_433)) (fun _ h9 => h9) rfl dX6_chooseWeights_285 ?_
              refine lv_iconst (v := (5 : Int32)) hx hb dX6_chooseWeights_288 (by decide) ?_
              refine W_st (st' := [.int (5 : Int32), .ref (ad b74)]) (by rw [va_some ho74]) ?_
              obtain ⟨hvc, hF⟩ := chk_some hF
              refine va_iald hx hb hK hP b74 1 (wld_i ct ad G M hc74 hk74) rfl hvc dX6_chooseWeights_289 ?_
              obtain ⟨x78, ex78, hF⟩ := ltt_some hF
              refine lv_topi (fun zx78 ezx78 => ?_)
              obtain rfl : x78 = zx78 := ex78.trans ezx78.symm
              refine lv_if_ne (tgt := 296) hx hb dX6_chooseWeights_290 (by decide) (fun c79 => ?_) (fun c79 => ?_)
              · rw [if_neg c79] at hF
                refine lv_aload_n hx hb dX6_chooseWeights_296 rfl (lv_at hl 6 rfl) ?_
                refine lv_aloadq_n hx hb dX6_chooseWeights_297 rfl (lv_at hl 5 rfl) ?_
                refine W_st (st' := [.ref (ad b7), .ref (ad a)]) (by rw [va_some ho7]) ?_
                refine va_get (D := D) (ci := 3) (v := va_re ad (M.2 b7 0)) (C := RX3) (T := TX3) (N := 4) hx hb hts (mus hf_X3) hown hK hP b7 (wld_o ct ad G M hc7 hk7 (by decide)) rfl 0 (by decide) (hts (.fieldLink RX6 132 "VideoSuite$Header" "v" "[I") (mu mw_619)) (fun _ h9 => h9) rfl dX6_chooseWeights_298 ?_
                refine lv_iload_n hx hb dX6_chooseWeights_301 rfl (lv_at hl 8 rfl) ?_
                obtain ⟨y80, hy80, hF⟩ := bnd_some hF
                have J80 : ∀ (H : Heap) (locs : List Loc) (ls : Array Slot), va_P D classes (wld ct ad G M) H → va_D A (wld ct ad G M) → va_S A s.heap H locs → lv_has ls 14 [(8, .int y11), (7, .int y10), (6, .int y6), (5, .int x5), (4, .int x4), (3, va_re ad (M.2 b2 1)), (0, .ref (ad a)), (1, va_re ad p0), (2, .int p1)] → W p l e (headSpec wuX6_chooseWeights ({ frames := 2, cells := 0, slots := 0, locals := 44 })).room s m ([.ref (ad a), va_re ad p0, .int p1] : List Value).toArray below meth c H locs 0 0 (MQ below (va_Qi (fun (q : Int32) (_ : Unit) => q = y.2) (fun _ t => kE D ct ad G A y.1 t) A) ([.ref (ad a), va_re ad p0, .int p1] : List Value).toArray s 0 0 A) (F0 m 312 ls [.int y80, va_re ad (M.2 b7 0), .ref (ad a)]) := by
                  intro H locs ls hP hD hS hl
                  refine W_st (st' := [.int y80, .ref (ad b8), .ref (ad a)]) (by rw [va_some ho8]) ?_
                  obtain ⟨hvc, hF⟩ := chk_some hF
                  refine va_iald hx hb hK hP b8 1 (wld_i ct ad G M hc8 hk8) rfl hvc dX6_chooseWeights_312 ?_
                  obtain ⟨x81, ex81, hF⟩ := ltt_some hF
                  refine lv_topi (fun zx81 ezx81 => ?_)
                  obtain rfl : x81 = zx81 := ex81.trans ezx81.symm
                  refine va_put (D := D) (ci := 6) (v := .int x81) (ty := .int) (C := RX6) (T := TX6) (N := 14) hx hb hts (mus hf_X6) tyX6 tyX6_ok nmX6 hown hK hP hD hS a (wld_o ct ad G M hc hk (by decide)) rfl 13 (by decide) (hts (.fieldLink RX6 164 "VideoSuite$Samples" "shift" "I") (mu mw_549)) (fun _ h9 => h9) rfl (by decide +kernel) rfl rfl (Nat.le_of_ble_eq_true rfl) dX6_chooseWeights_313 (fun H locs hP hD hS => ?_)
                  obtain ⟨M82, eM82, hF⟩ := ltt_some hF
                  rw [set_oI ct ad G M hc hk (by decide) (by rfl), ← eM82] at hP hD
                  refine lv_iload hx hb dX6_chooseWeights_316 (lv_at hl 4 rfl) ?_
                  obtain ⟨y83, hy83, hF⟩ := bnd_some hF
                  have J83 : ∀ (H : Heap) (locs : List Loc) (ls : Array Slot), va_P D classes (wld ct ad G y83) H → va_D A (wld ct ad G y83) → va_S A s.heap H locs → lv_has ls 14 [(8, .int y11), (7, .int y10), (6, .int y6), (5, .int x5), (4, .int x4), (3, va_re ad (M.2 b2 1)), (0, .ref (ad a)), (1, va_re ad p0), (2, .int p1)] → W p l e (headSpec wuX6_chooseWeights ({ frames := 2, cells := 0, slots := 0, locals := 44 })).room s m ([.ref (ad a), va_re ad p0, .int p1] : List Value).toArray below meth c H locs 0 0 (MQ below (va_Qi (fun (q : Int32) (_ : Unit) => q = y.2) (fun _ t => kE D ct ad G A y.1 t) A) ([.ref (ad a), va_re ad p0, .int p1] : List Value).toArray s 0 0 A) (F0 m 355 ls []) := by
                    intro H locs ls hP hD hS hl
                    refine lv_iload hx hb dX6_chooseWeights_355 (lv_at hl 3 rfl) ?_
                    obtain ⟨y84, hy84, hF⟩ := bnd_some hF
                    have J84 : ∀ (H : Heap) (locs : List Loc) (ls : Array Slot), va_P D classes (wld ct ad G y84) H → va_D A (wld ct ad G y84) → va_S A s.heap H locs → lv_has ls 14 [(8, .int y11), (7, .int y10), (6, .int y6), (5, .int x5), (4, .int x4), (3, va_re ad (M.2 b2 1)), (0, .ref (ad a)), (1, va_re ad p0), (2, .int p1)] → W p l e (headSpec wuX6_chooseWeights ({ frames := 2, cells := 0, slots := 0, locals := 44 })).room s m ([.ref (ad a), va_re ad p0, .int p1] : List Value).toArray below meth c H locs 0 0 (MQ below (va_Qi (fun (q : Int32) (_ : Unit) => q = y.2) (fun _ t => kE D ct ad G A y.1 t) A) ([.ref (ad a), va_re ad p0, .int p1] : List Value).toArray s 0 0 A) (F0 m 394 ls []) := by
                      intro H locs ls hP hD hS hl
                      refine lv_iload hx hb dX6_chooseWeights_394 (lv_at hl 0 rfl) ?_
                      refine lv_iconst (v := (3 : Int32)) hx hb dX6_chooseWeights_396 (by decide) ?_
                      refine lv_iadd hx hb dX6_chooseWeights_397 ?_
                      obtain ⟨x85, ex85, hF⟩ := ltt_some hF
                      refine lv_topi (fun zx85 ezx85 => ?_)
                      obtain rfl : x85 = zx85 := ex85.trans ezx85.symm
                      obtain rfl := Option.some.inj hF
                      exact W.iret (v := x85) hx hb hr (fun t ht hW => ⟨⟨_, (), rfl, rfl, ⟨by rw [ht]; exact hP, va_K.moved hW.alike hK, hD⟩⟩, hS.F ht⟩) hS.2.2 dX6_chooseWeights_398
                    clear hF
                    have hF := hy84
                    clear hy84
                    refine lv_if_lt (tgt := 394) hx hb dX6_chooseWeights_357 (by decide) (fun c86 => ?_) (fun c86 => ?_)
                    · rw [if_pos c86] at hF
                      obtain rfl := Option.some.inj hF
                      exact J84 _ _ _ hP hD hS (lv_sub hl [0, 1, 2, 3, 4, 5, 6, 7, 8] rfl)
                    · rw [if_neg c86] at hF
                      refine lv_aload_n hx hb dX6_chooseWeights_360 rfl (lv_at hl 6 rfl) ?_
                      refine lv_aloadq_n hx hb dX6_chooseWeights_361 rfl (lv_at hl 5 rfl) ?_
                      refine W_st (st' := [.ref (ad b7), .ref (ad a)]) (by rw [va_some ho7]) ?_
                      refine va_get (D := D) (ci := 3) (v := va_re ad (y83.2 b7 3)) (C := RX3) (T := TX3) (N := 4) hx hb hts (mus hf_X3) hown hK hP b7 (wld_o ct ad G y83 hc7 hk7 (by decide)) rfl 3 (by decide) (hts (.fieldLink RX6 167 "VideoSuite$Header" "weight" "[I") (mu mw_628)) (fun _ h9 => h9) rfl dX6_chooseWeights_362 ?_
                      refine lv_iconst (v := (1 : Int32)) hx hb dX6_chooseWeights_365 (by decide) ?_
                      refine lv_iload hx hb dX6_chooseWeights_366 (lv_at hl 3 rfl) ?_
                      refine lv_iload_n hx hb dX6_chooseWeights_368 rfl (lv_at hl 8 rfl) ?_
                      obtain ⟨y87, hy87, hF⟩ := bnd_some hF
                      have hf9 := wA_in hD hA9 hS
                      refine va_calli (va_runS (As := [.int (1 : Int32), .int x5, .int p1]) (rest := [va_re ad (y83.2 b7 3), .ref (ad a)]) ⟨hx, hb, hml, hown, hts⟩ (kX3_weightAt l D ct ad Z G y83 H.size ((1 : Int32)) x5 p1 y87 hy87) (va_cwS 3 hts gX6_chooseWeights_X3_weightAt rfl rfl rfl (by decide +kernel) ⟨Nat.le_of_ble_eq_true rfl, Nat.le_of_ble_eq_true rfl⟩) ⟨fun a U g mk q => by obtain ⟨q0, q1, qP, qK, qD, qZ, qN⟩ := q; exact ⟨q0, q1, qP, va_K.moved (u := U) (U := U.calling g mk a) (Vm.Alike.refl U.vm) qK, qD, sF.moved (u := U) (U := U.calling g mk a) (Vm.Alike.refl U.vm) qZ, nF.same rfl qN⟩, fun U hU hW => ⟨rfl, by rw [hU], by rw [hU]; exact hP, va_K.moved hW.alike hK, hD.weaken (fun _ _ _ _ => trivial), by rw [hU]; exact ((hZ.kept hS.2.1).narrow hf9).moved hW.alike, hN.warm hW⟩⟩ rfl rfl hl.1 rfl (lv_room (by simp only [List.map, va_re_cat]; exact Nat.le_of_ble_eq_true rfl)) dX6_chooseWeights_369 ⟨(Nat.zero_le _), (Nat.zero_le _)⟩) hS (fun q _ h => hf9 q h) hf9 (fun r u t H locs ht hvm hw hB hz1 hk1 hS => ?_)
                      obtain ⟨hP, hK9, hD9⟩ := hB
                      rw [ht] at hP
                      try dsimp only at hw
                      subst hw
                      have hD := hD9.weaken (fun _ q _ h => hf9 q.1 h)
                      obtain ⟨b88, ho88, hc88, hk88, hF⟩ := dr_some hF
                      refine W_st (st' := [.int y87.2, .ref (ad b88), .ref (ad a)]) (by rw [va_some ho88]) ?_
                      obtain ⟨hvc, hF⟩ := chk_some hF
                      refine va_iald hx hb hK hP b88 1 (wld_i ct ad G y87.1 hc88 hk88) rfl hvc dX6_chooseWeights_372 ?_
                      obtain ⟨x89, ex89, hF⟩ := ltt_some hF
                      refine lv_topi (fun zx89 ezx89 => ?_)
                      obtain rfl : x89 = zx89 := ex89.trans ezx89.symm
                      refine va_put (D := D) (ci := 6) (v := .int x89) (ty := .int) (C := RX6) (T := TX6) (N := 14) hx hb hts (mus hf_X6) tyX6 tyX6_ok nmX6 hown hK hP hD hS a (wld_o ct ad G y87.1 hc hk (by decide)) rfl 10 (by decide) (hts (.fieldLink RX6 152 "VideoSuite$Samples" "otherWeight" "I") (mu mw_546)) (fun _ h9 => h9) rfl (by decide +kernel) rfl rfl (Nat.le_of_ble_eq_true rfl) dX6_chooseWeights_373 (fun H locs hP hD hS => ?_)
                      obtain ⟨M90, eM90, hF⟩ := ltt_some hF
                      rw [set_oI ct ad G y87.1 hc hk (by decide) (by rfl), ← eM90] at hP hD
                      refine lv_aload_n hx hb dX6_chooseWeights_376 rfl (lv_at hl 6 rfl) ?_
                      refine lv_aloadq_n hx hb dX6_chooseWeights_377 rfl (lv_at hl 5 rfl) ?_
                      refine W_st (st' := [.ref (ad b7), .ref (ad a)]) (by rw [va_some ho7]) ?_
                      refine va_get (D := D) (ci := 3) (v := va_re ad (M90.2 b7 3)) (C := RX3) (T := TX3) (N := 4) hx hb hts (mus hf_X3) hown hK hP b7 (wld_o ct ad G M90 hc7 hk7 (by decide)) rfl 3 (by decide) (hts (.fieldLink RX6 167 "VideoSuite$Header" "weight" "[I") (mu mw_628)) (fun _ h9 => h9) rfl dX6_chooseWeights_378 ?_
                      refine lv_iconst (v := (1 : Int32)) hx hb dX6_chooseWeights_381 (by decide) ?_
                      refine lv_iload hx hb dX6_chooseWeights_382 (lv_at hl 3 rfl) ?_
                      refine lv_iload_n hx hb dX6_chooseWeights_384 rfl (lv_at hl 8 rfl) ?_
                      obtain ⟨y91, hy91, hF⟩ := bnd_some hF
                      have hf9 := wA_in hD hA9 hS
                      refine va_calli (va_runS (As := [.int (1 : Int32), .int x5, .int p1]) (rest := [va_re ad (M90.2 b7 3), .ref (ad a)]) ⟨hx, hb, hml, hown, hts⟩ (kX3_weightAt l D ct ad Z G M90 H.size ((1 : Int32)) x5 p1 y91 hy91) (va_cwS 3 hts gX6_chooseWeights_X3_weightAt rfl rfl rfl (by decide +kernel) ⟨Nat.le_of_ble_eq_true rfl, Nat.le_of_ble_eq_true rfl⟩) ⟨fun a U g mk q => by obtain ⟨q0, q1, qP, qK, qD, qZ, qN⟩ := q; exact ⟨q0, q1, qP, va_K.moved (u := U) (U := U.calling g mk a) (Vm.Alike.refl U.vm) qK, qD, sF.moved (u := U) (U := U.calling g mk a) (Vm.Alike.refl U.vm) qZ, nF.same rfl qN⟩, fun U hU hW => ⟨rfl, by rw [hU], by rw [hU]; exact hP, va_K.moved hW.alike hK, hD.weaken (fun _ _ _ _ => trivial), by rw [hU]; exact ((hZ.kept hS.2.1).narrow hf9).moved hW.alike, hN.warm hW⟩⟩ rfl rfl hl.1 rfl (lv_room (by simp only [List.map, va_re_cat]; exact Nat.le_of_ble_eq_true rfl)) dX6_chooseWeights_385 ⟨(Nat.zero_le _), (Nat.zero_le _)⟩) hS (fun q _ h => hf9 q h) hf9 (fun r u t H locs ht hvm hw hB hz1 hk1 hS => ?_)
                      obtain ⟨hP, hK9, hD9⟩ := hB
                      rw [ht] at hP
                      try dsimp only at hw
                      subst hw
                      have hD := hD9.weaken (fun _ q _ h => hf9 q.1 h)
                      refine lv_iconst (v := (1 : Int32)) hx hb dX6_chooseWeights_388 (by decide) ?_
                      refine lv_iadd hx hb dX6_chooseWeights_389 ?_
                      obtain ⟨x92, ex92, hF⟩ := ltt_some hF
                      refine lv_topi (fun zx92 ezx92 => ?_)
                      obtain rfl : x92 = zx92 := ex92.trans ezx92.symm
                      obtain ⟨b93, ho93, hc93, hk93, hF⟩ := dr_some hF
                      refine W_st (st' := [.int x92, .ref (ad b93), .ref (ad a)]) (by rw [va_some ho93]) ?_
                      obtain ⟨hvc, hF⟩ := chk_some hF
                      refine va_iald hx hb hK hP b93 1 (wld_i ct ad G y91.1 hc93 hk93) rfl hvc dX6_chooseWeights_390 ?_
                      obtain ⟨x94, ex94, hF⟩ := ltt_some hF
                      refine lv_topi (fun zx94 ezx94 => ?_)
                      obtain rfl : x94 = zx94 := ex94.trans ezx94.symm
                      refine va_put (D := D) (ci := 6) (v := .int x94) (ty := .int) (C := RX6) (T := TX6) (N := 14) hx hb hts (mus hf_X6) tyX6 tyX6_ok nmX6 hown hK hP hD hS a (wld_o ct ad G y91.1 hc hk (by decide)) rfl 12 (by decide) (hts (.fieldLink RX6 161 "VideoSuite$Samples" "otherOffset" "I") (mu mw_548)) (fun _ h9 => h9) rfl (by decide +kernel) rfl rfl (Nat.le_of_ble_eq_true rfl) dX6_chooseWeights_391 (fun H locs hP hD hS => ?_)
                      obtain ⟨M95, eM95, hF⟩ := ltt_some hF
                      rw [set_oI ct ad G y91.1 hc hk (by decide) (by rfl), ← eM95] at hP hD
                      obtain rfl := Option.some.inj hF
                      exact J84 _ _ _ hP hD hS (lv_sub hl [0, 1, 2, 3, 4, 5, 6, 7, 8] rfl)
                  clear hF
                  have hF := hy83
                  clear hy83
                  refine lv_if_lt (tgt := 355) hx hb dX6_chooseWeights_318 (by decide) (fun c96 => ?_) (fun c96 => ?_)
                  · rw [if_pos c96] at hF
                    obtain rfl := Option.some.inj hF
                    exact J83 _ _ _ hP hD hS (lv_sub hl [0, 1, 2, 3, 4, 5, 6, 7, 8] rfl)
                  · rw [if_neg c96] at hF
                    refine lv_aload_n hx hb dX6_chooseWeights_321 rfl (lv_at hl 6 rfl) ?_
                    refine lv_aloadq_n hx hb dX6_chooseWeights_322 rfl (lv_at hl 5 rfl) ?_
                    refine W_st (st' := [.ref (ad b7), .ref (ad a)]) (by rw [va_some ho7]) ?_
                    refine va_get (D := D) (ci := 3) (v := va_re ad (M82.2 b7 3)) (C := RX3) (T := TX3) (N := 4) hx hb hts (mus hf_X3) hown hK hP b7 (wld_o ct ad G M82 hc7 hk7 (by decide)) rfl 3 (by decide) (hts (.fieldLink RX6 167 "VideoSuite$Header" "weight" "[I") (mu mw_628)) (fun _ h9 => h9) rfl dX6_chooseWeights_323 ?_
                    refine lv_iconst (v := (0 : Int32)) hx hb dX6_chooseWeights_326 (by decide) ?_
                    refine lv_iload hx hb dX6_chooseWeights_327 (lv_at hl 4 rfl) ?_
                    refine lv_iload_n hx hb dX6_chooseWeights_329 rfl (lv_at hl 8 rfl) ?_
                    obtain ⟨y97, hy97, hF⟩ := bnd_some hF
                    have hf9 := wA_in hD hA9 hS
                    refine va_calli (va_runS (As := [.int (0 : Int32), .int x4, .int p1]) (rest := [va_re ad (M82.2 b7 3), .ref (ad a)]) ⟨hx, hb, hml, hown, hts⟩ (kX3_weightAt l D ct ad Z G M82 H.size ((0 : Int32)) x4 p1 y97 hy97) (va_cwS 3 hts gX6_chooseWeights_X3_weightAt rfl rfl rfl (by decide +kernel) ⟨Nat.le_of_ble_eq_true rfl, Nat.le_of_ble_eq_true rfl⟩) ⟨fun a U g mk q => by obtain ⟨q0, q1, qP, qK, qD, qZ, qN⟩ := q; exact ⟨q0, q1, qP, va_K.moved (u := U) (U := U.calling g mk a) (Vm.Alike.refl U.vm) qK, qD, sF.moved (u := U) (U := U.calling g mk a) (Vm.Alike.refl U.vm) qZ, nF.same rfl qN⟩, fun U hU hW => ⟨rfl, by rw [hU], by rw [hU]; exact hP, va_K.moved hW.alike hK, hD.weaken (fun _ _ _ _ => trivial), by rw [hU]; exact ((hZ.kept hS.2.1).narrow hf9).moved hW.alike, hN.warm hW⟩⟩ rfl rfl hl.1 rfl (lv_room (by simp only [List.map, va_re_cat]; exact Nat.le_of_ble_eq_true rfl)) dX6_chooseWeights_330 ⟨(Nat.zero_le _), (Nat.zero_le _)⟩) hS (fun q _ h => hf9 q h) hf9 (fun r u t H locs ht hvm hw hB hz1 hk1 hS => ?_)
                    obtain ⟨hP, hK9, hD9⟩ := hB
                    rw [ht] at hP
                    try dsimp only at hw
                    subst hw
                    have hD := hD9.weaken (fun _ q _ h => hf9 q.1 h)
                    obtain ⟨b98, ho98, hc98, hk98, hF⟩ := dr_some hF
                    refine W_st (st' := [.int y97.2, .ref (ad b98), .ref (ad a)]) (by rw [va_some ho98]) ?_
                    obtain ⟨hvc, hF⟩ := chk_some hF
                    refine va_iald hx hb hK hP b98 1 (wld_i ct ad G y97.1 hc98 hk98) rfl hvc dX6_chooseWeights_333 ?_
                    obtain ⟨x99, ex99, hF⟩ := ltt_some hF
                    refine lv_topi (fun zx99 ezx99 => ?_)
                    obtain rfl : x99 = zx99 := ex99.trans ezx99.symm
                    refine va_put (D := D) (ci := 6) (v := .int x99) (ty := .int) (C := RX6) (T := TX6) (N := 14) hx hb hts (mus hf_X6) tyX6 tyX6_ok nmX6 hown hK hP hD hS a (wld_o ct ad G y97.1 hc hk (by decide)) rfl 9 (by decide) (hts (.fieldLink RX6 155 "VideoSuite$Samples" "weight" "I") (mu mw_545)) (fun _ h9 => h9) rfl (by decide +kernel) rfl rfl (Nat.le_of_ble_eq_true rfl) dX6_chooseWeights_334 (fun H locs hP hD hS => ?_)
                    obtain ⟨M100, eM100, hF⟩ := ltt_some hF
                    rw [set_oI ct ad G y97.1 hc hk (by decide) (by rfl), ← eM100] at hP hD
                    refine lv_aload_n hx hb dX6_chooseWeights_337 rfl (lv_at hl 6 rfl) ?_
                    refine lv_aloadq_n hx hb dX6_chooseWeights_338 rfl (lv_at hl 5 rfl) ?_
                    refine W_st (st' := [.ref (ad b7), .ref (ad a)]) (by rw [va_some ho7]) ?_
                    refine va_get (D := D) (ci := 3) (v := va_re ad (M100.2 b7 3)) (C := RX3) (T := TX3) (N := 4) hx hb hts (mus hf_X3) hown hK hP b7 (wld_o ct ad G M100 hc7 hk7 (by decide)) rfl 3 (by decide) (hts (.fieldLink RX6 167 "VideoSuite$Header" "weight" "[I") (mu mw_628)) (fun _ h9 => h9) rfl dX6_chooseWeights_339 ?_
                    refine lv_iconst (v := (0 : Int32)) hx hb dX6_chooseWeights_342 (by decide) ?_
                    refine lv_iload hx hb dX6_chooseWeights_343 (lv_at hl 4 rfl) ?_
                    refine lv_iload_n hx hb dX6_chooseWeights_345 rfl (lv_at hl 8 rfl) ?_
                    obtain ⟨y101, hy101, hF⟩ := bnd_some hF
                    have hf9 := wA_in hD hA9 hS
                    refine va_calli (va_runS (As := [.int (0 : Int32), .int x4, .int p1]) (rest := [va_re ad (M100.2 b7 3), .ref (ad a)]) ⟨hx, hb, hml, hown, hts⟩ (kX3_weightAt l D ct ad Z G M100 H.size ((0 : Int32)) x4 p1 y101 hy101) (va_cwS 3 hts gX6_chooseWeights_X3_weightAt rfl rfl rfl (by decide +kernel) ⟨Nat.le_of_ble_eq_true rfl, Nat.le_of_ble_eq_true rfl⟩) ⟨fun a U g mk q => by obtain ⟨q0, q1, qP, qK, qD, qZ, qN⟩ := q; exact ⟨q0, q1, qP, va_K.moved (u := U) (U := U.calling g mk a) (Vm.Alike.refl U.vm) qK, qD, sF.moved (u := U) (U := U.calling g mk a) (Vm.Alike.refl U.vm) qZ, nF.same rfl qN⟩, fun U hU hW => ⟨rfl, by rw [hU], by rw [hU]; exact hP, va_K.moved hW.alike hK, hD.weaken (fun _ _ _ _ => trivial), by rw [hU]; exact ((hZ.kept hS.2.1).narrow hf9).moved hW.alike, hN.warm hW⟩⟩ rfl rfl hl.1 rfl (lv_room (by simp only [List.map, va_re_cat]; exact Nat.le_of_ble_eq_true rfl)) dX6_chooseWeights_346 ⟨(Nat.zero_le _), (Nat.zero_le _)⟩) hS (fun q _ h => hf9 q h) hf9 (fun r u t H locs ht hvm hw hB hz1 hk1 hS => ?_)
                    obtain ⟨hP, hK9, hD9⟩ := hB
                    rw [ht] at hP
                    try dsimp only at hw
                    subst hw
                    have hD := hD9.weaken (fun _ q _ h => hf9 q.1 h)
                    refine lv_iconst (v := (1 : Int32)) hx hb dX6_chooseWeights_349 (by decide) ?_
                    refine lv_iadd hx hb dX6_chooseWeights_350 ?_
                    obtain ⟨x102, ex102, hF⟩ := ltt_some hF
                    refine lv_topi (fun zx102 ezx102 => ?_)
                    obtain rfl : x102 = zx102 := ex102.trans ezx102.symm
                    obtain ⟨b103, ho103, hc103, hk103, hF⟩ := dr_some hF
                    refine W_st (st' := [.int x102, .ref (ad b103), .ref (ad a)]) (by rw [va_some ho103]) ?_
                    obtain ⟨hvc, hF⟩ := chk_some hF
                    refine va_iald hx hb hK hP b103 1 (wld_i ct ad G y101.1 hc103 hk103) rfl hvc dX6_chooseWeights_351 ?_
                    obtain ⟨x104, ex104, hF⟩ := ltt_some hF
                    refine lv_topi (fun zx104 ezx104 => ?_)
                    obtain rfl : x104 = zx104 := ex104.trans ezx104.symm
                    refine va_put (D := D) (ci := 6) (v := .int x104) (ty := .int) (C := RX6) (T := TX6) (N := 14) hx hb hts (mus hf_X6) tyX6 tyX6_ok nmX6 hown hK hP hD hS a (wld_o ct ad G y101.1 hc hk (by decide)) rfl 11 (by decide) (hts (.fieldLink RX6 158 "VideoSuite$Samples" "offset" "I") (mu mw_547)) (fun _ h9 => h9) rfl (by decide +kernel) rfl rfl (Nat.le_of_ble_eq_true rfl) dX6_chooseWeights_352 (fun H locs hP hD hS => ?_)
                    obtain ⟨M105, eM105, hF⟩ := ltt_some hF
                    rw [set_oI ct ad G y101.1 hc hk (by decide) (by rfl), ← eM105] at hP hD
                    obtain rfl := Option.some.inj hF
                    exact J83 _ _ _ hP hD hS (lv_sub hl [0, 1, 2, 3, 4, 5, 6, 7, 8] rfl)
                clear hF
                have hF := hy80
                clear hy80
                refine lv_if_ne (tgt := 310) hx hb dX6_chooseWeights_302 (by decide) (fun c106 => ?_) (fun c106 => ?_)
                · rw [if_neg c106] at hF
                  refine lv_bipush (v := (23 : Int32)) hx hb dX6_chooseWeights_310 (by decide) ?_
                  obtain rfl := Option.some.inj hF
                  exact J80 _ _ _ hP hD hS (lv_sub hl [0, 1, 2, 3, 4, 5, 6, 7, 8] rfl)
                · rw [if_pos c106] at hF
                  refine lv_bipush (v := (22 : Int32)) hx hb dX6_chooseWeights_305 (by decide) ?_
                  refine lv_goto (tgt := 312) hx hb dX6_chooseWeights_307 (by decide) ?_
                  obtain rfl := Option.some.inj hF
                  exact J80 _ _ _ hP hD hS (lv_sub hl [0, 1, 2, 3, 4, 5, 6, 7, 8] rfl)
              · rw [if_pos c79] at hF
                refine lv_iload hx hb dX6_chooseWeights_293 (lv_at hl 0 rfl) ?_
                obtain rfl := Option.some.inj hF
                exact W.iret (v := y11) hx hb hr (fun t ht hW => ⟨⟨_, (), rfl, rfl, ⟨by rw [ht]; exact hP, va_K.moved hW.alike hK, hD⟩⟩, hS.F ht⟩) hS.2.2 dX6_chooseWeights_295
            · rw [if_neg c77] at hF
              refine lv_aloadq_n hx hb dX6_chooseWeights_270 rfl (lv_at hl 7 rfl) ?_
              refine W_st (st' := [.ref (ad b2)]) (by rw [va_some ho2]) ?_
              refine va_get (D := D) (ci := 9) (v := va_re ad (M.2 b2 2)) (C := RX9) (T := TX9) (N := 20) hx hb hts (mus hf_X9) hown hK hP b2 (wld_o ct ad G M hc2 hk2 (by decide)) rfl 2 (by decide) (hts (.fieldLink RX6 137 "VideoSuite$Work" "par" "[I") (mu mw_433)) (fun _ h9 => h9) rfl dX6_chooseWeights_271 ?_
              refine lv_bipush (v := (6 : Int32)) hx hb dX6_chooseWeights_274 (by decide) ?_
              refine W_st (st' := [.int (6 : Int32), .ref (ad b74)]) (by rw [va_some ho74]) ?_
              obtain ⟨hvc, hF⟩ := chk_some hF
              refine va_iald hx hb hK hP b74 1 (wld_i ct ad G M hc74 hk74) rfl hvc dX6_chooseWeights_276 ?_
              obtain ⟨x107, ex107, hF⟩ := ltt_some hF
              refine lv_topi (fun zx107 ezx107 => ?_)
              obtain rfl : x107 = zx107 := ex107.trans ezx107.symm
              refine lv_iconst (v := (1 : Int32)) hx hb dX6_chooseWeights_277 (by decide) ?_
              refine lv_icmp_eq (tgt := 296) hx hb dX6_chooseWeights_278 (by decide) (fun c108 => ?_) (fun c108 => ?_)
              · rw [if_pos c108] at hF
                refine lv_aload_n hx hb dX6_chooseWeights_296 rfl (lv_at hl 6 rfl) ?_
                refine lv_aloadq_n hx hb dX6_chooseWeights_297 rfl (lv_at hl 5 rfl) ?_
                refine W_st (st' := [.ref (ad b7), .ref (ad a)]) (by rw [va_some ho7]) ?_
                refine va_get (D := D) (ci := 3) (v := va_re ad (M.2 b7 0)) (C := RX3) (T := TX3) (N := 4) hx hb hts (mus hf_X3) hown hK hP b7 (wld_o ct ad G M hc7 hk7 (by decide)) rfl 0 (by decide) (hts (.fieldLink RX6 132 "VideoSuite$Header" "v" "[I") (mu mw_619)) (fun _ h9 => h9) rfl dX6_chooseWeights_298 ?_
                refine lv_iload_n hx hb dX6_chooseWeights_301 rfl (lv_at hl 8 rfl) ?_
                obtain ⟨y109, hy109, hF⟩ := bnd_some hF
                have J109 : ∀ (H : Heap) (locs : List Loc) (ls : Array Slot), va_P D classes (wld ct ad G M) H → va_D A (wld ct ad G M) → va_S A s.heap H locs → lv_has ls 14 [(8, .int y11), (7, .int y10), (6, .int y6), (5, .int x5), (4, .int x4), (3, va_re ad (M.2 b2 1)), (0, .ref (ad a)), (1, va_re ad p0), (2, .int p1)] → W p l e (headSpec wuX6_chooseWeights ({ frames := 2, cells := 0, slots := 0, locals := 44 })).room s m ([.ref (ad a), va_re ad p0, .int p1] : List Value).toArray below meth c H locs 0 0 (MQ below (va_Qi (fun (q : Int32) (_ : Unit) => q = y.2) (fun _ t => kE D ct ad G A y.1 t) A) ([.ref (ad a), va_re ad p0, .int p1] : List Value).toArray s 0 0 A) (F0 m 312 ls [.int y109, va_re ad (M.2 b7 0), .ref (ad a)]) := by
                  intro H locs ls hP hD hS hl
                  refine W_st (st' := [.int y109, .ref (ad b8), .ref (ad a)]) (by rw [va_some ho8]) ?_
                  obtain ⟨hvc, hF⟩ := chk_some hF
                  refine va_iald hx hb hK hP b8 1 (wld_i ct ad G M hc8 hk8) rfl hvc dX6_chooseWeights_312 ?_
                  obtain ⟨x110, ex110, hF⟩ := ltt_some hF
                  refine lv_topi (fun zx110 ezx110 => ?_)
                  obtain rfl : x110 = zx110 := ex110.trans ezx110.symm
                  refine va_put (D := D) (ci := 6) (v := .int x110) (ty := .int) (C := RX6) (T := TX6) (N := 14) hx hb hts (mus hf_X6) tyX6 tyX6_ok nmX6 hown hK hP hD hS a (wld_o ct ad G M hc hk (by decide)) rfl 13 (by decide) (hts (.fieldLink RX6 164 "VideoSuite$Samples" "shift" "I") (mu mw_549)) (fun _ h9 => h9) rfl (by decide +kernel) rfl rfl (Nat.le_of_ble_eq_true rfl) dX6_chooseWeights_313 (fun H locs hP hD hS => ?_)
                  obtain ⟨M111, eM111, hF⟩ := ltt_some hF
                  rw [set_oI ct ad G M hc hk (by decide) (by rfl), ← eM111] at hP hD
                  refine lv_iload hx hb dX6_chooseWeights_316 (lv_at hl 4 rfl) ?_
                  obtain ⟨y112, hy112, hF⟩ := bnd_some hF
                  have J112 : ∀ (H : Heap) (locs : List Loc) (ls : Array Slot), va_P D classes (wld ct ad G y112) H → va_D A (wld ct ad G y112) → va_S A s.heap H locs → lv_has ls 14 [(8, .int y11), (7, .int y10), (6, .int y6), (5, .int x5), (4, .int x4), (3, va_re ad (M.2 b2 1)), (0, .ref (ad a)), (1, va_re ad p0), (2, .int p1)] → W p l e (headSpec wuX6_chooseWeights ({ frames := 2, cells := 0, slots := 0, locals := 44 })).room s m ([.ref (ad a), va_re ad p0, .int p1] : List Value).toArray below meth c H locs 0 0 (MQ below (va_Qi (fun (q : Int32) (_ : Unit) => q = y.2) (fun _ t => kE D ct ad G A y.1 t) A) ([.ref (ad a), va_re ad p0, .int p1] : List Value).toArray s 0 0 A) (F0 m 355 ls []) := by
                    intro H locs ls hP hD hS hl
                    refine lv_iload hx hb dX6_chooseWeights_355 (lv_at hl 3 rfl) ?_
                    obtain ⟨y113, hy113, hF⟩ := bnd_some hF
                    have J113 : ∀ (H : Heap) (locs : List Loc) (ls : Array Slot), va_P D classes (wld ct ad G y113) H → va_D A (wld ct ad G y113) → va_S A s.heap H locs → lv_has ls 14 [(8, .int y11), (7, .int y10), (6, .int y6), (5, .int x5), (4, .int x4), (3, va_re ad (M.2 b2 1)), (0, .ref (ad a)), (1, va_re ad p0), (2, .int p1)] → W p l e (headSpec wuX6_chooseWeights ({ frames := 2, cells := 0, slots := 0, locals := 44 })).room s m ([.ref (ad a), va_re ad p0, .int p1] : List Value).toArray below meth c H locs 0 0 (MQ below (va_Qi (fun (q : Int32) (_ : Unit) => q = y.2) (fun _ t => kE D ct ad G A y.1 t) A) ([.ref (ad a), va_re ad p0, .int p1] : List Value).toArray s 0 0 A) (F0 m 394 ls []) := by
                      intro H locs ls hP hD hS hl
                      refine lv_iload hx hb dX6_chooseWeights_394 (lv_at hl 0 rfl) ?_
                      refine lv_iconst (v := (3 : Int32)) hx hb dX6_chooseWeights_396 (by decide) ?_
                      refine lv_iadd hx hb dX6_chooseWeights_397 ?_
                      obtain ⟨x114, ex114, hF⟩ := ltt_some hF
                      refine lv_topi (fun zx114 ezx114 => ?_)
                      obtain rfl : x114 = zx114 := ex114.trans ezx114.symm
                      obtain rfl := Option.some.inj hF
                      exact W.iret (v := x114) hx hb hr (fun t ht hW => ⟨⟨_, (), rfl, rfl, ⟨by rw [ht]; exact hP, va_K.moved hW.alike hK, hD⟩⟩, hS.F ht⟩) hS.2.2 dX6_chooseWeights_398
                    clear hF
                    have hF := hy113
                    clear hy113
                    refine lv_if_lt (tgt := 394) hx hb dX6_chooseWeights_357 (by decide) (fun c115 => ?_) (fun c115 => ?_)
                    · rw [if_pos c115] at hF
                      obtain rfl := Option.some.inj hF
                      exact J113 _ _ _ hP hD hS (lv_sub hl [0, 1, 2, 3, 4, 5, 6, 7, 8] rfl)
                    · rw [if_neg c115] at hF
                      refine lv_aload_n hx hb dX6_chooseWeights_360 rfl (lv_at hl 6 rfl) ?_
                      refine lv_aloadq_n hx hb dX6_chooseWeights_361 rfl (lv_at hl 5 rfl) ?_
                      refine W_st (st' := [.ref (ad b7), .ref (ad a)]) (by rw [va_some ho7]) ?_
                      refine va_get (D := D) (ci := 3) (v := va_re ad (y112.2 b7 3)) (C := RX3) (T := TX3) (N := 4) hx hb hts (mus hf_X3) hown hK hP b7 (wld_o ct ad G y112 hc7 hk7 (by decide)) rfl 3 (by decide) (hts (.fieldLink RX6 167 "VideoSuite$Header" "weight" "[I") (mu mw_628)) (fun _ h9 => h9) rfl dX6_chooseWeights_362 ?_
                      refine lv_iconst (v := (1 : Int32)) hx hb dX6_chooseWeights_365 (by decide) ?_
                      refine lv_iload hx hb dX6_chooseWeights_366 (lv_at hl 3 rfl) ?_
                      refine lv_iload_n hx hb dX6_chooseWeights_368 rfl (lv_at hl 8 rfl) ?_
                      obtain ⟨y116, hy116, hF⟩ := bnd_some hF
                      have hf9 := wA_in hD hA9 hS
                      refine va_calli (va_runS (As := [.int (1 : Int32), .int x5, .int p1]) (rest := [va_re ad (y112.2 b7 3), .ref (ad a)]) ⟨hx, hb, hml, hown, hts⟩ (kX3_weightAt l D ct ad Z G y112 H.size ((1 : Int32)) x5 p1 y116 hy116) (va_cwS 3 hts gX6_chooseWeights_X3_weightAt rfl rfl rfl (by decide +kernel) ⟨Nat.le_of_ble_eq_true rfl, Nat.le_of_ble_eq_true rfl⟩) ⟨fun a U g mk q => by obtain ⟨q0, q1, qP, qK, qD, qZ, qN⟩ := q; exact ⟨q0, q1, qP, va_K.moved (u := U) (U := U.calling g mk a) (Vm.Alike.refl U.vm) qK, qD, sF.moved (u := U) (U := U.calling g mk a) (Vm.Alike.refl U.vm) qZ, nF.same rfl qN⟩, fun U hU hW => ⟨rfl, by rw [hU], by rw [hU]; exact hP, va_K.moved hW.alike hK, hD.weaken (fun _ _ _ _ => trivial), by rw [hU]; exact ((hZ.kept hS.2.1).narrow hf9).moved hW.alike, hN.warm hW⟩⟩ rfl rfl hl.1 rfl (lv_room (by simp only [List.map, va_re_cat]; exact Nat.le_of_ble_eq_true rfl)) dX6_chooseWeights_369 ⟨(Nat.zero_le _), (Nat.zero_le _)⟩) hS (fun q _ h => hf9 q h) hf9 (fun r u t H locs ht hvm hw hB hz1 hk1 hS => ?_)
                      obtain ⟨hP, hK9, hD9⟩ := hB
                      rw [ht] at hP
                      try dsimp only at hw
                      subst hw
                      have hD := hD9.weaken (fun _ q _ h => hf9 q.1 h)
                      obtain ⟨b117, ho117, hc117, hk117, hF⟩ := dr_some hF
                      refine W_st (st' := [.int y116.2, .ref (ad b117), .ref (ad a)]) (by rw [va_some ho117]) ?_
                      obtain ⟨hvc, hF⟩ := chk_some hF
                      refine va_iald hx hb hK hP b117 1 (wld_i ct ad G y116.1 hc117 hk117) rfl hvc dX6_chooseWeights_372 ?_
                      obtain ⟨x118, ex118, hF⟩ := ltt_some hF
                      refine lv_topi (fun zx118 ezx118 => ?_)
                      obtain rfl : x118 = zx118 := ex118.trans ezx118.symm
                      refine va_put (D := D) (ci := 6) (v := .int x118) (ty := .int) (C := RX6) (T := TX6) (N := 14) hx hb hts (mus hf_X6) tyX6 tyX6_ok nmX6 hown hK hP hD hS a (wld_o ct ad G y116.1 hc hk (by decide)) rfl 10 (by decide) (hts (.fieldLink RX6 152 "VideoSuite$Samples" "otherWeight" "I") (mu mw_546)) (fun _ h9 => h9) rfl (by decide +kernel) rfl rfl (Nat.le_of_ble_eq_true rfl) dX6_chooseWeights_373 (fun H locs hP hD hS => ?_)
                      obtain ⟨M119, eM119, hF⟩ := ltt_some hF
                      rw [set_oI ct ad G y116.1 hc hk (by decide) (by rfl), ← eM119] at hP hD
                      refine lv_aload_n hx hb dX6_chooseWeights_376 rfl (lv_at hl 6 rfl) ?_
                      refine lv_aloadq_n hx hb dX6_chooseWeights_377 rfl (lv_at hl 5 rfl) ?_
                      refine W_st (st' := [.ref (ad b7), .ref (ad a)]) (by rw [va_some ho7]) ?_
                      refine va_get (D := D) (ci := 3) (v := va_re ad (M119.2 b7 3)) (C := RX3) (T := TX3) (N := 4) hx hb hts (mus hf_X3) hown hK hP b7 (wld_o ct ad G M119 hc7 hk7 (by decide)) rfl 3 (by decide) (hts (.fieldLink RX6 167 "VideoSuite$Header" "weight" "[I") (mu mw_628)) (fun _ h9 => h9) rfl dX6_chooseWeights_378 ?_
                      refine lv_iconst (v := (1 : Int32)) hx hb dX6_chooseWeights_381 (by decide) ?_
                      refine lv_iload hx hb dX6_chooseWeights_382 (lv_at hl 3 rfl) ?_
                      refine lv_iload_n hx hb dX6_chooseWeights_384 rfl (lv_at hl 8 rfl) ?_
                      obtain ⟨y120, hy120, hF⟩ := bnd_some hF
                      have hf9 := wA_in hD hA9 hS
                      refine va_calli (va_runS (As := [.int (1 : Int32), .int x5, .int p1]) (rest := [va_re ad (M119.2 b7 3), .ref (ad a)]) ⟨hx, hb, hml, hown, hts⟩ (kX3_weightAt l D ct ad Z G M119 H.size ((1 : Int32)) x5 p1 y120 hy120) (va_cwS 3 hts gX6_chooseWeights_X3_weightAt rfl rfl rfl (by decide +kernel) ⟨Nat.le_of_ble_eq_true rfl, Nat.le_of_ble_eq_true rfl⟩) ⟨fun a U g mk q => by obtain ⟨q0, q1, qP, qK, qD, qZ, qN⟩ := q; exact ⟨q0, q1, qP, va_K.moved (u := U) (U := U.calling g mk a) (Vm.Alike.refl U.vm) qK, qD, sF.moved (u := U) (U := U.calling g mk a) (Vm.Alike.refl U.vm) qZ, nF.same rfl qN⟩, fun U hU hW => ⟨rfl, by rw [hU], by rw [hU]; exact hP, va_K.moved hW.alike hK, hD.weaken (fun _ _ _ _ => trivial), by rw [hU]; exact ((hZ.kept hS.2.1).narrow hf9).moved hW.alike, hN.warm hW⟩⟩ rfl rfl hl.1 rfl (lv_room (by simp only [List.map, va_re_cat]; exact Nat.le_of_ble_eq_true rfl)) dX6_chooseWeights_385 ⟨(Nat.zero_le _), (Nat.zero_le _)⟩) hS (fun q _ h => hf9 q h) hf9 (fun r u t H locs ht hvm hw hB hz1 hk1 hS => ?_)
                      obtain ⟨hP, hK9, hD9⟩ := hB
                      rw [ht] at hP
                      try dsimp only at hw
                      subst hw
                      have hD := hD9.weaken (fun _ q _ h => hf9 q.1 h)
                      refine lv_iconst (v := (1 : Int32)) hx hb dX6_chooseWeights_388 (by decide) ?_
                      refine lv_iadd hx hb dX6_chooseWeights_389 ?_
                      obtain ⟨x121, ex121, hF⟩ := ltt_some hF
                      refine lv_topi (fun zx121 ezx121 => ?_)
                      obtain rfl : x121 = zx121 := ex121.trans ezx121.symm
                      obtain ⟨b122, ho122, hc122, hk122, hF⟩ := dr_some hF
                      refine W_st (st' := [.int x121, .ref (ad b122), .ref (ad a)]) (by rw [va_some ho122]) ?_
                      obtain ⟨hvc, hF⟩ := chk_some hF
                      refine va_iald hx hb hK hP b122 1 (wld_i ct ad G y120.1 hc122 hk122) rfl hvc dX6_chooseWeights_390 ?_
                      obtain ⟨x123, ex123, hF⟩ := ltt_some hF
                      refine lv_topi (fun zx123 ezx123 => ?_)
                      obtain rfl : x123 = zx123 := ex123.trans ezx123.symm
                      refine va_put (D := D) (ci := 6) (v := .int x123) (ty := .int) (C := RX6) (T := TX6) (N := 14) hx hb hts (mus hf_X6) tyX6 tyX6_ok nmX6 hown hK hP hD hS a (wld_o ct ad G y120.1 hc hk (by decide)) rfl 12 (by decide) (hts (.fieldLink RX6 161 "VideoSuite$Samples" "otherOffset" "I") (mu mw_548)) (fun _ h9 => h9) rfl (by decide +kernel) rfl rfl (Nat.le_of_ble_eq_true rfl) dX6_chooseWeights_391 (fun H locs hP hD hS => ?_)
                      obtain ⟨M124, eM124, hF⟩ := ltt_some hF
                      rw [set_oI ct ad G y120.1 hc hk (by decide) (by rfl), ← eM124] at hP hD
                      obtain rfl := Option.some.inj hF
                      exact J113 _ _ _ hP hD hS (lv_sub hl [0, 1, 2, 3, 4, 5, 6, 7, 8] rfl)
                  clear hF
                  have hF := hy112
                  clear hy112
                  refine lv_if_lt (tgt := 355) hx hb dX6_chooseWeights_318 (by decide) (fun c125 => ?_) (fun c125 => ?_)
                  · rw [if_pos c125] at hF
                    obtain rfl := Option.some.inj hF
                    exact J112 _ _ _ hP hD hS (lv_sub hl [0, 1, 2, 3, 4, 5, 6, 7, 8] rfl)
                  · rw [if_neg c125] at hF
                    refine lv_aload_n hx hb dX6_chooseWeights_321 rfl (lv_at hl 6 rfl) ?_
                    refine lv_aloadq_n hx hb dX6_chooseWeights_322 rfl (lv_at hl 5 rfl) ?_
                    refine W_st (st' := [.ref (ad b7), .ref (ad a)]) (by rw [va_some ho7]) ?_
                    refine va_get (D := D) (ci := 3) (v := va_re ad (M111.2 b7 3)) (C := RX3) (T := TX3) (N := 4) hx hb hts (mus hf_X3) hown hK hP b7 (wld_o ct ad G M111 hc7 hk7 (by decide)) rfl 3 (by decide) (hts (.fieldLink RX6 167 "VideoSuite$Header" "weight" "[I") (mu mw_628)) (fun _ h9 => h9) rfl dX6_chooseWeights_323 ?_
                    refine lv_iconst (v := (0 : Int32)) hx hb dX6_chooseWeights_326 (by decide) ?_
                    refine lv_iload hx hb dX6_chooseWeights_327 (lv_at hl 4 rfl) ?_
                    refine lv_iload_n hx hb dX6_chooseWeights_329 rfl (lv_at hl 8 rfl) ?_
                    obtain ⟨y126, hy126, hF⟩ := bnd_some hF
                    have hf9 := wA_in hD hA9 hS
                    refine va_calli (va_runS (As := [.int (0 : Int32), .int x4, .int p1]) (rest := [va_re ad (M111.2 b7 3), .ref (ad a)]) ⟨hx, hb, hml, hown, hts⟩ (kX3_weightAt l D ct ad Z G M111 H.size ((0 : Int32)) x4 p1 y126 hy126) (va_cwS 3 hts gX6_chooseWeights_X3_weightAt rfl rfl rfl (by decide +kernel) ⟨Nat.le_of_ble_eq_true rfl, Nat.le_of_ble_eq_true rfl⟩) ⟨fun a U g mk q => by obtain ⟨q0, q1, qP, qK, qD, qZ, qN⟩ := q; exact ⟨q0, q1, qP, va_K.moved (u := U) (U := U.calling g mk a) (Vm.Alike.refl U.vm) qK, qD, sF.moved (u := U) (U := U.calling g mk a) (Vm.Alike.refl U.vm) qZ, nF.same rfl qN⟩, fun U hU hW => ⟨rfl, by rw [hU], by rw [hU]; exact hP, va_K.moved hW.alike hK, hD.weaken (fun _ _ _ _ => trivial), by rw [hU]; exact ((hZ.kept hS.2.1).narrow hf9).moved hW.alike, hN.warm hW⟩⟩ rfl rfl hl.1 rfl (lv_room (by simp only [List.map, va_re_cat]; exact Nat.le_of_ble_eq_true rfl)) dX6_chooseWeights_330 ⟨(Nat.zero_le _), (Nat.zero_le _)⟩) hS (fun q _ h => hf9 q h) hf9 (fun r u t H locs ht hvm hw hB hz1 hk1 hS => ?_)
                    obtain ⟨hP, hK9, hD9⟩ := hB
                    rw [ht] at hP
                    try dsimp only at hw
                    subst hw
                    have hD := hD9.weaken (fun _ q _ h => hf9 q.1 h)
                    obtain ⟨b127, ho127, hc127, hk127, hF⟩ := dr_some hF
                    refine W_st (st' := [.int y126.2, .ref (ad b127), .ref (ad a)]) (by rw [va_some ho127]) ?_
                    obtain ⟨hvc, hF⟩ := chk_some hF
                    refine va_iald hx hb hK hP b127 1 (wld_i ct ad G y126.1 hc127 hk127) rfl hvc dX6_chooseWeights_333 ?_
                    obtain ⟨x128, ex128, hF⟩ := ltt_some hF
                    refine lv_topi (fun zx128 ezx128 => ?_)
                    obtain rfl : x128 = zx128 := ex128.trans ezx128.symm
                    refine va_put (D := D) (ci := 6) (v := .int x128) (ty := .int) (C := RX6) (T := TX6) (N := 14) hx hb hts (mus hf_X6) tyX6 tyX6_ok nmX6 hown hK hP hD hS a (wld_o ct ad G y126.1 hc hk (by decide)) rfl 9 (by decide) (hts (.fieldLink RX6 155 "VideoSuite$Samples" "weight" "I") (mu mw_545)) (fun _ h9 => h9) rfl (by decide +kernel) rfl rfl (Nat.le_of_ble_eq_true rfl) dX6_chooseWeights_334 (fun H locs hP hD hS => ?_)
                    obtain ⟨M129, eM129, hF⟩ := ltt_some hF
                    rw [set_oI ct ad G y126.1 hc hk (by decide) (by rfl), ← eM129] at hP hD
                    refine lv_aload_n hx hb dX6_chooseWeights_337 rfl (lv_at hl 6 rfl) ?_
                    refine lv_aloadq_n hx hb dX6_chooseWeights_338 rfl (lv_at hl 5 rfl) ?_
                    refine W_st (st' := [.ref (ad b7), .ref (ad a)]) (by rw [va_some ho7]) ?_
                    refine va_get (D := D) (ci := 3) (v := va_re ad (M129.2 b7 3)) (C := RX3) (T := TX3) (N := 4) hx hb hts (mus hf_X3) hown hK hP b7 (wld_o ct ad G M129 hc7 hk7 (by decide)) rfl 3 (by decide) (hts (.fieldLink RX6 167 "VideoSuite$Header" "weight" "[I") (mu mw_628)) (fun _ h9 => h9) rfl dX6_chooseWeights_339 ?_
                    refine lv_iconst (v := (0 : Int32)) hx hb dX6_chooseWeights_342 (by decide) ?_
                    refine lv_iload hx hb dX6_chooseWeights_343 (lv_at hl 4 rfl) ?_
                    refine lv_iload_n hx hb dX6_chooseWeights_345 rfl (lv_at hl 8 rfl) ?_
                    obtain ⟨y130, hy130, hF⟩ := bnd_some hF
                    have hf9 := wA_in hD hA9 hS
                    refine va_calli (va_runS (As := [.int (0 : Int32), .int x4, .int p1]) (rest := [va_re ad (M129.2 b7 3), .ref (ad a)]) ⟨hx, hb, hml, hown, hts⟩ (kX3_weightAt l D ct ad Z G M129 H.size ((0 : Int32)) x4 p1 y130 hy130) (va_cwS 3 hts gX6_chooseWeights_X3_weightAt rfl rfl rfl (by decide +kernel) ⟨Nat.le_of_ble_eq_true rfl, Nat.le_of_ble_eq_true rfl⟩) ⟨fun a U g mk q => by obtain ⟨q0, q1, qP, qK, qD, qZ, qN⟩ := q; exact ⟨q0, q1, qP, va_K.moved (u := U) (U := U.calling g mk a) (Vm.Alike.refl U.vm) qK, qD, sF.moved (u := U) (U := U.calling g mk a) (Vm.Alike.refl U.vm) qZ, nF.same rfl qN⟩, fun U hU hW => ⟨rfl, by rw [hU], by rw [hU]; exact hP, va_K.moved hW.alike hK, hD.weaken (fun _ _ _ _ => trivial), by rw [hU]; exact ((hZ.kept hS.2.1).narrow hf9).moved hW.alike, hN.warm hW⟩⟩ rfl rfl hl.1 rfl (lv_room (by simp only [List.map, va_re_cat]; exact Nat.le_of_ble_eq_true rfl)) dX6_chooseWeights_346 ⟨(Nat.zero_le _), (Nat.zero_le _)⟩) hS (fun q _ h => hf9 q h) hf9 (fun r u t H locs ht hvm hw hB hz1 hk1 hS => ?_)
                    obtain ⟨hP, hK9, hD9⟩ := hB
                    rw [ht] at hP
                    try dsimp only at hw
                    subst hw
                    have hD := hD9.weaken (fun _ q _ h => hf9 q.1 h)
                    refine lv_iconst (v := (1 : Int32)) hx hb dX6_chooseWeights_349 (by decide) ?_
                    refine lv_iadd hx hb dX6_chooseWeights_350 ?_
                    obtain ⟨x131, ex131, hF⟩ := ltt_some hF
                    refine lv_topi (fun zx131 ezx131 => ?_)
                    obtain rfl : x131 = zx131 := ex131.trans ezx131.symm
                    obtain ⟨b132, ho132, hc132, hk132, hF⟩ := dr_some hF
                    refine W_st (st' := [.int x131, .ref (ad b132), .ref (ad a)]) (by rw [va_some ho132]) ?_
                    obtain ⟨hvc, hF⟩ := chk_some hF
                    refine va_iald hx hb hK hP b132 1 (wld_i ct ad G y130.1 hc132 hk132) rfl hvc dX6_chooseWeights_351 ?_
                    obtain ⟨x133, ex133, hF⟩ := ltt_some hF
                    refine lv_topi (fun zx133 ezx133 => ?_)
                    obtain rfl : x133 = zx133 := ex133.trans ezx133.symm
                    refine va_put (D := D) (ci := 6) (v := .int x133) (ty := .int) (C := RX6) (T := TX6) (N := 14) hx hb hts (mus hf_X6) tyX6 tyX6_ok nmX6 hown hK hP hD hS a (wld_o ct ad G y130.1 hc hk (by decide)) rfl 11 (by decide) (hts (.fieldLink RX6 158 "VideoSuite$Samples" "offset" "I") (mu mw_547)) (fun _ h9 => h9) rfl (by decide +kernel) rfl rfl (Nat.le_of_ble_eq_true rfl) dX6_chooseWeights_352 (fun H locs hP hD hS => ?_)
                    obtain ⟨M134, eM134, hF⟩ := ltt_some hF
                    rw [set_oI ct ad G y130.1 hc hk (by decide) (by rfl), ← eM134] at hP hD
                    obtain rfl := Option.some.inj hF
                    exact J112 _ _ _ hP hD hS (lv_sub hl [0, 1, 2, 3, 4, 5, 6, 7, 8] rfl)
                clear hF
                have hF := hy109
                clear hy109
                refine lv_if_ne (tgt := 310) hx hb dX6_chooseWeights_302 (by decide) (fun c135 => ?_) (fun c135 => ?_)
                · rw [if_neg c135] at hF
                  refine lv_bipush (v := (23 : Int32)) hx hb dX6_chooseWeights_310 (by decide) ?_
                  obtain rfl := Option.some.inj hF
                  exact J109 _ _ _ hP hD hS (lv_sub hl [0, 1, 2, 3, 4, 5, 6, 7, 8] rfl)
                · rw [if_pos c135] at hF
                  refine lv_bipush (v := (22 : Int32)) hx hb dX6_chooseWeights_305 (by decide) ?_
                  refine lv_goto (tgt := 312) hx hb dX6_chooseWeights_307 (by decide) ?_
                  obtain rfl := Option.some.inj hF
                  exact J109 _ _ _ hP hD hS (lv_sub hl [0, 1, 2, 3, 4, 5, 6, 7, 8] rfl)
              · rw [if_neg c108] at hF
                refine lv_goto (tgt := 293) hx hb dX6_chooseWeights_281 (by decide) ?_
                refine lv_iload hx hb dX6_chooseWeights_293 (lv_at hl 0 rfl) ?_
                obtain rfl := Option.some.inj hF
                exact W.iret (v := y11) hx hb hr (fun t ht hW => ⟨⟨_, (), rfl, rfl, ⟨by rw [ht]; exact hP, va_K.moved hW.alike hK, hD⟩⟩, hS.F ht⟩) hS.2.2 dX6_chooseWeights_295
          · rw [if_pos c76] at hF
            refine lv_iload hx hb dX6_chooseWeights_92 (lv_at hl 2 rfl) ?_
            refine lv_if_eq (tgt := 265) hx hb dX6_chooseWeights_94 (by decide) (fun c136 => ?_) (fun c136 => ?_)
            · rw [if_pos c136] at hF
              refine lv_iload hx hb dX6_chooseWeights_265 (lv_at hl 1 rfl) ?_
              refine lv_if_eq (tgt := 284) hx hb dX6_chooseWeights_267 (by decide) (fun c137 => ?_) (fun c137 => ?_)
              · rw [if_pos c137] at hF
                refine lv_aloadq_n hx hb dX6_chooseWeights_284 rfl (lv_at hl 7 rfl) ?_
                refine W_st (st' := [.ref (ad b2)]) (by rw [va_some ho2]) ?_
                refine va_get (D := D) (ci := 9) (v := va_re ad (M.2 b2 2)) (C := RX9) (T := TX9) (N := 20) hx hb hts (mus hf_X9) hown hK hP b2 (wld_o ct ad G M hc2 hk2 (by decide)) rfl 2 (by decide) (hts (.fieldLink RX6 137 "VideoSuite$Work" "par" "[I") (mu mw_433)) (fun _ h9 => h9) rfl dX6_chooseWeights_285 ?_
                refine lv_iconst (v := (5 : Int32)) hx hb dX6_chooseWeights_288 (by decide) ?_
                refine W_st (st' := [.int (5 : Int32), .ref (ad b74)]) (by rw [va_some ho74]) ?_
                obtain ⟨hvc, hF⟩ := chk_some hF
                refine va_iald hx hb hK hP b74 1 (wld_i ct ad G M hc74 hk74) rfl hvc dX6_chooseWeights_289 ?_
                obtain ⟨x138, ex138, hF⟩ := ltt_some hF
                refine lv_topi (fun zx138 ezx138 => ?_)
                obtain rfl : x138 = zx138 := ex138.trans ezx138.symm
                refine lv_if_ne (tgt := 296) hx hb dX6_chooseWeights_290 (by decide) (fun c139 => ?_) (fun c139 => ?_)
                · rw [if_neg c139] at hF
                  refine lv_aload_n hx hb dX6_chooseWeights_296 rfl (lv_at hl 6 rfl) ?_
                  refine lv_aloadq_n hx hb dX6_chooseWeights_297 rfl (lv_at hl 5 rfl) ?_
                  refine W_st (st' := [.ref (ad b7), .ref (ad a)]) (by rw [va_some ho7]) ?_
                  refine va_get (D := D) (ci := 3) (v := va_re ad (M.2 b7 0)) (C := RX3) (T := TX3) (N := 4) hx hb hts (mus hf_X3) hown hK hP b7 (wld_o ct ad G M hc7 hk7 (by decide)) rfl 0 (by decide) (hts (.fieldLink RX6 132 "VideoSuite$Header" "v" "[I") (mu mw_619)) (fun _ h9 => h9) rfl dX6_chooseWeights_298 ?_
                  refine lv_iload_n hx hb dX6_chooseWeights_301 rfl (lv_at hl 8 rfl) ?_
                  obtain ⟨y140, hy140, hF⟩ := bnd_some hF
                  have J140 : ∀ (H : Heap) (locs : List Loc) (ls : Array Slot), va_P D classes (wld ct ad G M) H → va_D A (wld ct ad G M) → va_S A s.heap H locs → lv_has ls 14 [(8, .int y11), (7, .int y10), (6, .int y6), (5, .int x5), (4, .int x4), (3, va_re ad (M.2 b2 1)), (0, .ref (ad a)), (1, va_re ad p0), (2, .int p1)] → W p l e (headSpec wuX6_chooseWeights ({ frames := 2, cells := 0, slots := 0, locals := 44 })).room s m ([.ref (ad a), va_re ad p0, .int p1] : List Value).toArray below meth c H locs 0 0 (MQ below (va_Qi (fun (q : Int32) (_ : Unit) => q = y.2) (fun _ t => kE D ct ad G A y.1 t) A) ([.ref (ad a), va_re ad p0, .int p1] : List Value).toArray s 0 0 A) (F0 m 312 ls [.int y140, va_re ad (M.2 b7 0), .ref (ad a)]) := by
                    intro H locs ls hP hD hS hl
                    refine W_st (st' := [.int y140, .ref (ad b8), .ref (ad a)]) (by rw [va_some ho8]) ?_
                    obtain ⟨hvc, hF⟩ := chk_some hF
                    refine va_iald hx hb hK hP b8 1 (wld_i ct ad G M hc8 hk8) rfl hvc dX6_chooseWeights_312 ?_
                    obtain ⟨x141, ex141, hF⟩ := ltt_some hF
                    refine lv_topi (fun zx141 ezx141 => ?_)
                    obtain rfl : x141 = zx141 := ex141.trans ezx141.symm
                    refine va_put (D := D) (ci := 6) (v := .int x141) (ty := .int) (C := RX6) (T := TX6) (N := 14) hx hb hts (mus hf_X6) tyX6 tyX6_ok nmX6 hown hK hP hD hS a (wld_o ct ad G M hc hk (by decide)) rfl 13 (by decide) (hts (.fieldLink RX6 164 "VideoSuite$Samples" "shift" "I") (mu mw_549)) (fun _ h9 => h9) rfl (by decide +kernel) rfl rfl (Nat.le_of_ble_eq_true rfl) dX6_chooseWeights_313 (fun H locs hP hD hS => ?_)
                    obtain ⟨M142, eM142, hF⟩ := ltt_some hF
                    rw [set_oI ct ad G M hc hk (by decide) (by rfl), ← eM142] at hP hD
                    refine lv_iload hx hb dX6_chooseWeights_316 (lv_at hl 4 rfl) ?_
                    obtain ⟨y143, hy143, hF⟩ := bnd_some hF
                    have J143 : ∀ (H : Heap) (locs : List Loc) (ls : Array Slot), va_P D classes (wld ct ad G y143) H → va_D A (wld ct ad G y143) → va_S A s.heap H locs → lv_has ls 14 [(8, .int y11), (7, .int y10), (6, .int y6), (5, .int x5), (4, .int x4), (3, va_re ad (M.2 b2 1)), (0, .ref (ad a)), (1, va_re ad p0), (2, .int p1)] → W p l e (headSpec wuX6_chooseWeights ({ frames := 2, cells := 0, slots := 0, locals := 44 })).room s m ([.ref (ad a), va_re ad p0, .int p1] : List Value).toArray below meth c H locs 0 0 (MQ below (va_Qi (fun (q : Int32) (_ : Unit) => q = y.2) (fun _ t => kE D ct ad G A y.1 t) A) ([.ref (ad a), va_re ad p0, .int p1] : List Value).toArray s 0 0 A) (F0 m 355 ls []) := by
                      intro H locs ls hP hD hS hl
                      refine lv_iload hx hb dX6_chooseWeights_355 (lv_at hl 3 rfl) ?_
                      obtain ⟨y144, hy144, hF⟩ := bnd_some hF
                      have J144 : ∀ (H : Heap) (locs : List Loc) (ls : Array Slot), va_P D classes (wld ct ad G y144) H → va_D A (wld ct ad G y144) → va_S A s.heap H locs → lv_has ls 14 [(8, .int y11), (7, .int y10), (6, .int y6), (5, .int x5), (4, .int x4), (3, va_re ad (M.2 b2 1)), (0, .ref (ad a)), (1, va_re ad p0), (2, .int p1)] → W p l e (headSpec wuX6_chooseWeights ({ frames := 2, cells := 0, slots := 0, locals := 44 })).room s m ([.ref (ad a), va_re ad p0, .int p1] : List Value).toArray below meth c H locs 0 0 (MQ below (va_Qi (fun (q : Int32) (_ : Unit) => q = y.2) (fun _ t => kE D ct ad G A y.1 t) A) ([.ref (ad a), va_re ad p0, .int p1] : List Value).toArray s 0 0 A) (F0 m 394 ls []) := by
                        intro H locs ls hP hD hS hl
                        refine lv_iload hx hb dX6_chooseWeights_394 (lv_at hl 0 rfl) ?_
                        refine lv_iconst (v := (3 : Int32)) hx hb dX6_chooseWeights_396 (by decide) ?_
                        refine lv_iadd hx hb dX6_chooseWeights_397 ?_
                        obtain ⟨x145, ex145, hF⟩ := ltt_some hF
                        refine lv_topi (fun zx145 ezx145 => ?_)
                        obtain rfl : x145 = zx145 := ex145.trans ezx145.symm
                        obtain rfl := Option.some.inj hF
                        exact W.iret (v := x145) hx hb hr (fun t ht hW => ⟨⟨_, (), rfl, rfl, ⟨by rw [ht]; exact hP, va_K.moved hW.alike hK, hD⟩⟩, hS.F ht⟩) hS.2.2 dX6_chooseWeights_398
                      clear hF
                      have hF := hy144
                      clear hy144
                      refine lv_if_lt (tgt := 394) hx hb dX6_chooseWeights_357 (by decide) (fun c146 => ?_) (fun c146 => ?_)
                      · rw [if_pos c146] at hF
                        obtain rfl := Option.some.inj hF
                        exact J144 _ _ _ hP hD hS (lv_sub hl [0, 1, 2, 3, 4, 5, 6, 7, 8] rfl)
                      · rw [if_neg c146] at hF
                        refine lv_aload_n hx hb dX6_chooseWeights_360 rfl (lv_at hl 6 rfl) ?_
                        refine lv_aloadq_n hx hb dX6_chooseWeights_361 rfl (lv_at hl 5 rfl) ?_
                        refine W_st (st' := [.ref (ad b7), .ref (ad a)]) (by rw [va_some ho7]) ?_
                        refine va_get (D := D) (ci := 3) (v := va_re ad (y143.2 b7 3)) (C := RX3) (T := TX3) (N := 4) hx hb hts (mus hf_X3) hown hK hP b7 (wld_o ct ad G y143 hc7 hk7 (by decide)) rfl 3 (by decide) (hts (.fieldLink RX6 167 "VideoSuite$Header" "weight" "[I") (mu mw_628)) (fun _ h9 => h9) rfl dX6_chooseWeights_362 ?_
                        refine lv_iconst (v := (1 : Int32)) hx hb dX6_chooseWeights_365 (by decide) ?_
                        refine lv_iload hx hb dX6_chooseWeights_366 (lv_at hl 3 rfl) ?_
                        refine lv_iload_n hx hb dX6_chooseWeights_368 rfl (lv_at hl 8 rfl) ?_
                        obtain ⟨y147, hy147, hF⟩ := bnd_some hF
                        have hf9 := wA_in hD hA9 hS
                        refine va_calli (va_runS (As := [.int (1 : Int32), .int x5, .int p1]) (rest := [va_re ad (y143.2 b7 3), .ref (ad a)]) ⟨hx, hb, hml, hown, hts⟩ (kX3_weightAt l D ct ad Z G y143 H.size ((1 : Int32)) x5 p1 y147 hy147) (va_cwS 3 hts gX6_chooseWeights_X3_weightAt rfl rfl rfl (by decide +kernel) ⟨Nat.le_of_ble_eq_true rfl, Nat.le_of_ble_eq_true rfl⟩) ⟨fun a U g mk q => by obtain ⟨q0, q1, qP, qK, qD, qZ, qN⟩ := q; exact ⟨q0, q1, qP, va_K.moved (u := U) (U := U.calling g mk a) (Vm.Alike.refl U.vm) qK, qD, sF.moved (u := U) (U := U.calling g mk a) (Vm.Alike.refl U.vm) qZ, nF.same rfl qN⟩, fun U hU hW => ⟨rfl, by rw [hU], by rw [hU]; exact hP, va_K.moved hW.alike hK, hD.weaken (fun _ _ _ _ => trivial), by rw [hU]; exact ((hZ.kept hS.2.1).narrow hf9).moved hW.alike, hN.warm hW⟩⟩ rfl rfl hl.1 rfl (lv_room (by simp only [List.map, va_re_cat]; exact Nat.le_of_ble_eq_true rfl)) dX6_chooseWeights_369 ⟨(Nat.zero_le _), (Nat.zero_le _)⟩) hS (fun q _ h => hf9 q h) hf9 (fun r u t H locs ht hvm hw hB hz1 hk1 hS => ?_)
                        obtain ⟨hP, hK9, hD9⟩ := hB
                        rw [ht] at hP
                        try dsimp only at hw
                        subst hw
                        have hD := hD9.weaken (fun _ q _ h => hf9 q.1 h)
                        obtain ⟨b148, ho148, hc148, hk148, hF⟩ := dr_some hF
                        refine W_st (st' := [.int y147.2, .ref (ad b148), .ref (ad a)]) (by rw [va_some ho148]) ?_
                        obtain ⟨hvc, hF⟩ := chk_some hF
                        refine va_iald hx hb hK hP b148 1 (wld_i ct ad G y147.1 hc148 hk148) rfl hvc dX6_chooseWeights_372 ?_
                        obtain ⟨x149, ex149, hF⟩ := ltt_some hF
                        refine lv_topi (fun zx149 ezx149 => ?_)
                        obtain rfl : x149 = zx149 := ex149.trans ezx149.symm
                        refine va_put (D := D) (ci := 6) (v := .int x149) (ty := .int) (C := RX6) (T := TX6) (N := 14) hx hb hts (mus hf_X6) tyX6 tyX6_ok nmX6 hown hK hP hD hS a (wld_o ct ad G y147.1 hc hk (by decide)) rfl 10 (by decide) (hts (.fieldLink RX6 152 "VideoSuite$Samples" "otherWeight" "I") (mu mw_546)) (fun _ h9 => h9) rfl (by decide +kernel) rfl rfl (Nat.le_of_ble_eq_true rfl) dX6_chooseWeights_373 (fun H locs hP hD hS => ?_)
                        obtain ⟨M150, eM150, hF⟩ := ltt_some hF
                        rw [set_oI ct ad G y147.1 hc hk (by decide) (by rfl), ← eM150] at hP hD
                        refine lv_aload_n hx hb dX6_chooseWeights_376 rfl (lv_at hl 6 rfl) ?_
                        refine lv_aloadq_n hx hb dX6_chooseWeights_377 rfl (lv_at hl 5 rfl) ?_
                        refine W_st (st' := [.ref (ad b7), .ref (ad a)]) (by rw [va_some ho7]) ?_
                        refine va_get (D := D) (ci := 3) (v := va_re ad (M150.2 b7 3)) (C := RX3) (T := TX3) (N := 4) hx hb hts (mus hf_X3) hown hK hP b7 (wld_o ct ad G M150 hc7 hk7 (by decide)) rfl 3 (by decide) (hts (.fieldLink RX6 167 "VideoSuite$Header" "weight" "[I") (mu mw_628)) (fun _ h9 => h9) rfl dX6_chooseWeights_378 ?_
                        refine lv_iconst (v := (1 : Int32)) hx hb dX6_chooseWeights_381 (by decide) ?_
                        refine lv_iload hx hb dX6_chooseWeights_382 (lv_at hl 3 rfl) ?_
                        refine lv_iload_n hx hb dX6_chooseWeights_384 rfl (lv_at hl 8 rfl) ?_
                        obtain ⟨y151, hy151, hF⟩ := bnd_some hF
                        have hf9 := wA_in hD hA9 hS
                        refine va_calli (va_runS (As := [.int (1 : Int32), .int x5, .int p1]) (rest := [va_re ad (M150.2 b7 3), .ref (ad a)]) ⟨hx, hb, hml, hown, hts⟩ (kX3_weightAt l D ct ad Z G M150 H.size ((1 : Int32)) x5 p1 y151 hy151) (va_cwS 3 hts gX6_chooseWeights_X3_weightAt rfl rfl rfl (by decide +kernel) ⟨Nat.le_of_ble_eq_true rfl, Nat.le_of_ble_eq_true rfl⟩) ⟨fun a U g mk q => by obtain ⟨q0, q1, qP, qK, qD, qZ, qN⟩ := q; exact ⟨q0, q1, qP, va_K.moved (u := U) (U := U.calling g mk a) (Vm.Alike.refl U.vm) qK, qD, sF.moved (u := U) (U := U.calling g mk a) (Vm.Alike.refl U.vm) qZ, nF.same rfl qN⟩, fun U hU hW => ⟨rfl, by rw [hU], by rw [hU]; exact hP, va_K.moved hW.alike hK, hD.weaken (fun _ _ _ _ => trivial), by rw [hU]; exact ((hZ.kept hS.2.1).narrow hf9).moved hW.alike, hN.warm hW⟩⟩ rfl rfl hl.1 rfl (lv_room (by simp only [List.map, va_re_cat]; exact Nat.le_of_ble_eq_true rfl)) dX6_chooseWeights_385 ⟨(Nat.zero_le _), (Nat.zero_le _)⟩) hS (fun q _ h => hf9 q h) hf9 (fun r u t H locs ht hvm hw hB hz1 hk1 hS => ?_)
                        obtain ⟨hP, hK9, hD9⟩ := hB
                        rw [ht] at hP
                        try dsimp only at hw
                        subst hw
                        have hD := hD9.weaken (fun _ q _ h => hf9 q.1 h)
                        refine lv_iconst (v := (1 : Int32)) hx hb dX6_chooseWeights_388 (by decide) ?_
                        refine lv_iadd hx hb dX6_chooseWeights_389 ?_
                        obtain ⟨x152, ex152, hF⟩ := ltt_some hF
                        refine lv_topi (fun zx152 ezx152 => ?_)
                        obtain rfl : x152 = zx152 := ex152.trans ezx152.symm
                        obtain ⟨b153, ho153, hc153, hk153, hF⟩ := dr_some hF
                        refine W_st (st' := [.int x152, .ref (ad b153), .ref (ad a)]) (by rw [va_some ho153]) ?_
                        obtain ⟨hvc, hF⟩ := chk_some hF
                        refine va_iald hx hb hK hP b153 1 (wld_i ct ad G y151.1 hc153 hk153) rfl hvc dX6_chooseWeights_390 ?_
                        obtain ⟨x154, ex154, hF⟩ := ltt_some hF
                        refine lv_topi (fun zx154 ezx154 => ?_)
                        obtain rfl : x154 = zx154 := ex154.trans ezx154.symm
                        refine va_put (D := D) (ci := 6) (v := .int x154) (ty := .int) (C := RX6) (T := TX6) (N := 14) hx hb hts (mus hf_X6) tyX6 tyX6_ok nmX6 hown hK hP hD hS a (wld_o ct ad G y151.1 hc hk (by decide)) rfl 12 (by decide) (hts (.fieldLink RX6 161 "VideoSuite$Samples" "otherOffset" "I") (mu mw_548)) (fun _ h9 => h9) rfl (by decide +kernel) rfl rfl (Nat.le_of_ble_eq_true rfl) dX6_chooseWeights_391 (fun H locs hP hD hS => ?_)
                        obtain ⟨M155, eM155, hF⟩ := ltt_some hF
                        rw [set_oI ct ad G y151.1 hc hk (by decide) (by rfl), ← eM155] at hP hD
                        obtain rfl := Option.some.inj hF
                        exact J144 _ _ _ hP hD hS (lv_sub hl [0, 1, 2, 3, 4, 5, 6, 7, 8] rfl)
                    clear hF
                    have hF := hy143
                    clear hy143
                    refine lv_if_lt (tgt := 355) hx hb dX6_chooseWeights_318 (by decide) (fun c156 => ?_) (fun c156 => ?_)
                    · rw [if_pos c156] at hF
                      obtain rfl := Option.some.inj hF
                      exact J143 _ _ _ hP hD hS (lv_sub hl [0, 1, 2, 3, 4, 5, 6, 7, 8] rfl)
                    · rw [if_neg c156] at hF
                      refine lv_aload_n hx hb dX6_chooseWeights_321 rfl (lv_at hl 6 rfl) ?_
                      refine lv_aloadq_n hx hb dX6_chooseWeights_322 rfl (lv_at hl 5 rfl) ?_
                      refine W_st (st' := [.ref (ad b7), .ref (ad a)]) (by rw [va_some ho7]) ?_
                      refine va_get (D := D) (ci := 3) (v := va_re ad (M142.2 b7 3)) (C := RX3) (T := TX3) (N := 4) hx hb hts (mus hf_X3) hown hK hP b7 (wld_o ct ad G M142 hc7 hk7 (by decide)) rfl 3 (by decide) (hts (.fieldLink RX6 167 "VideoSuite$Header" "weight" "[I") (mu mw_628)) (fun _ h9 => h9) rfl dX6_chooseWeights_323 ?_
                      refine lv_iconst (v := (0 : Int32)) hx hb dX6_chooseWeights_326 (by decide) ?_
                      refine lv_iload hx hb dX6_chooseWeights_327 (lv_at hl 4 rfl) ?_
                      refine lv_iload_n hx hb dX6_chooseWeights_329 rfl (lv_at hl 8 rfl) ?_
                      obtain ⟨y157, hy157, hF⟩ := bnd_some hF
                      have hf9 := wA_in hD hA9 hS
                      refine va_calli (va_runS (As := [.int (0 : Int32), .int x4, .int p1]) (rest := [va_re ad (M142.2 b7 3), .ref (ad a)]) ⟨hx, hb, hml, hown, hts⟩ (kX3_weightAt l D ct ad Z G M142 H.size ((0 : Int32)) x4 p1 y157 hy157) (va_cwS 3 hts gX6_chooseWeights_X3_weightAt rfl rfl rfl (by decide +kernel) ⟨Nat.le_of_ble_eq_true rfl, Nat.le_of_ble_eq_true rfl⟩) ⟨fun a U g mk q => by obtain ⟨q0, q1, qP, qK, qD, qZ, qN⟩ := q; exact ⟨q0, q1, qP, va_K.moved (u := U) (U := U.calling g mk a) (Vm.Alike.refl U.vm) qK, qD, sF.moved (u := U) (U := U.calling g mk a) (Vm.Alike.refl U.vm) qZ, nF.same rfl qN⟩, fun U hU hW => ⟨rfl, by rw [hU], by rw [hU]; exact hP, va_K.moved hW.alike hK, hD.weaken (fun _ _ _ _ => trivial), by rw [hU]; exact ((hZ.kept hS.2.1).narrow hf9).moved hW.alike, hN.warm hW⟩⟩ rfl rfl hl.1 rfl (lv_room (by simp only [List.map, va_re_cat]; exact Nat.le_of_ble_eq_true rfl)) dX6_chooseWeights_330 ⟨(Nat.zero_le _), (Nat.zero_le _)⟩) hS (fun q _ h => hf9 q h) hf9 (fun r u t H locs ht hvm hw hB hz1 hk1 hS => ?_)
                      obtain ⟨hP, hK9, hD9⟩ := hB
                      rw [ht] at hP
                      try dsimp only at hw
                      subst hw
                      have hD := hD9.weaken (fun _ q _ h => hf9 q.1 h)
                      obtain ⟨b158, ho158, hc158, hk158, hF⟩ := dr_some hF
                      refine W_st (st' := [.int y157.2, .ref (ad b158), .ref (ad a)]) (by rw [va_some ho158]) ?_
                      obtain ⟨hvc, hF⟩ := chk_some hF
                      refine va_iald hx hb hK hP b158 1 (wld_i ct ad G y157.1 hc158 hk158) rfl hvc dX6_chooseWeights_333 ?_
                      obtain ⟨x159, ex159, hF⟩ := ltt_some hF
                      refine lv_topi (fun zx159 ezx159 => ?_)
                      obtain rfl : x159 = zx159 := ex159.trans ezx159.symm
                      refine va_put (D := D) (ci := 6) (v := .int x159) (ty := .int) (C := RX6) (T := TX6) (N := 14) hx hb hts (mus hf_X6) tyX6 tyX6_ok nmX6 hown hK hP hD hS a (wld_o ct ad G y157.1 hc hk (by decide)) rfl 9 (by decide) (hts (.fieldLink RX6 155 "VideoSuite$Samples" "weight" "I") (mu mw_545)) (fun _ h9 => h9) rfl (by decide +kernel) rfl rfl (Nat.le_of_ble_eq_true rfl) dX6_chooseWeights_334 (fun H locs hP hD hS => ?_)
                      obtain ⟨M160, eM160, hF⟩ := ltt_some hF
                      rw [set_oI ct ad G y157.1 hc hk (by decide) (by rfl), ← eM160] at hP hD
                      refine lv_aload_n hx hb dX6_chooseWeights_337 rfl (lv_at hl 6 rfl) ?_
                      refine lv_aloadq_n hx hb dX6_chooseWeights_338 rfl (lv_at hl 5 rfl) ?_
                      refine W_st (st' := [.ref (ad b7), .ref (ad a)]) (by rw [va_some ho7]) ?_
                      refine va_get (D := D) (ci := 3) (v := va_re ad (M160.2 b7 3)) (C := RX3) (T := TX3) (N := 4) hx hb hts (mus hf_X3) hown hK hP b7 (wld_o ct ad G M160 hc7 hk7 (by decide)) rfl 3 (by decide) (hts (.fieldLink RX6 167 "VideoSuite$Header" "weight" "[I") (mu mw_628)) (fun _ h9 => h9) rfl dX6_chooseWeights_339 ?_
                      refine lv_iconst (v := (0 : Int32)) hx hb dX6_chooseWeights_342 (by decide) ?_
                      refine lv_iload hx hb dX6_chooseWeights_343 (lv_at hl 4 rfl) ?_
                      refine lv_iload_n hx hb dX6_chooseWeights_345 rfl (lv_at hl 8 rfl) ?_
                      obtain ⟨y161, hy161, hF⟩ := bnd_some hF
                      have hf9 := wA_in hD hA9 hS
                      refine va_calli (va_runS (As := [.int (0 : Int32), .int x4, .int p1]) (rest := [va_re ad (M160.2 b7 3), .ref (ad a)]) ⟨hx, hb, hml, hown, hts⟩ (kX3_weightAt l D ct ad Z G M160 H.size ((0 : Int32)) x4 p1 y161 hy161) (va_cwS 3 hts gX6_chooseWeights_X3_weightAt rfl rfl rfl (by decide +kernel) ⟨Nat.le_of_ble_eq_true rfl, Nat.le_of_ble_eq_true rfl⟩) ⟨fun a U g mk q => by obtain ⟨q0, q1, qP, qK, qD, qZ, qN⟩ := q; exact ⟨q0, q1, qP, va_K.moved (u := U) (U := U.calling g mk a) (Vm.Alike.refl U.vm) qK, qD, sF.moved (u := U) (U := U.calling g mk a) (Vm.Alike.refl U.vm) qZ, nF.same rfl qN⟩, fun U hU hW => ⟨rfl, by rw [hU], by rw [hU]; exact hP, va_K.moved hW.alike hK, hD.weaken (fun _ _ _ _ => trivial), by rw [hU]; exact ((hZ.kept hS.2.1).narrow hf9).moved hW.alike, hN.warm hW⟩⟩ rfl rfl hl.1 rfl (lv_room (by simp only [List.map, va_re_cat]; exact Nat.le_of_ble_eq_true rfl)) dX6_chooseWeights_346 ⟨(Nat.zero_le _), (Nat.zero_le _)⟩) hS (fun q _ h => hf9 q h) hf9 (fun r u t H locs ht hvm hw hB hz1 hk1 hS => ?_)
                      obtain ⟨hP, hK9, hD9⟩ := hB
                      rw [ht] at hP
                      try dsimp only at hw
                      subst hw
                      have hD := hD9.weaken (fun _ q _ h => hf9 q.1 h)
                      refine lv_iconst (v := (1 : Int32)) hx hb dX6_chooseWeights_349 (by decide) ?_
                      refine lv_iadd hx hb dX6_chooseWeights_350 ?_
                      obtain ⟨x162, ex162, hF⟩ := ltt_some hF
                      refine lv_topi (fun zx162 ezx162 => ?_)
                      obtain rfl : x162 = zx162 := ex162.trans ezx162.symm
                      obtain ⟨b163, ho163, hc163, hk163, hF⟩ := dr_some hF
                      refine W_st (st' := [.int x162, .ref (ad b163), .ref (ad a)]) (by rw [va_some ho163]) ?_
                      obtain ⟨hvc, hF⟩ := chk_some hF
                      refine va_iald hx hb hK hP b163 1 (wld_i ct ad G y161.1 hc163 hk163) rfl hvc dX6_chooseWeights_351 ?_
                      obtain ⟨x164, ex164, hF⟩ := ltt_some hF
                      refine lv_topi (fun zx164 ezx164 => ?_)
                      obtain rfl : x164 = zx164 := ex164.trans ezx164.symm
                      refine va_put (D := D) (ci := 6) (v := .int x164) (ty := .int) (C := RX6) (T := TX6) (N := 14) hx hb hts (mus hf_X6) tyX6 tyX6_ok nmX6 hown hK hP hD hS a (wld_o ct ad G y161.1 hc hk (by decide)) rfl 11 (by decide) (hts (.fieldLink RX6 158 "VideoSuite$Samples" "offset" "I") (mu mw_547)) (fun _ h9 => h9) rfl (by decide +kernel) rfl rfl (Nat.le_of_ble_eq_true rfl) dX6_chooseWeights_352 (fun H locs hP hD hS => ?_)
                      obtain ⟨M165, eM165, hF⟩ := ltt_some hF
                      rw [set_oI ct ad G y161.1 hc hk (by decide) (by rfl), ← eM165] at hP hD
                      obtain rfl := Option.some.inj hF
                      exact J143 _ _ _ hP hD hS (lv_sub hl [0, 1, 2, 3, 4, 5, 6, 7, 8] rfl)
                  clear hF
                  have hF := hy140
                  clear hy140
                  refine lv_if_ne (tgt := 310) hx hb dX6_chooseWeights_302 (by decide) (fun c166 => ?_) (fun c166 => ?_)
                  · rw [if_neg c166] at hF
                    refine lv_bipush (v := (23 : Int32)) hx hb dX6_chooseWeights_310 (by decide) ?_
                    obtain rfl := Option.some.inj hF
                    exact J140 _ _ _ hP hD hS (lv_sub hl [0, 1, 2, 3, 4, 5, 6, 7, 8] rfl)
                  · rw [if_pos c166] at hF
                    refine lv_bipush (v := (22 : Int32)) hx hb dX6_chooseWeights_305 (by decide) ?_
                    refine lv_goto (tgt := 312) hx hb dX6_chooseWeights_307 (by decide) ?_
                    obtain rfl := Option.some.inj hF
                    exact J140 _ _ _ hP hD hS (lv_sub hl [0, 1, 2, 3, 4, 5, 6, 7, 8] rfl)
                · rw [if_pos c139] at hF
                  refine lv_iload hx hb dX6_chooseWeights_293 (lv_at hl 0 rfl) ?_
                  obtain rfl := Option.some.inj hF
                  exact W.iret (v := y11) hx hb hr (fun t ht hW => ⟨⟨_, (), rfl, rfl, ⟨by rw [ht]; exact hP, va_K.moved hW.alike hK, hD⟩⟩, hS.F ht⟩) hS.2.2 dX6_chooseWeights_295
              · rw [if_neg c137] at hF
                refine lv_aloadq_n hx hb dX6_chooseWeights_270 rfl (lv_at hl 7 rfl) ?_
                refine W_st (st' := [.ref (ad b2)]) (by rw [va_some ho2]) ?_
                refine va_get (D := D) (ci := 9) (v := va_re ad (M.2 b2 2)) (C := RX9) (T := TX9) (N := 20) hx hb hts (mus hf_X9) hown hK hP b2 (wld_o ct ad G M hc2 hk2 (by decide)) rfl 2 (by decide) (hts (.fieldLink RX6 137 "VideoSuite$Work" "par" "[I") (mu mw_433)) (fun _ h9 => h9) rfl dX6_chooseWeights_271 ?_
                refine lv_bipush (v := (6 : Int32)) hx hb dX6_chooseWeights_274 (by decide) ?_
                refine W_st (st' := [.int (6 : Int32), .ref (ad b74)]) (by rw [va_some ho74]) ?_
                obtain ⟨hvc, hF⟩ := chk_some hF
                refine va_iald hx hb hK hP b74 1 (wld_i ct ad G M hc74 hk74) rfl hvc dX6_chooseWeights_276 ?_
                obtain ⟨x167, ex167, hF⟩ := ltt_some hF
                refine lv_topi (fun zx167 ezx167 => ?_)
                obtain rfl : x167 = zx167 := ex167.trans ezx167.symm
                refine lv_iconst (v := (1 : Int32)) hx hb dX6_chooseWeights_277 (by decide) ?_
                refine lv_icmp_eq (tgt := 296) hx hb dX6_chooseWeights_278 (by decide) (fun c168 => ?_) (fun c168 => ?_)
                · rw [if_pos c168] at hF
                  refine lv_aload_n hx hb dX6_chooseWeights_296 rfl (lv_at hl 6 rfl) ?_
                  refine lv_aloadq_n hx hb dX6_chooseWeights_297 rfl (lv_at hl 5 rfl) ?_
                  refine W_st (st' := [.ref (ad b7), .ref (ad a)]) (by rw [va_some ho7]) ?_
                  refine va_get (D := D) (ci := 3) (v := va_re ad (M.2 b7 0)) (C := RX3) (T := TX3) (N := 4) hx hb hts (mus hf_X3) hown hK hP b7 (wld_o ct ad G M hc7 hk7 (by decide)) rfl 0 (by decide) (hts (.fieldLink RX6 132 "VideoSuite$Header" "v" "[I") (mu mw_619)) (fun _ h9 => h9) rfl dX6_chooseWeights_298 ?_
                  refine lv_iload_n hx hb dX6_chooseWeights_301 rfl (lv_at hl 8 rfl) ?_
                  obtain ⟨y169, hy169, hF⟩ := bnd_some hF
                  have J169 : ∀ (H : Heap) (locs : List Loc) (ls : Array Slot), va_P D classes (wld ct ad G M) H → va_D A (wld ct ad G M) → va_S A s.heap H locs → lv_has ls 14 [(8, .int y11), (7, .int y10), (6, .int y6), (5, .int x5), (4, .int x4), (3, va_re ad (M.2 b2 1)), (0, .ref (ad a)), (1, va_re ad p0), (2, .int p1)] → W p l e (headSpec wuX6_chooseWeights ({ frames := 2, cells := 0, slots := 0, locals := 44 })).room s m ([.ref (ad a), va_re ad p0, .int p1] : List Value).toArray below meth c H locs 0 0 (MQ below (va_Qi (fun (q : Int32) (_ : Unit) => q = y.2) (fun _ t => kE D ct ad G A y.1 t) A) ([.ref (ad a), va_re ad p0, .int p1] : List Value).toArray s 0 0 A) (F0 m 312 ls [.int y169, va_re ad (M.2 b7 0), .ref (ad a)]) := by
                    intro H locs ls hP hD hS hl
                    refine W_st (st' := [.int y169, .ref (ad b8), .ref (ad a)]) (by rw [va_some ho8]) ?_
                    obtain ⟨hvc, hF⟩ := chk_some hF
                    refine va_iald hx hb hK hP b8 1 (wld_i ct ad G M hc8 hk8) rfl hvc dX6_chooseWeights_312 ?_
                    obtain ⟨x170, ex170, hF⟩ := ltt_some hF
                    refine lv_topi (fun zx170 ezx170 => ?_)
                    obtain rfl : x170 = zx170 := ex170.trans ezx170.symm
                    refine va_put (D := D) (ci := 6) (v := .int x170) (ty := .int) (C := RX6) (T := TX6) (N := 14) hx hb hts (mus hf_X6) tyX6 tyX6_ok nmX6 hown hK hP hD hS a (wld_o ct ad G M hc hk (by decide)) rfl 13 (by decide) (hts (.fieldLink RX6 164 "VideoSuite$Samples" "shift" "I") (mu mw_549)) (fun _ h9 => h9) rfl (by decide +kernel) rfl rfl (Nat.le_of_ble_eq_true rfl) dX6_chooseWeights_313 (fun H locs hP hD hS => ?_)
                    obtain ⟨M171, eM171, hF⟩ := ltt_some hF
                    rw [set_oI ct ad G M hc hk (by decide) (by rfl), ← eM171] at hP hD
                    refine lv_iload hx hb dX6_chooseWeights_316 (lv_at hl 4 rfl) ?_
                    obtain ⟨y172, hy172, hF⟩ := bnd_some hF
                    have J172 : ∀ (H : Heap) (locs : List Loc) (ls : Array Slot), va_P D classes (wld ct ad G y172) H → va_D A (wld ct ad G y172) → va_S A s.heap H locs → lv_has ls 14 [(8, .int y11), (7, .int y10), (6, .int y6), (5, .int x5), (4, .int x4), (3, va_re ad (M.2 b2 1)), (0, .ref (ad a)), (1, va_re ad p0), (2, .int p1)] → W p l e (headSpec wuX6_chooseWeights ({ frames := 2, cells := 0, slots := 0, locals := 44 })).room s m ([.ref (ad a), va_re ad p0, .int p1] : List Value).toArray below meth c H locs 0 0 (MQ below (va_Qi (fun (q : Int32) (_ : Unit) => q = y.2) (fun _ t => kE D ct ad G A y.1 t) A) ([.ref (ad a), va_re ad p0, .int p1] : List Value).toArray s 0 0 A) (F0 m 355 ls []) := by
                      intro H locs ls hP hD hS hl
                      refine lv_iload hx hb dX6_chooseWeights_355 (lv_at hl 3 rfl) ?_
                      obtain ⟨y173, hy173, hF⟩ := bnd_some hF
                      have J173 : ∀ (H : Heap) (locs : List Loc) (ls : Array Slot), va_P D classes (wld ct ad G y173) H → va_D A (wld ct ad G y173) → va_S A s.heap H locs → lv_has ls 14 [(8, .int y11), (7, .int y10), (6, .int y6), (5, .int x5), (4, .int x4), (3, va_re ad (M.2 b2 1)), (0, .ref (ad a)), (1, va_re ad p0), (2, .int p1)] → W p l e (headSpec wuX6_chooseWeights ({ frames := 2, cells := 0, slots := 0, locals := 44 })).room s m ([.ref (ad a), va_re ad p0, .int p1] : List Value).toArray below meth c H locs 0 0 (MQ below (va_Qi (fun (q : Int32) (_ : Unit) => q = y.2) (fun _ t => kE D ct ad G A y.1 t) A) ([.ref (ad a), va_re ad p0, .int p1] : List Value).toArray s 0 0 A) (F0 m 394 ls []) := by
                        intro H locs ls hP hD hS hl
                        refine lv_iload hx hb dX6_chooseWeights_394 (lv_at hl 0 rfl) ?_
                        refine lv_iconst (v := (3 : Int32)) hx hb dX6_chooseWeights_396 (by decide) ?_
                        refine lv_iadd hx hb dX6_chooseWeights_397 ?_
                        obtain ⟨x174, ex174, hF⟩ := ltt_some hF
                        refine lv_topi (fun zx174 ezx174 => ?_)
                        obtain rfl : x174 = zx174 := ex174.trans ezx174.symm
                        obtain rfl := Option.some.inj hF
                        exact W.iret (v := x174) hx hb hr (fun t ht hW => ⟨⟨_, (), rfl, rfl, ⟨by rw [ht]; exact hP, va_K.moved hW.alike hK, hD⟩⟩, hS.F ht⟩) hS.2.2 dX6_chooseWeights_398
                      clear hF
                      have hF := hy173
                      clear hy173
                      refine lv_if_lt (tgt := 394) hx hb dX6_chooseWeights_357 (by decide) (fun c175 => ?_) (fun c175 => ?_)
                      · rw [if_pos c175] at hF
                        obtain rfl := Option.some.inj hF
                        exact J173 _ _ _ hP hD hS (lv_sub hl [0, 1, 2, 3, 4, 5, 6, 7, 8] rfl)
                      · rw [if_neg c175] at hF
                        refine lv_aload_n hx hb dX6_chooseWeights_360 rfl (lv_at hl 6 rfl) ?_
                        refine lv_aloadq_n hx hb dX6_chooseWeights_361 rfl (lv_at hl 5 rfl) ?_
                        refine W_st (st' := [.ref (ad b7), .ref (ad a)]) (by rw [va_some ho7]) ?_
                        refine va_get (D := D) (ci := 3) (v := va_re ad (y172.2 b7 3)) (C := RX3) (T := TX3) (N := 4) hx hb hts (mus hf_X3) hown hK hP b7 (wld_o ct ad G y172 hc7 hk7 (by decide)) rfl 3 (by decide) (hts (.fieldLink RX6 167 "VideoSuite$Header" "weight" "[I") (mu mw_628)) (fun _ h9 => h9) rfl dX6_chooseWeights_362 ?_
                        refine lv_iconst (v := (1 : Int32)) hx hb dX6_chooseWeights_365 (by decide) ?_
                        refine lv_iload hx hb dX6_chooseWeights_366 (lv_at hl 3 rfl) ?_
                        refine lv_iload_n hx hb dX6_chooseWeights_368 rfl (lv_at hl 8 rfl) ?_
                        obtain ⟨y176, hy176, hF⟩ := bnd_some hF
                        have hf9 := wA_in hD hA9 hS
                        refine va_calli (va_runS (As := [.int (1 : Int32), .int x5, .int p1]) (rest := [va_re ad (y172.2 b7 3), .ref (ad a)]) ⟨hx, hb, hml, hown, hts⟩ (kX3_weightAt l D ct ad Z G y172 H.size ((1 : Int32)) x5 p1 y176 hy176) (va_cwS 3 hts gX6_chooseWeights_X3_weightAt rfl rfl rfl (by decide +kernel) ⟨Nat.le_of_ble_eq_true rfl, Nat.le_of_ble_eq_true rfl⟩) ⟨fun a U g mk q => by obtain ⟨q0, q1, qP, qK, qD, qZ, qN⟩ := q; exact ⟨q0, q1, qP, va_K.moved (u := U) (U := U.calling g mk a) (Vm.Alike.refl U.vm) qK, qD, sF.moved (u := U) (U := U.calling g mk a) (Vm.Alike.refl U.vm) qZ, nF.same rfl qN⟩, fun U hU hW => ⟨rfl, by rw [hU], by rw [hU]; exact hP, va_K.moved hW.alike hK, hD.weaken (fun _ _ _ _ => trivial), by rw [hU]; exact ((hZ.kept hS.2.1).narrow hf9).moved hW.alike, hN.warm hW⟩⟩ rfl rfl hl.1 rfl (lv_room (by simp only [List.map, va_re_cat]; exact Nat.le_of_ble_eq_true rfl)) dX6_chooseWeights_369 ⟨(Nat.zero_le _), (Nat.zero_le _)⟩) hS (fun q _ h => hf9 q h) hf9 (fun r u t H locs ht hvm hw hB hz1 hk1 hS => ?_)
                        obtain ⟨hP, hK9, hD9⟩ := hB
                        rw [ht] at hP
                        try dsimp only at hw
                        subst hw
                        have hD := hD9.weaken (fun _ q _ h => hf9 q.1 h)
                        obtain ⟨b177, ho177, hc177, hk177, hF⟩ := dr_some hF
                        refine W_st (st' := [.int y176.2, .ref (ad b177), .ref (ad a)]) (by rw [va_some ho177]) ?_
                        obtain ⟨hvc, hF⟩ := chk_some hF
                        refine va_iald hx hb hK hP b177 1 (wld_i ct ad G y176.1 hc177 hk177) rfl hvc dX6_chooseWeights_372 ?_
                        obtain ⟨x178, ex178, hF⟩ := ltt_some hF
                        refine lv_topi (fun zx178 ezx178 => ?_)
                        obtain rfl : x178 = zx178 := ex178.trans ezx178.symm
                        refine va_put (D := D) (ci := 6) (v := .int x178) (ty := .int) (C := RX6) (T := TX6) (N := 14) hx hb hts (mus hf_X6) tyX6 tyX6_ok nmX6 hown hK hP hD hS a (wld_o ct ad G y176.1 hc hk (by decide)) rfl 10 (by decide) (hts (.fieldLink RX6 152 "VideoSuite$Samples" "otherWeight" "I") (mu mw_546)) (fun _ h9 => h9) rfl (by decide +kernel) rfl rfl (Nat.le_of_ble_eq_true rfl) dX6_chooseWeights_373 (fun H locs hP hD hS => ?_)
                        obtain ⟨M179, eM179, hF⟩ := ltt_some hF
                        rw [set_oI ct ad G y176.1 hc hk (by decide) (by rfl), ← eM179] at hP hD
                        refine lv_aload_n hx hb dX6_chooseWeights_376 rfl (lv_at hl 6 rfl) ?_
                        refine lv_aloadq_n hx hb dX6_chooseWeights_377 rfl (lv_at hl 5 rfl) ?_
                        refine W_st (st' := [.ref (ad b7), .ref (ad a)]) (by rw [va_some ho7]) ?_
                        refine va_get (D := D) (ci := 3) (v := va_re ad (M179.2 b7 3)) (C := RX3) (T := TX3) (N := 4) hx hb hts (mus hf_X3) hown hK hP b7 (wld_o ct ad G M179 hc7 hk7 (by decide)) rfl 3 (by decide) (hts (.fieldLink RX6 167 "VideoSuite$Header" "weight" "[I") (mu mw_628)) (fun _ h9 => h9) rfl dX6_chooseWeights_378 ?_
                        refine lv_iconst (v := (1 : Int32)) hx hb dX6_chooseWeights_381 (by decide) ?_
                        refine lv_iload hx hb dX6_chooseWeights_382 (lv_at hl 3 rfl) ?_
                        refine lv_iload_n hx hb dX6_chooseWeights_384 rfl (lv_at hl 8 rfl) ?_
                        obtain ⟨y180, hy180, hF⟩ := bnd_some hF
                        have hf9 := wA_in hD hA9 hS
                        refine va_calli (va_runS (As := [.int (1 : Int32), .int x5, .int p1]) (rest := [va_re ad (M179.2 b7 3), .ref (ad a)]) ⟨hx, hb, hml, hown, hts⟩ (kX3_weightAt l D ct ad Z G M179 H.size ((1 : Int32)) x5 p1 y180 hy180) (va_cwS 3 hts gX6_chooseWeights_X3_weightAt rfl rfl rfl (by decide +kernel) ⟨Nat.le_of_ble_eq_true rfl, Nat.le_of_ble_eq_true rfl⟩) ⟨fun a U g mk q => by obtain ⟨q0, q1, qP, qK, qD, qZ, qN⟩ := q; exact ⟨q0, q1, qP, va_K.moved (u := U) (U := U.calling g mk a) (Vm.Alike.refl U.vm) qK, qD, sF.moved (u := U) (U := U.calling g mk a) (Vm.Alike.refl U.vm) qZ, nF.same rfl qN⟩, fun U hU hW => ⟨rfl, by rw [hU], by rw [hU]; exact hP, va_K.moved hW.alike hK, hD.weaken (fun _ _ _ _ => trivial), by rw [hU]; exact ((hZ.kept hS.2.1).narrow hf9).moved hW.alike, hN.warm hW⟩⟩ rfl rfl hl.1 rfl (lv_room (by simp only [List.map, va_re_cat]; exact Nat.le_of_ble_eq_true rfl)) dX6_chooseWeights_385 ⟨(Nat.zero_le _), (Nat.zero_le _)⟩) hS (fun q _ h => hf9 q h) hf9 (fun r u t H locs ht hvm hw hB hz1 hk1 hS => ?_)
                        obtain ⟨hP, hK9, hD9⟩ := hB
                        rw [ht] at hP
                        try dsimp only at hw
                        subst hw
                        have hD := hD9.weaken (fun _ q _ h => hf9 q.1 h)
                        refine lv_iconst (v := (1 : Int32)) hx hb dX6_chooseWeights_388 (by decide) ?_
                        refine lv_iadd hx hb dX6_chooseWeights_389 ?_
                        obtain ⟨x181, ex181, hF⟩ := ltt_some hF
                        refine lv_topi (fun zx181 ezx181 => ?_)
                        obtain rfl : x181 = zx181 := ex181.trans ezx181.symm
                        obtain ⟨b182, ho182, hc182, hk182, hF⟩ := dr_some hF
                        refine W_st (st' := [.int x181, .ref (ad b182), .ref (ad a)]) (by rw [va_some ho182]) ?_
                        obtain ⟨hvc, hF⟩ := chk_some hF
                        refine va_iald hx hb hK hP b182 1 (wld_i ct ad G y180.1 hc182 hk182) rfl hvc dX6_chooseWeights_390 ?_
                        obtain ⟨x183, ex183, hF⟩ := ltt_some hF
                        refine lv_topi (fun zx183 ezx183 => ?_)
                        obtain rfl : x183 = zx183 := ex183.trans ezx183.symm
                        refine va_put (D := D) (ci := 6) (v := .int x183) (ty := .int) (C := RX6) (T := TX6) (N := 14) hx hb hts (mus hf_X6) tyX6 tyX6_ok nmX6 hown hK hP hD hS a (wld_o ct ad G y180.1 hc hk (by decide)) rfl 12 (by decide) (hts (.fieldLink RX6 161 "VideoSuite$Samples" "otherOffset" "I") (mu mw_548)) (fun _ h9 => h9) rfl (by decide +kernel) rfl rfl (Nat.le_of_ble_eq_true rfl) dX6_chooseWeights_391 (fun H locs hP hD hS => ?_)
                        obtain ⟨M184, eM184, hF⟩ := ltt_some hF
                        rw [set_oI ct ad G y180.1 hc hk (by decide) (by rfl), ← eM184] at hP hD
                        obtain rfl := Option.some.inj hF
                        exact J173 _ _ _ hP hD hS (lv_sub hl [0, 1, 2, 3, 4, 5, 6, 7, 8] rfl)
                    clear hF
                    have hF := hy172
                    clear hy172
                    refine lv_if_lt (tgt := 355) hx hb dX6_chooseWeights_318 (by decide) (fun c185 => ?_) (fun c185 => ?_)
                    · rw [if_pos c185] at hF
                      obtain rfl := Option.some.inj hF
                      exact J172 _ _ _ hP hD hS (lv_sub hl [0, 1, 2, 3, 4, 5, 6, 7, 8] rfl)
                    · rw [if_neg c185] at hF
                      refine lv_aload_n hx hb dX6_chooseWeights_321 rfl (lv_at hl 6 rfl) ?_
                      refine lv_aloadq_n hx hb dX6_chooseWeights_322 rfl (lv_at hl 5 rfl) ?_
                      refine W_st (st' := [.ref (ad b7), .ref (ad a)]) (by rw [va_some ho7]) ?_
                      refine va_get (D := D) (ci := 3) (v := va_re ad (M171.2 b7 3)) (C := RX3) (T := TX3) (N := 4) hx hb hts (mus hf_X3) hown hK hP b7 (wld_o ct ad G M171 hc7 hk7 (by decide)) rfl 3 (by decide) (hts (.fieldLink RX6 167 "VideoSuite$Header" "weight" "[I") (mu mw_628)) (fun _ h9 => h9) rfl dX6_chooseWeights_323 ?_
                      refine lv_iconst (v := (0 : Int32)) hx hb dX6_chooseWeights_326 (by decide) ?_
                      refine lv_iload hx hb dX6_chooseWeights_327 (lv_at hl 4 rfl) ?_
                      refine lv_iload_n hx hb dX6_chooseWeights_329 rfl (lv_at hl 8 rfl) ?_
                      obtain ⟨y186, hy186, hF⟩ := bnd_some hF
                      have hf9 := wA_in hD hA9 hS
                      refine va_calli (va_runS (As := [.int (0 : Int32), .int x4, .int p1]) (rest := [va_re ad (M171.2 b7 3), .ref (ad a)]) ⟨hx, hb, hml, hown, hts⟩ (kX3_weightAt l D ct ad Z G M171 H.size ((0 : Int32)) x4 p1 y186 hy186) (va_cwS 3 hts gX6_chooseWeights_X3_weightAt rfl rfl rfl (by decide +kernel) ⟨Nat.le_of_ble_eq_true rfl, Nat.le_of_ble_eq_true rfl⟩) ⟨fun a U g mk q => by obtain ⟨q0, q1, qP, qK, qD, qZ, qN⟩ := q; exact ⟨q0, q1, qP, va_K.moved (u := U) (U := U.calling g mk a) (Vm.Alike.refl U.vm) qK, qD, sF.moved (u := U) (U := U.calling g mk a) (Vm.Alike.refl U.vm) qZ, nF.same rfl qN⟩, fun U hU hW => ⟨rfl, by rw [hU], by rw [hU]; exact hP, va_K.moved hW.alike hK, hD.weaken (fun _ _ _ _ => trivial), by rw [hU]; exact ((hZ.kept hS.2.1).narrow hf9).moved hW.alike, hN.warm hW⟩⟩ rfl rfl hl.1 rfl (lv_room (by simp only [List.map, va_re_cat]; exact Nat.le_of_ble_eq_true rfl)) dX6_chooseWeights_330 ⟨(Nat.zero_le _), (Nat.zero_le _)⟩) hS (fun q _ h => hf9 q h) hf9 (fun r u t H locs ht hvm hw hB hz1 hk1 hS => ?_)
                      obtain ⟨hP, hK9, hD9⟩ := hB
                      rw [ht] at hP
                      try dsimp only at hw
                      subst hw
                      have hD := hD9.weaken (fun _ q _ h => hf9 q.1 h)
                      obtain ⟨b187, ho187, hc187, hk187, hF⟩ := dr_some hF
                      refine W_st (st' := [.int y186.2, .ref (ad b187), .ref (ad a)]) (by rw [va_some ho187]) ?_
                      obtain ⟨hvc, hF⟩ := chk_some hF
                      refine va_iald hx hb hK hP b187 1 (wld_i ct ad G y186.1 hc187 hk187) rfl hvc dX6_chooseWeights_333 ?_
                      obtain ⟨x188, ex188, hF⟩ := ltt_some hF
                      refine lv_topi (fun zx188 ezx188 => ?_)
                      obtain rfl : x188 = zx188 := ex188.trans ezx188.symm
                      refine va_put (D := D) (ci := 6) (v := .int x188) (ty := .int) (C := RX6) (T := TX6) (N := 14) hx hb hts (mus hf_X6) tyX6 tyX6_ok nmX6 hown hK hP hD hS a (wld_o ct ad G y186.1 hc hk (by decide)) rfl 9 (by decide) (hts (.fieldLink RX6 155 "VideoSuite$Samples" "weight" "I") (mu mw_545)) (fun _ h9 => h9) rfl (by decide +kernel) rfl rfl (Nat.le_of_ble_eq_true rfl) dX6_chooseWeights_334 (fun H locs hP hD hS => ?_)
                      obtain ⟨M189, eM189, hF⟩ := ltt_some hF
                      rw [set_oI ct ad G y186.1 hc hk (by decide) (by rfl), ← eM189] at hP hD
                      refine lv_aload_n hx hb dX6_chooseWeights_337 rfl (lv_at hl 6 rfl) ?_
                      refine lv_aloadq_n hx hb dX6_chooseWeights_338 rfl (lv_at hl 5 rfl) ?_
                      refine W_st (st' := [.ref (ad b7), .ref (ad a)]) (by rw [va_some ho7]) ?_
                      refine va_get (D := D) (ci := 3) (v := va_re ad (M189.2 b7 3)) (C := RX3) (T := TX3) (N := 4) hx hb hts (mus hf_X3) hown hK hP b7 (wld_o ct ad G M189 hc7 hk7 (by decide)) rfl 3 (by decide) (hts (.fieldLink RX6 167 "VideoSuite$Header" "weight" "[I") (mu mw_628)) (fun _ h9 => h9) rfl dX6_chooseWeights_339 ?_
                      refine lv_iconst (v := (0 : Int32)) hx hb dX6_chooseWeights_342 (by decide) ?_
                      refine lv_iload hx hb dX6_chooseWeights_343 (lv_at hl 4 rfl) ?_
                      refine lv_iload_n hx hb dX6_chooseWeights_345 rfl (lv_at hl 8 rfl) ?_
                      obtain ⟨y190, hy190, hF⟩ := bnd_some hF
                      have hf9 := wA_in hD hA9 hS
                      refine va_calli (va_runS (As := [.int (0 : Int32), .int x4, .int p1]) (rest := [va_re ad (M189.2 b7 3), .ref (ad a)]) ⟨hx, hb, hml, hown, hts⟩ (kX3_weightAt l D ct ad Z G M189 H.size ((0 : Int32)) x4 p1 y190 hy190) (va_cwS 3 hts gX6_chooseWeights_X3_weightAt rfl rfl rfl (by decide +kernel) ⟨Nat.le_of_ble_eq_true rfl, Nat.le_of_ble_eq_true rfl⟩) ⟨fun a U g mk q => by obtain ⟨q0, q1, qP, qK, qD, qZ, qN⟩ := q; exact ⟨q0, q1, qP, va_K.moved (u := U) (U := U.calling g mk a) (Vm.Alike.refl U.vm) qK, qD, sF.moved (u := U) (U := U.calling g mk a) (Vm.Alike.refl U.vm) qZ, nF.same rfl qN⟩, fun U hU hW => ⟨rfl, by rw [hU], by rw [hU]; exact hP, va_K.moved hW.alike hK, hD.weaken (fun _ _ _ _ => trivial), by rw [hU]; exact ((hZ.kept hS.2.1).narrow hf9).moved hW.alike, hN.warm hW⟩⟩ rfl rfl hl.1 rfl (lv_room (by simp only [List.map, va_re_cat]; exact Nat.le_of_ble_eq_true rfl)) dX6_chooseWeights_346 ⟨(Nat.zero_le _), (Nat.zero_le _)⟩) hS (fun q _ h => hf9 q h) hf9 (fun r u t H locs ht hvm hw hB hz1 hk1 hS => ?_)
                      obtain ⟨hP, hK9, hD9⟩ := hB
                      rw [ht] at hP
                      try dsimp only at hw
                      subst hw
                      have hD := hD9.weaken (fun _ q _ h => hf9 q.1 h)
                      refine lv_iconst (v := (1 : Int32)) hx hb dX6_chooseWeights_349 (by decide) ?_
                      refine lv_iadd hx hb dX6_chooseWeights_350 ?_
                      obtain ⟨x191, ex191, hF⟩ := ltt_some hF
                      refine lv_topi (fun zx191 ezx191 => ?_)
                      obtain rfl : x191 = zx191 := ex191.trans ezx191.symm
                      obtain ⟨b192, ho192, hc192, hk192, hF⟩ := dr_some hF
                      refine W_st (st' := [.int x191, .ref (ad b192), .ref (ad a)]) (by rw [va_some ho192]) ?_
                      obtain ⟨hvc, hF⟩ := chk_some hF
                      refine va_iald hx hb hK hP b192 1 (wld_i ct ad G y190.1 hc192 hk192) rfl hvc dX6_chooseWeights_351 ?_
                      obtain ⟨x193, ex193, hF⟩ := ltt_some hF
                      refine lv_topi (fun zx193 ezx193 => ?_)
                      obtain rfl : x193 = zx193 := ex193.trans ezx193.symm
                      refine va_put (D := D) (ci := 6) (v := .int x193) (ty := .int) (C := RX6) (T := TX6) (N := 14) hx hb hts (mus hf_X6) tyX6 tyX6_ok nmX6 hown hK hP hD hS a (wld_o ct ad G y190.1 hc hk (by decide)) rfl 11 (by decide) (hts (.fieldLink RX6 158 "VideoSuite$Samples" "offset" "I") (mu mw_547)) (fun _ h9 => h9) rfl (by decide +kernel) rfl rfl (Nat.le_of_ble_eq_true rfl) dX6_chooseWeights_352 (fun H locs hP hD hS => ?_)
                      obtain ⟨M194, eM194, hF⟩ := ltt_some hF
                      rw [set_oI ct ad G y190.1 hc hk (by decide) (by rfl), ← eM194] at hP hD
                      obtain rfl := Option.some.inj hF
                      exact J172 _ _ _ hP hD hS (lv_sub hl [0, 1, 2, 3, 4, 5, 6, 7, 8] rfl)
                  clear hF
                  have hF := hy169
                  clear hy169
                  refine lv_if_ne (tgt := 310) hx hb dX6_chooseWeights_302 (by decide) (fun c195 => ?_) (fun c195 => ?_)
                  · rw [if_neg c195] at hF
                    refine lv_bipush (v := (23 : Int32)) hx hb dX6_chooseWeights_310 (by decide) ?_
                    obtain rfl := Option.some.inj hF
                    exact J169 _ _ _ hP hD hS (lv_sub hl [0, 1, 2, 3, 4, 5, 6, 7, 8] rfl)
                  · rw [if_pos c195] at hF
                    refine lv_bipush (v := (22 : Int32)) hx hb dX6_chooseWeights_305 (by decide) ?_
                    refine lv_goto (tgt := 312) hx hb dX6_chooseWeights_307 (by decide) ?_
                    obtain rfl := Option.some.inj hF
                    exact J169 _ _ _ hP hD hS (lv_sub hl [0, 1, 2, 3, 4, 5, 6, 7, 8] rfl)
                · rw [if_neg c168] at hF
                  refine lv_goto (tgt := 293) hx hb dX6_chooseWeights_281 (by decide) ?_
                  refine lv_iload hx hb dX6_chooseWeights_293 (lv_at hl 0 rfl) ?_
                  obtain rfl := Option.some.inj hF
                  exact W.iret (v := y11) hx hb hr (fun t ht hW => ⟨⟨_, (), rfl, rfl, ⟨by rw [ht]; exact hP, va_K.moved hW.alike hK, hD⟩⟩, hS.F ht⟩) hS.2.2 dX6_chooseWeights_295
            · rw [if_neg c136] at hF
              refine lv_aloadq_n hx hb dX6_chooseWeights_97 rfl (lv_at hl 7 rfl) ?_
              refine W_st (st' := [.ref (ad b2)]) (by rw [va_some ho2]) ?_
              refine va_get (D := D) (ci := 9) (v := va_re ad (M.2 b2 3)) (C := RX9) (T := TX9) (N := 20) hx hb hts (mus hf_X9) hown hK hP b2 (wld_o ct ad G M hc2 hk2 (by decide)) rfl 3 (by decide) (hts (.fieldLink RX6 87 "VideoSuite$Work" "lists" "[LVideoSuite$Picture;") (mu mw_436)) (fun _ h9 => h9) rfl dX6_chooseWeights_98 ?_
              refine lv_iload hx hb dX6_chooseWeights_101 (lv_at hl 4 rfl) ?_
              obtain ⟨b196, ho196, hc196, hk196, hF⟩ := dr_some hF
              refine W_st (st' := [.int x4, .ref (ad b196)]) (by rw [va_some ho196]) ?_
              obtain ⟨hvc, hF⟩ := chk_some hF
              refine ld_q hx hb hK hP hc196 hk196 hvc dX6_chooseWeights_103 ?_
              refine lv_astoreq (lv' := [(9, va_re ad (M.2 b196 x4.toNatClampNeg)), (8, .int y11), (7, .int y10), (6, .int y6), (5, .int x5), (4, .int x4), (3, va_re ad (M.2 b2 1)), (0, .ref (ad a)), (1, va_re ad p0), (2, .int p1)]) hx hb dX6_chooseWeights_104 hl (by decide) rfl (fun ls hl => ?_)
              refine lv_aloadq_n hx hb dX6_chooseWeights_106 rfl (lv_at hl 8 rfl) ?_
              refine W_st (st' := [.ref (ad b2)]) (by rw [va_some ho2]) ?_
              refine va_get (D := D) (ci := 9) (v := va_re ad (M.2 b2 3)) (C := RX9) (T := TX9) (N := 20) hx hb hts (mus hf_X9) hown hK hP b2 (wld_o ct ad G M hc2 hk2 (by decide)) rfl 3 (by decide) (hts (.fieldLink RX6 87 "VideoSuite$Work" "lists" "[LVideoSuite$Picture;") (mu mw_436)) (fun _ h9 => h9) rfl dX6_chooseWeights_107 ?_
              refine lv_bipush (v := (9 : Int32)) hx hb dX6_chooseWeights_110 (by decide) ?_
              refine lv_iload hx hb dX6_chooseWeights_112 (lv_at hl 4 rfl) ?_
              refine lv_iadd hx hb dX6_chooseWeights_114 ?_
              obtain ⟨x197, ex197, hF⟩ := ltt_some hF
              refine lv_topi (fun zx197 ezx197 => ?_)
              obtain rfl : x197 = zx197 := ex197.trans ezx197.symm
              refine W_st (st' := [.int x197, .ref (ad b196)]) (by rw [va_some ho196]) ?_
              obtain ⟨hvc, hF⟩ := chk_some hF
              refine ld_q hx hb hK hP hc196 hk196 hvc dX6_chooseWeights_115 ?_
              refine lv_astoreq (lv' := [(10, va_re ad (M.2 b196 x197.toNatClampNeg)), (9, va_re ad (M.2 b196 x4.toNatClampNeg)), (8, .int y11), (7, .int y10), (6, .int y6), (5, .int x5), (4, .int x4), (3, va_re ad (M.2 b2 1)), (0, .ref (ad a)), (1, va_re ad p0), (2, .int p1)]) hx hb dX6_chooseWeights_116 hl (by decide) (by generalize ((M.2 b196 x4.toNatClampNeg)) = o9; cases o9 <;> rfl) (fun ls hl => ?_)
              refine lv_aloadq hx hb dX6_chooseWeights_118 (lv_at hl 1 rfl) ?_
              obtain ⟨y198, hy198, hF⟩ := bnd_some hF
              have J198 : ∀ (H : Heap) (locs : List Loc) (ls : Array Slot), va_P D classes (wld ct ad G y198.2) H → va_D A (wld ct ad G y198.2) → va_S A s.heap H locs → lv_has ls 14 [(10, va_re ad (M.2 b196 x197.toNatClampNeg)), (9, va_re ad (M.2 b196 x4.toNatClampNeg)), (8, .int y11), (7, .int y10), (6, .int y6), (5, .int x5), (4, .int x4), (3, va_re ad (M.2 b2 1)), (0, .ref (ad a)), (1, va_re ad p0), (2, .int p1)] → W p l e (headSpec wuX6_chooseWeights ({ frames := 2, cells := 0, slots := 0, locals := 44 })).room s m ([.ref (ad a), va_re ad p0, .int p1] : List Value).toArray below meth c H locs 0 0 (MQ below (va_Qi (fun (q : Int32) (_ : Unit) => q = y.2) (fun _ t => kE D ct ad G A y.1 t) A) ([.ref (ad a), va_re ad p0, .int p1] : List Value).toArray s 0 0 A) (F0 m 145 ls [.int y198.1]) := by
                intro H locs ls hP hD hS hl
                refine lv_istore (lv' := [(11, .int y198.1), (10, va_re ad (M.2 b196 x197.toNatClampNeg)), (9, va_re ad (M.2 b196 x4.toNatClampNeg)), (8, .int y11), (7, .int y10), (6, .int y6), (5, .int x5), (4, .int x4), (3, va_re ad (M.2 b2 1)), (0, .ref (ad a)), (1, va_re ad p0), (2, .int p1)]) hx hb dX6_chooseWeights_145 hl (by decide) (by generalize ((M.2 b196 x197.toNatClampNeg)) = o9; cases o9 <;> rfl) (fun ls hl => ?_)
                refine lv_iload hx hb dX6_chooseWeights_147 (lv_at hl 0 rfl) ?_
                obtain ⟨y199, hy199, hF⟩ := bnd_some hF
                have J199 : ∀ (H : Heap) (locs : List Loc) (ls : Array Slot), va_P D classes (wld ct ad G y198.2) H → va_D A (wld ct ad G y198.2) → va_S A s.heap H locs → lv_has ls 14 [(11, .int y198.1), (10, va_re ad (M.2 b196 x197.toNatClampNeg)), (9, va_re ad (M.2 b196 x4.toNatClampNeg)), (8, .int y11), (7, .int y10), (6, .int y6), (5, .int x5), (4, .int x4), (3, va_re ad (M.2 b2 1)), (0, .ref (ad a)), (1, va_re ad p0), (2, .int p1)] → W p l e (headSpec wuX6_chooseWeights ({ frames := 2, cells := 0, slots := 0, locals := 44 })).room s m ([.ref (ad a), va_re ad p0, .int p1] : List Value).toArray below meth c H locs 0 0 (MQ below (va_Qi (fun (q : Int32) (_ : Unit) => q = y.2) (fun _ t => kE D ct ad G A y.1 t) A) ([.ref (ad a), va_re ad p0, .int p1] : List Value).toArray s 0 0 A) (F0 m 175 ls [.int y199]) := by
                  intro H locs ls hP hD hS hl
                  refine lv_istore (lv' := [(12, .int y199), (11, .int y198.1), (10, va_re ad (M.2 b196 x197.toNatClampNeg)), (9, va_re ad (M.2 b196 x4.toNatClampNeg)), (8, .int y11), (7, .int y10), (6, .int y6), (5, .int x5), (4, .int x4), (3, va_re ad (M.2 b2 1)), (0, .ref (ad a)), (1, va_re ad p0), (2, .int p1)]) hx hb dX6_chooseWeights_175 hl (by decide) rfl (fun ls hl => ?_)
                  refine lv_iload hx hb dX6_chooseWeights_177 (lv_at hl 0 rfl) ?_
                  obtain ⟨y200, hy200, hF⟩ := bnd_some hF
                  have J200 : ∀ (H : Heap) (locs : List Loc) (ls : Array Slot), va_P D classes (wld ct ad G y200.2) H → va_D A (wld ct ad G y200.2) → va_S A s.heap H locs → lv_has ls 14 [(12, .int y199), (11, .int y198.1), (10, va_re ad (M.2 b196 x197.toNatClampNeg)), (9, va_re ad (M.2 b196 x4.toNatClampNeg)), (8, .int y11), (7, .int y10), (6, .int y6), (5, .int x5), (4, .int x4), (3, va_re ad (M.2 b2 1)), (0, .ref (ad a)), (1, va_re ad p0), (2, .int p1)] → W p l e (headSpec wuX6_chooseWeights ({ frames := 2, cells := 0, slots := 0, locals := 44 })).room s m ([.ref (ad a), va_re ad p0, .int p1] : List Value).toArray below meth c H locs 0 0 (MQ below (va_Qi (fun (q : Int32) (_ : Unit) => q = y.2) (fun _ t => kE D ct ad G A y.1 t) A) ([.ref (ad a), va_re ad p0, .int p1] : List Value).toArray s 0 0 A) (F0 m 209 ls [.int y200.1]) := by
                    intro H locs ls hP hD hS hl
                    refine lv_istore (lv' := [(13, .int y200.1), (12, .int y199), (11, .int y198.1), (10, va_re ad (M.2 b196 x197.toNatClampNeg)), (9, va_re ad (M.2 b196 x4.toNatClampNeg)), (8, .int y11), (7, .int y10), (6, .int y6), (5, .int x5), (4, .int x4), (3, va_re ad (M.2 b2 1)), (0, .ref (ad a)), (1, va_re ad p0), (2, .int p1)]) hx hb dX6_chooseWeights_209 hl (by decide) rfl (fun ls hl => ?_)
                    refine lv_aload_n hx hb dX6_chooseWeights_211 rfl (lv_at hl 11 rfl) ?_
                    refine lv_iload hx hb dX6_chooseWeights_212 (lv_at hl 0 rfl) ?_
                    refine lv_bipush (v := (-64 : Int32)) hx hb dX6_chooseWeights_214 (by decide) ?_
                    obtain ⟨y201, hy201, hF⟩ := bnd_some hF
                    have J201 : ∀ (H : Heap) (locs : List Loc) (ls : Array Slot), va_P D classes (wld ct ad G y200.2) H → va_D A (wld ct ad G y200.2) → va_S A s.heap H locs → lv_has ls 14 [(13, .int y200.1), (12, .int y199), (11, .int y198.1), (10, va_re ad (M.2 b196 x197.toNatClampNeg)), (9, va_re ad (M.2 b196 x4.toNatClampNeg)), (8, .int y11), (7, .int y10), (6, .int y6), (5, .int x5), (4, .int x4), (3, va_re ad (M.2 b2 1)), (0, .ref (ad a)), (1, va_re ad p0), (2, .int p1)] → W p l e (headSpec wuX6_chooseWeights ({ frames := 2, cells := 0, slots := 0, locals := 44 })).room s m ([.ref (ad a), va_re ad p0, .int p1] : List Value).toArray below meth c H locs 0 0 (MQ below (va_Qi (fun (q : Int32) (_ : Unit) => q = y.2) (fun _ t => kE D ct ad G A y.1 t) A) ([.ref (ad a), va_re ad p0, .int p1] : List Value).toArray s 0 0 A) (F0 m 234 ls [.int y201, .ref (ad a)]) := by
                      intro H locs ls hP hD hS hl
                      refine va_put (D := D) (ci := 6) (v := .int y201) (ty := .int) (C := RX6) (T := TX6) (N := 14) hx hb hts (mus hf_X6) tyX6 tyX6_ok nmX6 hown hK hP hD hS a (wld_o ct ad G y200.2 hc hk (by decide)) rfl 10 (by decide) (hts (.fieldLink RX6 152 "VideoSuite$Samples" "otherWeight" "I") (mu mw_546)) (fun _ h9 => h9) rfl (by decide +kernel) rfl rfl (Nat.le_of_ble_eq_true rfl) dX6_chooseWeights_234 (fun H locs hP hD hS => ?_)
                      obtain ⟨M202, eM202, hF⟩ := ltt_some hF
                      rw [set_oI ct ad G y200.2 hc hk (by decide) (by rfl), ← eM202] at hP hD
                      refine lv_aload_n hx hb dX6_chooseWeights_237 rfl (lv_at hl 11 rfl) ?_
                      refine lv_bipush (v := (64 : Int32)) hx hb dX6_chooseWeights_238 (by decide) ?_
                      refine lv_aload_n hx hb dX6_chooseWeights_240 rfl (lv_at hl 11 rfl) ?_
                      refine va_get (D := D) (ci := 6) (v := .int (M202.1 a 10)) (C := RX6) (T := TX6) (N := 14) hx hb hts (mus hf_X6) hown hK hP a (wld_o ct ad G M202 hc hk (by decide)) rfl 10 (by decide) (hts (.fieldLink RX6 152 "VideoSuite$Samples" "otherWeight" "I") (mu mw_546)) (fun _ h9 => h9) rfl dX6_chooseWeights_241 ?_
                      obtain ⟨x203, ex203, hF⟩ := ltt_some hF
                      refine lv_topi (fun zx203 ezx203 => ?_)
                      obtain rfl : x203 = zx203 := ex203.trans ezx203.symm
                      refine lv_isub hx hb dX6_chooseWeights_244 ?_
                      obtain ⟨x204, ex204, hF⟩ := ltt_some hF
                      refine lv_topi (fun zx204 ezx204 => ?_)
                      obtain rfl : x204 = zx204 := ex204.trans ezx204.symm
                      refine va_put (D := D) (ci := 6) (v := .int x204) (ty := .int) (C := RX6) (T := TX6) (N := 14) hx hb hts (mus hf_X6) tyX6 tyX6_ok nmX6 hown hK hP hD hS a (wld_o ct ad G M202 hc hk (by decide)) rfl 9 (by decide) (hts (.fieldLink RX6 155 "VideoSuite$Samples" "weight" "I") (mu mw_545)) (fun _ h9 => h9) rfl (by decide +kernel) rfl rfl (Nat.le_of_ble_eq_true rfl) dX6_chooseWeights_245 (fun H locs hP hD hS => ?_)
                      obtain ⟨M205, eM205, hF⟩ := ltt_some hF
                      rw [set_oI ct ad G M202 hc hk (by decide) (by rfl), ← eM205] at hP hD
                      refine lv_aload_n hx hb dX6_chooseWeights_248 rfl (lv_at hl 11 rfl) ?_
                      refine lv_iconst (v := (0 : Int32)) hx hb dX6_chooseWeights_249 (by decide) ?_
                      refine va_put (D := D) (ci := 6) (v := .int (0 : Int32)) (ty := .int) (C := RX6) (T := TX6) (N := 14) hx hb hts (mus hf_X6) tyX6 tyX6_ok nmX6 hown hK hP hD hS a (wld_o ct ad G M205 hc hk (by decide)) rfl 11 (by decide) (hts (.fieldLink RX6 158 "VideoSuite$Samples" "offset" "I") (mu mw_547)) (fun _ h9 => h9) rfl (by decide +kernel) rfl rfl (Nat.le_of_ble_eq_true rfl) dX6_chooseWeights_250 (fun H locs hP hD hS => ?_)
                      obtain ⟨M206, eM206, hF⟩ := ltt_some hF
                      rw [set_oI ct ad G M205 hc hk (by decide) (by rfl), ← eM206] at hP hD
                      refine lv_aload_n hx hb dX6_chooseWeights_253 rfl (lv_at hl 11 rfl) ?_
                      refine lv_iconst (v := (0 : Int32)) hx hb dX6_chooseWeights_254 (by decide) ?_
                      refine va_put (D := D) (ci := 6) (v := .int (0 : Int32)) (ty := .int) (C := RX6) (T := TX6) (N := 14) hx hb hts (mus hf_X6) tyX6 tyX6_ok nmX6 hown hK hP hD hS a (wld_o ct ad G M206 hc hk (by decide)) rfl 12 (by decide) (hts (.fieldLink RX6 161 "VideoSuite$Samples" "otherOffset" "I") (mu mw_548)) (fun _ h9 => h9) rfl (by decide +kernel) rfl rfl (Nat.le_of_ble_eq_true rfl) dX6_chooseWeights_255 (fun H locs hP hD hS => ?_)
                      obtain ⟨M207, eM207, hF⟩ := ltt_some hF
                      rw [set_oI ct ad G M206 hc hk (by decide) (by rfl), ← eM207] at hP hD
                      refine lv_aload_n hx hb dX6_chooseWeights_258 rfl (lv_at hl 11 rfl) ?_
                      refine lv_iconst (v := (5 : Int32)) hx hb dX6_chooseWeights_259 (by decide) ?_
                      refine va_put (D := D) (ci := 6) (v := .int (5 : Int32)) (ty := .int) (C := RX6) (T := TX6) (N := 14) hx hb hts (mus hf_X6) tyX6 tyX6_ok nmX6 hown hK hP hD hS a (wld_o ct ad G M207 hc hk (by decide)) rfl 13 (by decide) (hts (.fieldLink RX6 164 "VideoSuite$Samples" "shift" "I") (mu mw_549)) (fun _ h9 => h9) rfl (by decide +kernel) rfl rfl (Nat.le_of_ble_eq_true rfl) dX6_chooseWeights_260 (fun H locs hP hD hS => ?_)
                      obtain ⟨M208, eM208, hF⟩ := ltt_some hF
                      rw [set_oI ct ad G M207 hc hk (by decide) (by rfl), ← eM208] at hP hD
                      refine lv_iconst (v := (5 : Int32)) hx hb dX6_chooseWeights_263 (by decide) ?_
                      obtain rfl := Option.some.inj hF
                      exact W.iret (v := (5 : Int32)) hx hb hr (fun t ht hW => ⟨⟨_, (), rfl, rfl, ⟨by rw [ht]; exact hP, va_K.moved hW.alike hK, hD⟩⟩, hS.F ht⟩) hS.2.2 dX6_chooseWeights_264
                    clear hF
                    have hF := hy201
                    clear hy201
                    refine lv_icmp_lt (tgt := 227) hx hb dX6_chooseWeights_216 (by decide) (fun c209 => ?_) (fun c209 => ?_)
                    · rw [if_pos c209] at hF
                      refine lv_bipush (v := (32 : Int32)) hx hb dX6_chooseWeights_227 (by decide) ?_
                      refine lv_goto (tgt := 234) hx hb dX6_chooseWeights_229 (by decide) ?_
                      obtain rfl := Option.some.inj hF
                      exact J201 _ _ _ hP hD hS (lv_sub hl [0, 1, 2, 3, 4, 5, 6, 7, 8, 9, 10, 11, 12, 13] rfl)
                    · rw [if_neg c209] at hF
                      refine lv_iload hx hb dX6_chooseWeights_219 (lv_at hl 0 rfl) ?_
                      refine lv_sipush (v := (128 : Int32)) hx hb dX6_chooseWeights_221 (by decide) ?_
                      obtain ⟨y210, hy210, hF⟩ := bnd_some hF
                      have J210 : ∀ (H : Heap) (locs : List Loc) (ls : Array Slot), va_P D classes (wld ct ad G y200.2) H → va_D A (wld ct ad G y200.2) → va_S A s.heap H locs → lv_has ls 14 [(13, .int y200.1), (12, .int y199), (11, .int y198.1), (10, va_re ad (M.2 b196 x197.toNatClampNeg)), (9, va_re ad (M.2 b196 x4.toNatClampNeg)), (8, .int y11), (7, .int y10), (6, .int y6), (5, .int x5), (4, .int x4), (3, va_re ad (M.2 b2 1)), (0, .ref (ad a)), (1, va_re ad p0), (2, .int p1)] → W p l e (headSpec wuX6_chooseWeights ({ frames := 2, cells := 0, slots := 0, locals := 44 })).room s m ([.ref (ad a), va_re ad p0, .int p1] : List Value).toArray below meth c H locs 0 0 (MQ below (va_Qi (fun (q : Int32) (_ : Unit) => q = y.2) (fun _ t => kE D ct ad G A y.1 t) A) ([.ref (ad a), va_re ad p0, .int p1] : List Value).toArray s 0 0 A) (F0 m 234 ls [.int y210, .ref (ad a)]) := by
                        intro H locs ls hP hD hS hl
                        obtain rfl := Option.some.inj hF
                        exact J201 _ _ _ hP hD hS (lv_sub hl [0, 1, 2, 3, 4, 5, 6, 7, 8, 9, 10, 11, 12, 13] rfl)
                      clear hF
                      have hF := hy210
                      clear hy210
                      refine lv_icmp_le (tgt := 232) hx hb dX6_chooseWeights_224 (by decide) (fun c211 => ?_) (fun c211 => ?_)
                      · rw [if_pos c211] at hF
                        refine lv_iload hx hb dX6_chooseWeights_232 (lv_at hl 0 rfl) ?_
                        obtain rfl := Option.some.inj hF
                        exact J210 _ _ _ hP hD hS (lv_sub hl [0, 1, 2, 3, 4, 5, 6, 7, 8, 9, 10, 11, 12, 13] rfl)
                      · rw [if_neg c211] at hF
                        refine lv_bipush (v := (32 : Int32)) hx hb dX6_chooseWeights_227 (by decide) ?_
                        refine lv_goto (tgt := 234) hx hb dX6_chooseWeights_229 (by decide) ?_
                        obtain rfl := Option.some.inj hF
                        exact J210 _ _ _ hP hD hS (lv_sub hl [0, 1, 2, 3, 4, 5, 6, 7, 8, 9, 10, 11, 12, 13] rfl)
                  clear hF
                  have hF := hy200
                  clear hy200
                  refine lv_if_eq (tgt := 187) hx hb dX6_chooseWeights_179 (by decide) (fun c212 => ?_) (fun c212 => ?_)
                  · rw [if_pos c212] at hF
                    refine lv_aloadq hx hb dX6_chooseWeights_187 (lv_at hl 3 rfl) ?_
                    obtain ⟨b213, ho213, hc213, hk213, hF⟩ := dr_some hF
                    refine W_st (st' := [.ref (ad b213)]) (by rw [va_some ho213]) ?_
                    refine va_get (D := D) (ci := 4) (v := .int (y198.2.1 b213 9)) (C := RX4) (T := TX4) (N := 18) hx hb hts (mus hf_X4) hown hK hP b213 (wld_o ct ad G y198.2 hc213 hk213 (by decide)) rfl 9 (by decide) (hts (.fieldLink RX6 140 "VideoSuite$Picture" "order" "I") (mu mw_1456)) (fun _ h9 => h9) rfl dX6_chooseWeights_189 ?_
                    obtain ⟨x214, ex214, hF⟩ := ltt_some hF
                    refine lv_topi (fun zx214 ezx214 => ?_)
                    obtain rfl : x214 = zx214 := ex214.trans ezx214.symm
                    refine lv_aloadq_n hx hb dX6_chooseWeights_192 rfl (lv_at hl 11 rfl) ?_
                    refine W_st (st' := [.ref (ad b2), .int x214]) (by rw [va_some ho2]) ?_
                    refine va_get (D := D) (ci := 9) (v := va_re ad (y198.2.2 b2 0)) (C := RX9) (T := TX9) (N := 20) hx hb hts (mus hf_X9) hown hK hP b2 (wld_o ct ad G y198.2 hc2 hk2 (by decide)) rfl 0 (by decide) (hts (.fieldLink RX6 46 "VideoSuite$Work" "pic" "LVideoSuite$Picture;") (mu mw_421)) (fun _ h9 => h9) rfl dX6_chooseWeights_193 ?_
                    obtain ⟨b215, ho215, hc215, hk215, hF⟩ := dr_some hF
                    refine W_st (st' := [.ref (ad b215), .int x214]) (by rw [va_some ho215]) ?_
                    refine va_get (D := D) (ci := 4) (v := .int (y198.2.1 b215 9)) (C := RX4) (T := TX4) (N := 18) hx hb hts (mus hf_X4) hown hK hP b215 (wld_o ct ad G y198.2 hc215 hk215 (by decide)) rfl 9 (by decide) (hts (.fieldLink RX6 140 "VideoSuite$Picture" "order" "I") (mu mw_1456)) (fun _ h9 => h9) rfl dX6_chooseWeights_196 ?_
                    obtain ⟨x216, ex216, hF⟩ := ltt_some hF
                    refine lv_topi (fun zx216 ezx216 => ?_)
                    obtain rfl : x216 = zx216 := ex216.trans ezx216.symm
                    obtain ⟨y217, hy217, hF⟩ := bnd_some hF
                    have hf9 := wA_in hD hA9 hS
                    refine va_calli (va_runS (As := [.int x214, .int x216]) (rest := []) ⟨hx, hb, hml, hown, hts⟩ (kX9_timeBetween l D ct ad Z G y198.2 H.size x214 x216 y217 hy217) (va_cwS 2 hts gX6_chooseWeights_X9_timeBetween rfl rfl rfl (by decide +kernel) ⟨Nat.le_of_ble_eq_true rfl, Nat.le_of_ble_eq_true rfl⟩) ⟨fun a U g mk q => by obtain ⟨q0, q1, qP, qK, qD, qZ, qN⟩ := q; exact ⟨q0, q1, qP, va_K.moved (u := U) (U := U.calling g mk a) (Vm.Alike.refl U.vm) qK, qD, sF.moved (u := U) (U := U.calling g mk a) (Vm.Alike.refl U.vm) qZ, nF.same rfl qN⟩, fun U hU hW => ⟨rfl, by rw [hU], by rw [hU]; exact hP, va_K.moved hW.alike hK, hD.weaken (fun _ _ _ _ => trivial), by rw [hU]; exact ((hZ.kept hS.2.1).narrow hf9).moved hW.alike, hN.warm hW⟩⟩ rfl rfl hl.1 rfl (lv_room (Nat.le_of_ble_eq_true rfl)) dX6_chooseWeights_199 ⟨(Nat.zero_le _), (Nat.zero_le _)⟩) hS (fun q _ h => hf9 q h) hf9 (fun r u t H locs ht hvm hw hB hz1 hk1 hS => ?_)
                    obtain ⟨hP, hK9, hD9⟩ := hB
                    rw [ht] at hP
                    try dsimp only at hw
                    subst hw
                    have hD := hD9.weaken (fun _ q _ h => hf9 q.1 h)
                    refine lv_iload hx hb dX6_chooseWeights_202 (lv_at hl 1 rfl) ?_
                    obtain ⟨y218, hy218, hF⟩ := bnd_some hF
                    have hf9 := wA_in hD hA9 hS
                    refine va_calli (va_runS (As := [.int y217.2, .int y198.1]) (rest := []) ⟨hx, hb, hml, hown, hts⟩ (kX9_scaleBy l D ct ad Z G y217.1 H.size y217.2 y198.1 y218 hy218) (va_cwS 2 hts gX6_chooseWeights_X9_scaleBy rfl rfl rfl (by decide +kernel) ⟨Nat.le_of_ble_eq_true rfl, Nat.le_of_ble_eq_true rfl⟩) ⟨fun a U g mk q => by obtain ⟨q0, q1, qP, qK, qD, qZ, qN⟩ := q; exact ⟨q0, q1, qP, va_K.moved (u := U) (U := U.calling g mk a) (Vm.Alike.refl U.vm) qK, qD, sF.moved (u := U) (U := U.calling g mk a) (Vm.Alike.refl U.vm) qZ, nF.same rfl qN⟩, fun U hU hW => ⟨rfl, by rw [hU], by rw [hU]; exact hP, va_K.moved hW.alike hK, hD.weaken (fun _ _ _ _ => trivial), by rw [hU]; exact ((hZ.kept hS.2.1).narrow hf9).moved hW.alike, hN.warm hW⟩⟩ rfl rfl hl.1 rfl (lv_room (Nat.le_of_ble_eq_true rfl)) dX6_chooseWeights_204 ⟨(Nat.zero_le _), (Nat.zero_le _)⟩) hS (fun q _ h => hf9 q h) hf9 (fun r u t H locs ht hvm hw hB hz1 hk1 hS => ?_)
                    obtain ⟨hP, hK9, hD9⟩ := hB
                    rw [ht] at hP
                    try dsimp only at hw
                    subst hw
                    have hD := hD9.weaken (fun _ q _ h => hf9 q.1 h)
                    refine lv_iconst (v := (2 : Int32)) hx hb dX6_chooseWeights_207 (by decide) ?_
                    refine lv_ishr hx hb dX6_chooseWeights_208 ?_
                    obtain ⟨x219, ex219, hF⟩ := ltt_some hF
                    refine lv_topi (fun zx219 ezx219 => ?_)
                    obtain rfl : x219 = zx219 := ex219.trans ezx219.symm
                    obtain rfl := Option.some.inj hF
                    exact J200 _ _ _ hP hD hS (lv_sub hl [0, 1, 2, 3, 4, 5, 6, 7, 8, 9, 10, 11, 12] rfl)
                  · rw [if_neg c212] at hF
                    refine lv_bipush (v := (32 : Int32)) hx hb dX6_chooseWeights_182 (by decide) ?_
                    refine lv_goto (tgt := 209) hx hb dX6_chooseWeights_184 (by decide) ?_
                    obtain rfl := Option.some.inj hF
                    exact J200 _ _ _ hP hD hS (lv_sub hl [0, 1, 2, 3, 4, 5, 6, 7, 8, 9, 10, 11, 12] rfl)
                clear hF
                have hF := hy199
                clear hy199
                refine lv_if_eq (tgt := 170) hx hb dX6_chooseWeights_149 (by decide) (fun c220 => ?_) (fun c220 => ?_)
                · rw [if_pos c220] at hF
                  refine lv_iconst (v := (1 : Int32)) hx hb dX6_chooseWeights_170 (by decide) ?_
                  refine lv_goto (tgt := 175) hx hb dX6_chooseWeights_171 (by decide) ?_
                  obtain rfl := Option.some.inj hF
                  exact J199 _ _ _ hP hD hS (lv_sub hl [0, 1, 2, 3, 4, 5, 6, 7, 8, 9, 10, 11] rfl)
                · rw [if_neg c220] at hF
                  refine lv_aloadq hx hb dX6_chooseWeights_152 (lv_at hl 2 rfl) ?_
                  obtain ⟨b221, ho221, hc221, hk221, hF⟩ := dr_some hF
                  refine W_st (st' := [.ref (ad b221)]) (by rw [va_some ho221]) ?_
                  refine va_get (D := D) (ci := 4) (v := .int (y198.2.1 b221 10)) (C := RX4) (T := TX4) (N := 18) hx hb hts (mus hf_X4) hown hK hP b221 (wld_o ct ad G y198.2 hc221 hk221 (by decide)) rfl 10 (by decide) (hts (.fieldLink RX6 146 "VideoSuite$Picture" "use" "I") (mu mw_1461)) (fun _ h9 => h9) rfl dX6_chooseWeights_154 ?_
                  obtain ⟨x222, ex222, hF⟩ := ltt_some hF
                  refine lv_topi (fun zx222 ezx222 => ?_)
                  obtain rfl : x222 = zx222 := ex222.trans ezx222.symm
                  refine lv_iconst (v := (2 : Int32)) hx hb dX6_chooseWeights_157 (by decide) ?_
                  obtain ⟨y223, hy223, hF⟩ := bnd_some hF
                  have J223 : ∀ (H : Heap) (locs : List Loc) (ls : Array Slot), va_P D classes (wld ct ad G y198.2) H → va_D A (wld ct ad G y198.2) → va_S A s.heap H locs → lv_has ls 14 [(11, .int y198.1), (10, va_re ad (M.2 b196 x197.toNatClampNeg)), (9, va_re ad (M.2 b196 x4.toNatClampNeg)), (8, .int y11), (7, .int y10), (6, .int y6), (5, .int x5), (4, .int x4), (3, va_re ad (M.2 b2 1)), (0, .ref (ad a)), (1, va_re ad p0), (2, .int p1)] → W p l e (headSpec wuX6_chooseWeights ({ frames := 2, cells := 0, slots := 0, locals := 44 })).room s m ([.ref (ad a), va_re ad p0, .int p1] : List Value).toArray below meth c H locs 0 0 (MQ below (va_Qi (fun (q : Int32) (_ : Unit) => q = y.2) (fun _ t => kE D ct ad G A y.1 t) A) ([.ref (ad a), va_re ad p0, .int p1] : List Value).toArray s 0 0 A) (F0 m 175 ls [.int y223]) := by
                    intro H locs ls hP hD hS hl
                    obtain rfl := Option.some.inj hF
                    exact J199 _ _ _ hP hD hS (lv_sub hl [0, 1, 2, 3, 4, 5, 6, 7, 8, 9, 10, 11] rfl)
                  clear hF
                  have hF := hy223
                  clear hy223
                  refine lv_icmp_eq (tgt := 170) hx hb dX6_chooseWeights_158 (by decide) (fun c224 => ?_) (fun c224 => ?_)
                  · rw [if_pos c224] at hF
                    refine lv_iconst (v := (1 : Int32)) hx hb dX6_chooseWeights_170 (by decide) ?_
                    refine lv_goto (tgt := 175) hx hb dX6_chooseWeights_171 (by decide) ?_
                    obtain rfl := Option.some.inj hF
                    exact J223 _ _ _ hP hD hS (lv_sub hl [0, 1, 2, 3, 4, 5, 6, 7, 8, 9, 10, 11] rfl)
                  · rw [if_neg c224] at hF
                    refine lv_aloadq hx hb dX6_chooseWeights_161 (lv_at hl 1 rfl) ?_
                    obtain ⟨b225, ho225, hc225, hk225, hF⟩ := dr_some hF
                    refine W_st (st' := [.ref (ad b225)]) (by rw [va_some ho225]) ?_
                    refine va_get (D := D) (ci := 4) (v := .int (y198.2.1 b225 10)) (C := RX4) (T := TX4) (N := 18) hx hb hts (mus hf_X4) hown hK hP b225 (wld_o ct ad G y198.2 hc225 hk225 (by decide)) rfl 10 (by decide) (hts (.fieldLink RX6 146 "VideoSuite$Picture" "use" "I") (mu mw_1461)) (fun _ h9 => h9) rfl dX6_chooseWeights_163 ?_
                    obtain ⟨x226, ex226, hF⟩ := ltt_some hF
                    refine lv_topi (fun zx226 ezx226 => ?_)
                    obtain rfl : x226 = zx226 := ex226.trans ezx226.symm
                    refine lv_iconst (v := (2 : Int32)) hx hb dX6_chooseWeights_166 (by decide) ?_
                    obtain ⟨y227, hy227, hF⟩ := bnd_some hF
                    have J227 : ∀ (H : Heap) (locs : List Loc) (ls : Array Slot), va_P D classes (wld ct ad G y198.2) H → va_D A (wld ct ad G y198.2) → va_S A s.heap H locs → lv_has ls 14 [(11, .int y198.1), (10, va_re ad (M.2 b196 x197.toNatClampNeg)), (9, va_re ad (M.2 b196 x4.toNatClampNeg)), (8, .int y11), (7, .int y10), (6, .int y6), (5, .int x5), (4, .int x4), (3, va_re ad (M.2 b2 1)), (0, .ref (ad a)), (1, va_re ad p0), (2, .int p1)] → W p l e (headSpec wuX6_chooseWeights ({ frames := 2, cells := 0, slots := 0, locals := 44 })).room s m ([.ref (ad a), va_re ad p0, .int p1] : List Value).toArray below meth c H locs 0 0 (MQ below (va_Qi (fun (q : Int32) (_ : Unit) => q = y.2) (fun _ t => kE D ct ad G A y.1 t) A) ([.ref (ad a), va_re ad p0, .int p1] : List Value).toArray s 0 0 A) (F0 m 175 ls [.int y227]) := by
                      intro H locs ls hP hD hS hl
                      obtain rfl := Option.some.inj hF
                      exact J223 _ _ _ hP hD hS (lv_sub hl [0, 1, 2, 3, 4, 5, 6, 7, 8, 9, 10, 11] rfl)
                    clear hF
                    have hF := hy227
                    clear hy227
                    refine lv_icmp_ne (tgt := 174) hx hb dX6_chooseWeights_167 (by decide) (fun c228 => ?_) (fun c228 => ?_)
                    · rw [if_neg c228] at hF
                      refine lv_iconst (v := (0 : Int32)) hx hb dX6_chooseWeights_174 (by decide) ?_
                      obtain rfl := Option.some.inj hF
                      exact J227 _ _ _ hP hD hS (lv_sub hl [0, 1, 2, 3, 4, 5, 6, 7, 8, 9, 10, 11] rfl)
                    · rw [if_pos c228] at hF
                      refine lv_iconst (v := (1 : Int32)) hx hb dX6_chooseWeights_170 (by decide) ?_
                      refine lv_goto (tgt := 175) hx hb dX6_chooseWeights_171 (by decide) ?_
                      obtain rfl := Option.some.inj hF
                      exact J227 _ _ _ hP hD hS (lv_sub hl [0, 1, 2, 3, 4, 5, 6, 7, 8, 9, 10, 11] rfl)
              clear hF
              have hF := hy198
              clear hy198
              refine lv_ifnullq (tgt := 128) hx hb dX6_chooseWeights_120 (by decide) (fun c229 => ?_) (fun c229 => ?_)
              · rw [if_pos c229] at hF
                refine lv_iconst (v := (0 : Int32)) hx hb dX6_chooseWeights_128 (by decide) ?_
                refine lv_goto (tgt := 145) hx hb dX6_chooseWeights_129 (by decide) ?_
                obtain rfl := Option.some.inj hF
                exact J198 _ _ _ hP hD hS (lv_sub hl [0, 1, 2, 3, 4, 5, 6, 7, 8, 9, 10] rfl)
              · rw [if_neg c229] at hF
                refine lv_aloadq hx hb dX6_chooseWeights_123 (lv_at hl 0 rfl) ?_
                obtain ⟨y230, hy230, hF⟩ := bnd_some hF
                have J230 : ∀ (H : Heap) (locs : List Loc) (ls : Array Slot), va_P D classes (wld ct ad G y230.2) H → va_D A (wld ct ad G y230.2) → va_S A s.heap H locs → lv_has ls 14 [(10, va_re ad (M.2 b196 x197.toNatClampNeg)), (9, va_re ad (M.2 b196 x4.toNatClampNeg)), (8, .int y11), (7, .int y10), (6, .int y6), (5, .int x5), (4, .int x4), (3, va_re ad (M.2 b2 1)), (0, .ref (ad a)), (1, va_re ad p0), (2, .int p1)] → W p l e (headSpec wuX6_chooseWeights ({ frames := 2, cells := 0, slots := 0, locals := 44 })).room s m ([.ref (ad a), va_re ad p0, .int p1] : List Value).toArray below meth c H locs 0 0 (MQ below (va_Qi (fun (q : Int32) (_ : Unit) => q = y.2) (fun _ t => kE D ct ad G A y.1 t) A) ([.ref (ad a), va_re ad p0, .int p1] : List Value).toArray s 0 0 A) (F0 m 145 ls [.int y230.1]) := by
                  intro H locs ls hP hD hS hl
                  obtain rfl := Option.some.inj hF
                  exact J198 _ _ _ hP hD hS (lv_sub hl [0, 1, 2, 3, 4, 5, 6, 7, 8, 9, 10] rfl)
                clear hF
                have hF := hy230
                clear hy230
                refine lv_ifnonnullq (tgt := 132) hx hb dX6_chooseWeights_125 (by decide) (fun c231 => ?_) (fun c231 => ?_)
                · rw [if_neg c231] at hF
                  refine lv_aloadq hx hb dX6_chooseWeights_132 (lv_at hl 1 rfl) ?_
                  obtain ⟨b232, ho232, hc232, hk232, hF⟩ := dr_some hF
                  refine W_st (st' := [.ref (ad b232)]) (by rw [va_some ho232]) ?_
                  refine va_get (D := D) (ci := 4) (v := .int (M.1 b232 9)) (C := RX4) (T := TX4) (N := 18) hx hb hts (mus hf_X4) hown hK hP b232 (wld_o ct ad G M hc232 hk232 (by decide)) rfl 9 (by decide) (hts (.fieldLink RX6 140 "VideoSuite$Picture" "order" "I") (mu mw_1456)) (fun _ h9 => h9) rfl dX6_chooseWeights_134 ?_
                  obtain ⟨x233, ex233, hF⟩ := ltt_some hF
                  refine lv_topi (fun zx233 ezx233 => ?_)
                  obtain rfl : x233 = zx233 := ex233.trans ezx233.symm
                  refine lv_aloadq hx hb dX6_chooseWeights_137 (lv_at hl 0 rfl) ?_
                  obtain ⟨b234, ho234, hc234, hk234, hF⟩ := dr_some hF
                  refine W_st (st' := [.ref (ad b234), .int x233]) (by rw [va_some ho234]) ?_
                  refine va_get (D := D) (ci := 4) (v := .int (M.1 b234 9)) (C := RX4) (T := TX4) (N := 18) hx hb hts (mus hf_X4) hown hK hP b234 (wld_o ct ad G M hc234 hk234 (by decide)) rfl 9 (by decide) (hts (.fieldLink RX6 140 "VideoSuite$Picture" "order" "I") (mu mw_1456)) (fun _ h9 => h9) rfl dX6_chooseWeights_139 ?_
                  obtain ⟨x235, ex235, hF⟩ := ltt_some hF
                  refine lv_topi (fun zx235 ezx235 => ?_)
                  obtain rfl : x235 = zx235 := ex235.trans ezx235.symm
                  obtain ⟨y236, hy236, hF⟩ := bnd_some hF
                  have hf9 := wA_in hD hA9 hS
                  refine va_calli (va_runS (As := [.int x233, .int x235]) (rest := []) ⟨hx, hb, hml, hown, hts⟩ (kX9_timeBetween l D ct ad Z G M H.size x233 x235 y236 hy236) (va_cwS 2 hts gX6_chooseWeights_X9_timeBetween rfl rfl rfl (by decide +kernel) ⟨Nat.le_of_ble_eq_true rfl, Nat.le_of_ble_eq_true rfl⟩) ⟨fun a U g mk q => by obtain ⟨q0, q1, qP, qK, qD, qZ, qN⟩ := q; exact ⟨q0, q1, qP, va_K.moved (u := U) (U := U.calling g mk a) (Vm.Alike.refl U.vm) qK, qD, sF.moved (u := U) (U := U.calling g mk a) (Vm.Alike.refl U.vm) qZ, nF.same rfl qN⟩, fun U hU hW => ⟨rfl, by rw [hU], by rw [hU]; exact hP, va_K.moved hW.alike hK, hD.weaken (fun _ _ _ _ => trivial), by rw [hU]; exact ((hZ.kept hS.2.1).narrow hf9).moved hW.alike, hN.warm hW⟩⟩ rfl rfl hl.1 rfl (lv_room (Nat.le_of_ble_eq_true rfl)) dX6_chooseWeights_142 ⟨(Nat.zero_le _), (Nat.zero_le _)⟩) hS (fun q _ h => hf9 q h) hf9 (fun r u t H locs ht hvm hw hB hz1 hk1 hS => ?_)
                  obtain ⟨hP, hK9, hD9⟩ := hB
                  rw [ht] at hP
                  try dsimp only at hw
                  subst hw
                  have hD := hD9.weaken (fun _ q _ h => hf9 q.1 h)
                  obtain rfl := Option.some.inj hF
                  exact J230 _ _ _ hP hD hS (lv_sub hl [0, 1, 2, 3, 4, 5, 6, 7, 8, 9, 10] rfl)
                · rw [if_pos c231] at hF
                  refine lv_iconst (v := (0 : Int32)) hx hb dX6_chooseWeights_128 (by decide) ?_
                  refine lv_goto (tgt := 145) hx hb dX6_chooseWeights_129 (by decide) ?_
                  obtain rfl := Option.some.inj hF
                  exact J230 _ _ _ hP hD hS (lv_sub hl [0, 1, 2, 3, 4, 5, 6, 7, 8, 9, 10] rfl)
      clear hF
      have hF := hy11
      clear hy11
      refine lv_if_eq (tgt := 64) hx hb dX6_chooseWeights_57 (by decide) (fun c237 => ?_) (fun c237 => ?_)
      · rw [if_pos c237] at hF
        refine lv_iload hx hb dX6_chooseWeights_64 (lv_at hl 3 rfl) ?_
        obtain ⟨y238, hy238, hF⟩ := bnd_some hF
        have J238 : ∀ (H : Heap) (locs : List Loc) (ls : Array Slot), va_P D classes (wld ct ad G M) H → va_D A (wld ct ad G M) → va_S A s.heap H locs → lv_has ls 14 [(7, .int y10), (6, .int y6), (5, .int x5), (4, .int x4), (3, va_re ad (M.2 b2 1)), (0, .ref (ad a)), (1, va_re ad p0), (2, .int p1)] → W p l e (headSpec wuX6_chooseWeights ({ frames := 2, cells := 0, slots := 0, locals := 44 })).room s m ([.ref (ad a), va_re ad p0, .int p1] : List Value).toArray below meth c H locs 0 0 (MQ below (va_Qi (fun (q : Int32) (_ : Unit) => q = y.2) (fun _ t => kE D ct ad G A y.1 t) A) ([.ref (ad a), va_re ad p0, .int p1] : List Value).toArray s 0 0 A) (F0 m 74 ls [.int y238]) := by
          intro H locs ls hP hD hS hl
          obtain rfl := Option.some.inj hF
          exact J11 _ _ _ hP hD hS (lv_sub hl [0, 1, 2, 3, 4, 5, 6, 7] rfl)
        clear hF
        have hF := hy238
        clear hy238
        refine lv_if_lt (tgt := 73) hx hb dX6_chooseWeights_66 (by decide) (fun c239 => ?_) (fun c239 => ?_)
        · rw [if_pos c239] at hF
          refine lv_iconst (v := (1 : Int32)) hx hb dX6_chooseWeights_73 (by decide) ?_
          obtain rfl := Option.some.inj hF
          exact J238 _ _ _ hP hD hS (lv_sub hl [0, 1, 2, 3, 4, 5, 6, 7] rfl)
        · rw [if_neg c239] at hF
          refine lv_iconst (v := (0 : Int32)) hx hb dX6_chooseWeights_69 (by decide) ?_
          refine lv_goto (tgt := 74) hx hb dX6_chooseWeights_70 (by decide) ?_
          obtain rfl := Option.some.inj hF
          exact J238 _ _ _ hP hD hS (lv_sub hl [0, 1, 2, 3, 4, 5, 6, 7] rfl)
      · rw [if_neg c237] at hF
        refine lv_iconst (v := (2 : Int32)) hx hb dX6_chooseWeights_60 (by decide) ?_
        refine lv_goto (tgt := 74) hx hb dX6_chooseWeights_61 (by decide) ?_
        obtain rfl := Option.some.inj hF
        exact J11 _ _ _ hP hD hS (lv_sub hl [0, 1, 2, 3, 4, 5, 6, 7] rfl)
    clear hF
    have hF := hy10
    clear hy10
    refine lv_icmp_ne (tgt := 52) hx hb dX6_chooseWeights_45 (by decide) (fun c240 => ?_) (fun c240 => ?_)
    · rw [if_neg c240] at hF
      refine lv_iconst (v := (0 : Int32)) hx hb dX6_chooseWeights_52 (by decide) ?_
      obtain rfl := Option.some.inj hF
      exact J10 _ _ _ hP hD hS (lv_sub hl [0, 1, 2, 3, 4, 5, 6] rfl)
    · rw [if_pos c240] at hF
      refine lv_iconst (v := (1 : Int32)) hx hb dX6_chooseWeights_48 (by decide) ?_
      refine lv_goto (tgt := 53) hx hb dX6_chooseWeights_49 (by decide) ?_
      obtain rfl := Option.some.inj hF
      exact J10 _ _ _ hP hD hS (lv_sub hl [0, 1, 2, 3, 4, 5, 6] rfl)
  clear hF
  have hF := hy6
  clear hy6
  refine lv_if_lt (tgt := 35) hx hb dX6_chooseWeights_23 (by decide) (fun c241 => ?_) (fun c241 => ?_)
  · rw [if_pos c241] at hF
    refine lv_iconst (v := (0 : Int32)) hx hb dX6_chooseWeights_35 (by decide) ?_
    obtain rfl := Option.some.inj hF
    exact J6 _ _ _ hP hD hS (lv_sub hl [0, 1, 2, 3, 4, 5] rfl)
  · rw [if_neg c241] at hF
    refine lv_iload hx hb dX6_chooseWeights_26 (lv_at hl 0 rfl) ?_
    obtain ⟨y242, hy242, hF⟩ := bnd_some hF
    have J242 : ∀ (H : Heap) (locs : List Loc) (ls : Array Slot), va_P D classes (wld ct ad G M) H → va_D A (wld ct ad G M) → va_S A s.heap H locs → lv_has ls 14 [(5, .int x5), (4, .int x4), (3, va_re ad (M.2 b2 1)), (0, .ref (ad a)), (1, va_re ad p0), (2, .int p1)] → W p l e (headSpec wuX6_chooseWeights ({ frames := 2, cells := 0, slots := 0, locals := 44 })).room s m ([.ref (ad a), va_re ad p0, .int p1] : List Value).toArray below meth c H locs 0 0 (MQ below (va_Qi (fun (q : Int32) (_ : Unit) => q = y.2) (fun _ t => kE D ct ad G A y.1 t) A) ([.ref (ad a), va_re ad p0, .int p1] : List Value).toArray s 0 0 A) (F0 m 36 ls [.int y242]) := by
      intro H locs ls hP hD hS hl
      obtain rfl := Option.some.inj hF
      exact J6 _ _ _ hP hD hS (lv_sub hl [0, 1, 2, 3, 4, 5] rfl)
    clear hF
    have hF := hy242
    clear hy242
    refine lv_if_lt (tgt := 35) hx hb dX6_chooseWeights_28 (by decide) (fun c243 => ?_) (fun c243 => ?_)
    · rw [if_pos c243] at hF
      refine lv_iconst (v := (0 : Int32)) hx hb dX6_chooseWeights_35 (by decide) ?_
      obtain rfl := Option.some.inj hF
      exact J242 _ _ _ hP hD hS (lv_sub hl [0, 1, 2, 3, 4, 5] rfl)
    · rw [if_neg c243] at hF
      refine lv_iconst (v := (1 : Int32)) hx hb dX6_chooseWeights_31 (by decide) ?_
      refine lv_goto (tgt := 36) hx hb dX6_chooseWeights_32 (by decide) ?_
      obtain rfl := Option.some.inj hF
      exact J242 _ _ _ hP hD hS (lv_sub hl [0, 1, 2, 3, 4, 5] rfl)
