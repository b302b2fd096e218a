theorem ggX1_readMoves_X5_fixed : GoodIn wsX1_readMoves wsX5_fixed := goodIn_ca (goodIn_r _ [10, 11, 12, 13, 14, 15, 9, 16, 17, 18, 19, 20, 21, 22, 23, 24, 25, 26, 27, 28, 29, 30, 31, 32, 33, 34, 35, 36, 74, 75, 76, 77, 78, 79, 80, 81, 82, 83, 84, 85, 86, 87, 88, 89, 90] (by decide +kernel) (by decide +kernel)) (goodIn_sub (fun _ h => List.mem_cons_of_mem _ (List.mem_append_right _ h)) (by decide +kernel))
set_option maxRecDepth 20000 in
theorem gX1_readMoves_X5_fixed : GoodIn wsX1_readMoves (wsV RX1 183 RX5 yX5_fixed wsX5_fixed) := goodIn_app (goodIn_of _ (by decide +kernel)) ggX1_readMoves_X5_fixed
set_option maxRecDepth 20000 in
theorem ggX1_readMoves_X1_unsigned : GoodIn wsX1_readMoves wsX1_unsigned := goodIn_ca (goodIn_r _ [41, 1, 42, 43, 44, 9, 45, 11, 12, 46, 13, 14, 15, 16, 17, 18, 19, 20, 21, 22, 23, 24, 25, 26, 27, 28, 29, 47, 48, 49, 50, 30, 31, 32, 33, 34, 35, 36, 52, 53, 54, 55, 56, 57, 58, 59, 60, 61, 62, 63, 64, 65, 66, 67, 68, 69, 70, 71, 72, 73, 74, 75, 76, 77, 78, 79, 80, 81, 82, 83, 84, 85, 86, 87, 88, 89, 90] (by decide +kernel) (by decide +kernel)) (goodIn_sub (fun _ h => List.mem_cons_of_mem _ (List.mem_append_right _ h)) (by decide +kernel))
set_option maxRecDepth 20000 in
theorem gX1_readMoves_X1_unsigned : GoodIn wsX1_readMoves (wsV RX1 186 RX1 yX1_unsigned wsX1_unsigned) := goodIn_app (goodIn_of _ (by decide +kernel)) ggX1_readMoves_X1_unsigned
set_option maxRecDepth 20000 in
theorem dX1_readMoves_0 : decode cX1_readMoves 0 = .ok (.aload_n 0, 1) := by decide +kernel
theorem dX1_readMoves_1 : decode cX1_readMoves 1 = .ok (.getfield 12, 3) := by decide +kernel
theorem dX1_readMoves_4 : decode cX1_readMoves 4 = .ok (.iconst 0, 1) := by decide +kernel
theorem dX1_readMoves_5 : decode cX1_readMoves 5 = .ok (.iconst 1, 1) := by decide +kernel
theorem dX1_readMoves_6 : decode cX1_readMoves 6 = .ok (.invokevirtual 183, 3) := by decide +kernel
theorem dX1_readMoves_9 : decode cX1_readMoves 9 = .ok (.ifCond .ne 4, 3) := by decide +kernel
theorem dX1_readMoves_12 : decode cX1_readMoves 12 = .ok (.return_, 1) := by decide +kernel
theorem dX1_readMoves_13 : decode cX1_readMoves 13 = .ok (.iconst 0, 1) := by decide +kernel
theorem dX1_readMoves_14 : decode cX1_readMoves 14 = .ok (.istore_n 3, 1) := by decide +kernel
theorem dX1_readMoves_15 : decode cX1_readMoves 15 = .ok (.iload_n 3, 1) := by decide +kernel
theorem dX1_readMoves_16 : decode cX1_readMoves 16 = .ok (.bipush 8, 2) := by decide +kernel
theorem dX1_readMoves_18 : decode cX1_readMoves 18 = .ok (.if_icmp .gt 110, 3) := by decide +kernel
theorem dX1_readMoves_21 : decode cX1_readMoves 21 = .ok (.aload_n 0, 1) := by decide +kernel
theorem dX1_readMoves_22 : decode cX1_readMoves 22 = .ok (.iconst 3, 1) := by decide +kernel
theorem dX1_readMoves_23 : decode cX1_readMoves 23 = .ok (.invokevirtual 186, 3) := by decide +kernel
theorem dX1_readMoves_26 : decode cX1_readMoves 26 = .ok (.istore 4, 2) := by decide +kernel
theorem dX1_readMoves_28 : decode cX1_readMoves 28 = .ok (.iload 4, 2) := by decide +kernel
theorem dX1_readMoves_30 : decode cX1_readMoves 30 = .ok (.iconst 3, 1) := by decide +kernel
theorem dX1_readMoves_31 : decode cX1_readMoves 31 = .ok (.if_icmp .ne 4, 3) := by decide +kernel
theorem dX1_readMoves_34 : decode cX1_readMoves 34 = .ok (.return_, 1) := by decide +kernel
theorem dX1_readMoves_35 : decode cX1_readMoves 35 = .ok (.iload_n 3, 1) := by decide +kernel
theorem dX1_readMoves_36 : decode cX1_readMoves 36 = .ok (.bipush 8, 2) := by decide +kernel
theorem dX1_readMoves_38 : decode cX1_readMoves 38 = .ok (.if_icmp .ne 18, 3) := by decide +kernel
theorem dX1_readMoves_41 : decode cX1_readMoves 41 = .ok (.aload_n 0, 1) := by decide +kernel
theorem dX1_readMoves_42 : decode cX1_readMoves 42 = .ok (.getfield 12, 3) := by decide +kernel
theorem dX1_readMoves_45 : decode cX1_readMoves 45 = .ok (.iconst 2, 1) := by decide +kernel
theorem dX1_readMoves_46 : decode cX1_readMoves 46 = .ok (.aload_n 0, 1) := by decide +kernel
theorem dX1_readMoves_47 : decode cX1_readMoves 47 = .ok (.getfield 12, 3) := by decide +kernel
theorem dX1_readMoves_50 : decode cX1_readMoves 50 = .ok (.getfield 194, 3) := by decide +kernel
theorem dX1_readMoves_53 : decode cX1_readMoves 53 = .ok (.invokevirtual 197, 3) := by decide +kernel
theorem dX1_readMoves_56 : decode cX1_readMoves 56 = .ok (.iconst 2, 1) := by decide +kernel
theorem dX1_readMoves_57 : decode cX1_readMoves 57 = .ok (.bipush 8, 2) := by decide +kernel
theorem dX1_readMoves_59 : decode cX1_readMoves 59 = .ok (.iload_n 1, 1) := by decide +kernel
theorem dX1_readMoves_60 : decode cX1_readMoves 60 = .ok (.imul, 1) := by decide +kernel
theorem dX1_readMoves_61 : decode cX1_readMoves 61 = .ok (.iload_n 3, 1) := by decide +kernel
theorem dX1_readMoves_62 : decode cX1_readMoves 62 = .ok (.iadd, 1) := by decide +kernel
theorem dX1_readMoves_63 : decode cX1_readMoves 63 = .ok (.imul, 1) := by decide +kernel
theorem dX1_readMoves_64 : decode cX1_readMoves 64 = .ok (.istore 5, 2) := by decide +kernel
theorem dX1_readMoves_66 : decode cX1_readMoves 66 = .ok (.aload_n 0, 1) := by decide +kernel
theorem dX1_readMoves_67 : decode cX1_readMoves 67 = .ok (.getfield 68, 3) := by decide +kernel
theorem dX1_readMoves_70 : decode cX1_readMoves 70 = .ok (.getfield 243, 3) := by decide +kernel
theorem dX1_readMoves_73 : decode cX1_readMoves 73 = .ok (.iload 5, 2) := by decide +kernel
theorem dX1_readMoves_75 : decode cX1_readMoves 75 = .ok (.iload 4, 2) := by decide +kernel
theorem dX1_readMoves_77 : decode cX1_readMoves 77 = .ok (.iastore, 1) := by decide +kernel
theorem dX1_readMoves_78 : decode cX1_readMoves 78 = .ok (.aload_n 0, 1) := by decide +kernel
theorem dX1_readMoves_79 : decode cX1_readMoves 79 = .ok (.getfield 68, 3) := by decide +kernel
theorem dX1_readMoves_82 : decode cX1_readMoves 82 = .ok (.getfield 243, 3) := by decide +kernel
theorem dX1_readMoves_85 : decode cX1_readMoves 85 = .ok (.iload 5, 2) := by decide +kernel
theorem dX1_readMoves_87 : decode cX1_readMoves 87 = .ok (.iconst 1, 1) := by decide +kernel
theorem dX1_readMoves_88 : decode cX1_readMoves 88 = .ok (.iadd, 1) := by decide +kernel
theorem dX1_readMoves_89 : decode cX1_readMoves 89 = .ok (.aload_n 0, 1) := by decide +kernel
theorem dX1_readMoves_90 : decode cX1_readMoves 90 = .ok (.iload 4, 2) := by decide +kernel
theorem dX1_readMoves_92 : decode cX1_readMoves 92 = .ok (.iconst 2, 1) := by decide +kernel
theorem dX1_readMoves_93 : decode cX1_readMoves 93 = .ok (.if_icmp .ne 7, 3) := by decide +kernel
theorem dX1_readMoves_96 : decode cX1_readMoves 96 = .ok (.iconst 3, 1) := by decide +kernel
theorem dX1_readMoves_97 : decode cX1_readMoves 97 = .ok (.goto 6, 3) := by decide +kernel
theorem dX1_readMoves_100 : decode cX1_readMoves 100 = .ok (.iload_n 2, 1) := by decide +kernel
theorem dX1_readMoves_101 : decode cX1_readMoves 101 = .ok (.iconst 1, 1) := by decide +kernel
theorem dX1_readMoves_102 : decode cX1_readMoves 102 = .ok (.isub, 1) := by decide +kernel
theorem dX1_readMoves_103 : decode cX1_readMoves 103 = .ok (.invokevirtual 186, 3) := by decide +kernel
theorem dX1_readMoves_106 : decode cX1_readMoves 106 = .ok (.iastore, 1) := by decide +kernel
theorem dX1_readMoves_107 : decode cX1_readMoves 107 = .ok (.aload_n 0, 1) := by decide +kernel
theorem dX1_readMoves_108 : decode cX1_readMoves 108 = .ok (.getfield 68, 3) := by decide +kernel
theorem dX1_readMoves_111 : decode cX1_readMoves 111 = .ok (.getfield 212, 3) := by decide +kernel
theorem dX1_readMoves_114 : decode cX1_readMoves 114 = .ok (.bipush 25, 2) := by decide +kernel
theorem dX1_readMoves_116 : decode cX1_readMoves 116 = .ok (.iload_n 1, 1) := by decide +kernel
theorem dX1_readMoves_117 : decode cX1_readMoves 117 = .ok (.iadd, 1) := by decide +kernel
theorem dX1_readMoves_118 : decode cX1_readMoves 118 = .ok (.iload_n 3, 1) := by decide +kernel
theorem dX1_readMoves_119 : decode cX1_readMoves 119 = .ok (.iconst 1, 1) := by decide +kernel
theorem dX1_readMoves_120 : decode cX1_readMoves 120 = .ok (.iadd, 1) := by decide +kernel
theorem dX1_readMoves_121 : decode cX1_readMoves 121 = .ok (.iastore, 1) := by decide +kernel
theorem dX1_readMoves_122 : decode cX1_readMoves 122 = .ok (.iinc 3 1, 3) := by decide +kernel
theorem dX1_readMoves_125 : decode cX1_readMoves 125 = .ok (.goto (-110), 3) := by decide +kernel
theorem dX1_readMoves_128 : decode cX1_readMoves 128 = .ok (.return_, 1) := by decide +kernel
def FX1_readMoves (G : GG) (M : DD) (a : Nat) (p0 : Int32) (p1 : Int32) : Option (DD) :=
  dr G 5 ((M.2 a 0)) fun b2 =>
  bnd (FX5_fixed G M b2 ((0 : Int32)) ((1 : Int32))) fun y3 =>
  if y3.2 = ((0 : Int32)) then (some y3.1) else
  (bnd (itr (fun (s6 : Int32 × DD) => ((if ((8 : Int32)) < s6.1 then (some (.inr (.inl (s6.1, s6.2)))) else
  (bnd (FX1_unsigned G s6.2 a ((3 : Int32))) fun y10 =>
  if y10.2 = ((3 : Int32)) then (some (.inr (.inr y10.1))) else
  (bnd (if s6.1 = ((8 : Int32)) then (dr G 5 ((y10.1.2 a 0)) fun b34 =>
  ltt (y10.1.1 b34 4) fun x35 =>
  none) else
  (some (y10.1))) fun (y12 : DD) =>
  ltt ((((8 : Int32)) * p0)) fun x13 =>
  ltt ((x13 + s6.1)) fun x14 =>
  ltt ((((2 : Int32)) * x14)) fun x15 =>
  dr G 3 ((y12.2 a 10)) fun b16 =>
  dr G 13 ((y12.2 b16 1)) fun b17 =>
  chk (¬ (x15 < 0 ∨ G.2.2 b17 ≤ x15.toNatClampNeg)) <|
  ltt (uI y12 b17 x15.toNatClampNeg y10.2) fun M18 =>
  dr G 3 ((M18.2 a 10)) fun b19 =>
  ltt ((x15 + ((1 : Int32)))) fun x20 =>
  bnd (if y10.2 = ((2 : Int32)) then (some ((3 : Int32))) else
  (ltt ((p1 - ((1 : Int32)))) fun x32 =>
  some (x32))) fun (y21 : Int32) =>
  bnd (FX1_unsigned G M18 a y21) fun y22 =>
  dr G 13 ((M18.2 b19 1)) fun b23 =>
  chk (¬ (x20 < 0 ∨ G.2.2 b23 ≤ x20.toNatClampNeg)) <|
  ltt (uI y22.1 b23 x20.toNatClampNeg y22.2) fun M24 =>
  dr G 3 ((M24.2 a 10)) fun b25 =>
  ltt ((((25 : Int32)) + p0)) fun x26 =>
  ltt ((s6.1 + ((1 : Int32)))) fun x27 =>
  dr G 13 ((M24.2 b25 0)) fun b28 =>
  chk (¬ (x26 < 0 ∨ G.2.2 b28 ≤ x26.toNatClampNeg)) <|
  ltt (uI M24 b28 x26.toNatClampNeg x27) fun M29 =>
  ltt (s6.1 + (1 : Int32)) fun x30 =>
  some (.inl (x30, M29))))) : Option ((Int32 × DD) ⊕ ((Int32 × DD) ⊕ (DD))))) 1000000 ((0 : Int32), y3.1)) fun (y5 : (Int32 × DD) ⊕ (DD)) =>
  sel y5 (fun (z5k : Int32 × DD) =>
  some z5k.2) fun r9 => some r9)
set_option maxHeartbeats 4000000 in
set_option maxRecDepth 100000 in
theorem kX1_readMoves (l : Launch) (D : va_G) (ct : CT) (ad : Nat → Nat) (Z : Nat → Nat) (G : GG) (M : DD) (sz : Nat) (a : Nat) (p0 : Int32) (p1 : Int32) (y : DD) (hc : a < G.1) (hk : G.2.1 a = 1) (hF : FX1_readMoves G M a p0 p1 = some y) : Met l yX1_readMoves wsX1_readMoves ({ frames := 3, cells := 0, slots := 0, locals := 80 }) (va_Pc [.ref (ad a), .int p0, .int p1] (kB D ct ad Z G M sz)) (va_Qv (fun (_ : Unit) => True) (fun _ t => kE D ct ad G (wA ad G sz) y t) (wA ad G sz)) 0 0 (wA ad G sz) := by
  refine Met.ofW (cc := cX1_readMoves) (maxL := 6) (ret := none) (by decide) rfl ?_
  intro p e s m args below meth c s₁ B hml hv
  obtain ⟨rfl, hsz, hP, hK, hD0, hZ, hN⟩ := hv
  have hx := B.exec
  have hb := B.bytes
  have hr := B.returns
  have hts := atoms_spec (ws := wsX1_readMoves) B.pre
  have hown : s.vm.findClass RX1 = some m.cls := findClass_of_methodNamed B.named
  have hlocks := B.notSynchronized
  subst hsz
  have hD := wD_self (sz := s.heap.size) hD0
  have hA9 : ∀ q, s.heap.size ≤ q → wA ad G s.heap.size q := fun q h => Or.inr h
  generalize hAe : wA ad G s.heap.size = A at hD hA9 hZ ⊢
  have hS : va_S A s.heap s.heap [] := va_S.rf
  have hl := lv_entry ([.ref (ad a), .int p0, .int p1]) (n := 6) (Nat.le_of_ble_eq_true rfl)
  rw [lg_entry_eq]
  generalize (lg_sl ([.ref (ad a), .int p0, .int p1]) ++ List.replicate (6 - (lg_sl ([.ref (ad a), .int p0, .int p1])).length) Slot.unset).toArray = ls at hl ⊢
  have hl : lv_has ls 6 [(0, .ref (ad a)), (1, .int p0), (2, .int p1)] := hl
  unfold FX1_readMoves at hF
  refine lv_aload_n hx hb dX1_readMoves_0 rfl (lv_at hl 0 rfl) ?_
  refine va_get (D := D) (ci := 1) (v := va_re ad (M.2 a 0)) (C := RX1) (T := TX1) (N := 22) hx hb hts (by decide +kernel) hown hK hP a (wld_o ct ad G M hc hk (by decide)) rfl 0 (by decide) (hts (.fieldLink RX1 12 "VideoSuite$Decoder" "reader" "LVideoSuite$Reader;") (by decide +kernel)) (fun _ h9 => h9) rfl dX1_readMoves_1 ?_
  refine lv_iconst (v := (0 : Int32)) hx hb dX1_readMoves_4 (by decide) ?_
  refine lv_iconst (v := (1 : Int32)) hx hb dX1_readMoves_5 (by decide) ?_
  obtain ⟨b2, ho2, hc2, hk2, hF⟩ := dr_some hF
  refine W_st (st' := [.int (1 : Int32), .int (0 : Int32), .ref (ad b2)]) (by rw [va_some ho2]) ?_
  obtain ⟨y3, hy3, hF⟩ := bnd_some hF
  have hf9 := wA_in hD hA9 hS
  refine va_calli (va_runV (As := [.int (0 : Int32), .int (1 : Int32)]) (rest := []) ⟨hx, hb, hml, hown, hts⟩ (kX5_fixed l D ct ad Z G M s.heap.size b2 ((0 : Int32)) ((1 : Int32)) y3 hc2 hk2 hy3) (cwV 2 hts gX1_readMoves_X5_fixed rfl rfl rfl (by decide +kernel) ⟨Nat.le_of_ble_eq_true rfl, Nat.le_of_ble_eq_true rfl⟩) ⟨fun a U g mk q => by obtain ⟨q0, q1, qP, qK, qD, qZ, qN⟩ := q; exact ⟨q0, q1, qP, va_K.moved (u := U) (U := U.calling g mk a) (Vm.Alike.refl U.vm) qK, qD, sF.moved (u := U) (U := U.calling g mk a) (Vm.Alike.refl U.vm) qZ, nF.same rfl qN⟩, va_recv hK hP (ci := 5) (q0 := b2) rfl (wld_o ct ad G M hc2 hk2 (by decide)), fun U hU hW => ⟨rfl, by rw [hU], by rw [hU]; exact hP, va_K.moved hW.alike hK, hD.weaken (fun _ _ _ _ => trivial), by rw [hU]; exact ((hZ.kept hS.2.1).narrow hf9).moved hW.alike, hN.warm hW⟩⟩ rfl rfl hl.1 rfl (lv_room (Nat.le_of_ble_eq_true rfl)) dX1_readMoves_6 ⟨(Nat.zero_le _), (Nat.zero_le _)⟩) hS (fun q _ h => hf9 q h) hf9 (fun r u t H locs ht hvm hw hB hz1 hk1 hS => ?_)
  obtain ⟨hP, hK9, hD9⟩ := hB
  rw [ht] at hP
  try dsimp only at hw
  subst hw
  have hD := hD9.weaken (fun _ q _ h => hf9 q.1 h)
  refine lv_if_ne (tgt := 13) hx hb dX1_readMoves_9 (by decide) (fun c4 => ?_) (fun c4 => ?_)
  · rw [if_neg c4] at hF
    refine lv_iconst (v := (0 : Int32)) hx hb dX1_readMoves_13 (by decide) ?_
    refine lv_istore_n (lv' := [(3, .int (0 : Int32)), (0, .ref (ad a)), (1, .int p0), (2, .int p1)]) hx hb dX1_readMoves_14 rfl hl (by decide) rfl (fun ls hl => ?_)
    obtain ⟨y5, hy5, hF⟩ := bnd_some hF
    have K5 : ∀ z5k : Int32 × DD, y5 = .inl z5k → ∀ (H : Heap) (locs : List Loc) (ls : Array Slot), va_P D classes (wld ct ad G z5k.2) H → va_D A (wld ct ad G z5k.2) → va_S A s.heap H locs → lv_has ls 6 [(3, .int z5k.1), (0, .ref (ad a)), (1, .int p0), (2, .int p1)] → W p l e (headSpec wsX1_readMoves ({ frames := 3, cells := 0, slots := 0, locals := 80 })).room s m ([.ref (ad a), .int p0, .int p1] : List Value).toArray below meth c H locs 0 0 (MQ below (va_Qv (fun (_ : Unit) => True) (fun _ t => kE D ct ad G A y t) A) ([.ref (ad a), .int p0, .int p1] : List Value).toArray s 0 0 A) (F0 m 128 ls []) := by
      intro z5k hz5 H locs ls hP hD hS hl
      have hF := sel_inl (hz5 ▸ hF)
      obtain rfl := Option.some.inj hF
      exact W.vret hx hb hr (fun t ht hW => ⟨⟨(), rfl, trivial, ⟨by rw [ht]; exact hP, va_K.moved hW.alike hK, hD⟩⟩, hS.F ht⟩) hS.2.2 dX1_readMoves_128
    have hR5 := hF
    clear hF
    refine itr_rule (fun (s6 : Int32 × DD) => ∀ (H : Heap) (locs : List Loc) (ls : Array Slot), va_P D classes (wld ct ad G s6.2) H → va_D A (wld ct ad G s6.2) → va_S A s.heap H locs → lv_has ls 6 [(3, .int s6.1), (0, .ref (ad a)), (1, .int p0), (2, .int p1)] → W p l e (headSpec wsX1_readMoves ({ frames := 3, cells := 0, slots := 0, locals := 80 })).room s m ([.ref (ad a), .int p0, .int p1] : List Value).toArray below meth c H locs 0 0 (MQ below (va_Qv (fun (_ : Unit) => True) (fun _ t => kE D ct ad G A y t) A) ([.ref (ad a), .int p0, .int p1] : List Value).toArray s 0 0 A) (F0 m 15 ls [])) ?_ _ _ hy5 _ _ _ hP hD hS (lv_sub hl [0, 1, 2, 3] rfl)
    rintro s6 ⟨z8, hF, hwz8⟩ H locs ls hP hD hS hl
    try dsimp only at hF
    refine lv_iload_n hx hb dX1_readMoves_15 rfl (lv_at hl 0 rfl) ?_
    refine lv_bipush (v := (8 : Int32)) hx hb dX1_readMoves_16 (by decide) ?_
    refine lv_icmp_gt (tgt := 128) hx hb dX1_readMoves_18 (by decide) (fun c9 => ?_) (fun c9 => ?_)
    · rw [if_pos c9] at hF
      obtain rfl := Option.some.inj hF
      exact K5 _ hwz8.symm _ _ _ hP hD hS (lv_sub hl [0, 1, 2, 3] rfl)
    · rw [if_neg c9] at hF
      refine lv_aload_n hx hb dX1_readMoves_21 rfl (lv_at hl 1 rfl) ?_
      refine lv_iconst (v := (3 : Int32)) hx hb dX1_readMoves_22 (by decide) ?_
      obtain ⟨y10, hy10, hF⟩ := bnd_some hF
      have hf9 := wA_in hD hA9 hS
      refine va_calli (va_runV (As := [.int (3 : Int32)]) (rest := []) ⟨hx, hb, hml, hown, hts⟩ (kX1_unsigned l D ct ad Z G s6.2 H.size a ((3 : Int32)) y10 hc hk hy10) (cwV 1 hts gX1_readMoves_X1_unsigned rfl rfl rfl (by decide +kernel) ⟨Nat.le_of_ble_eq_true rfl, Nat.le_of_ble_eq_true rfl⟩) ⟨fun a U g mk q => by obtain ⟨q0, q1, qP, qK, qD, qZ, qN⟩ := q; exact ⟨q0, q1, qP, va_K.moved (u := U) (U := U.calling g mk a) (Vm.Alike.refl U.vm) qK, qD, sF.moved (u := U) (U := U.calling g mk a) (Vm.Alike.refl U.vm) qZ, nF.same rfl qN⟩, va_recv hK hP (ci := 1) (q0 := a) rfl (wld_o ct ad G s6.2 hc hk (by decide)), fun U hU hW => ⟨rfl, by rw [hU], by rw [hU]; exact hP, va_K.moved hW.alike hK, hD.weaken (fun _ _ _ _ => trivial), by rw [hU]; exact ((hZ.kept hS.2.1).narrow hf9).moved hW.alike, hN.warm hW⟩⟩ rfl rfl hl.1 rfl (lv_room (Nat.le_of_ble_eq_true rfl)) dX1_readMoves_23 ⟨(Nat.zero_le _), (Nat.zero_le _)⟩) hS (fun q _ h => hf9 q h) hf9 (fun r u t H locs ht hvm hw hB hz1 hk1 hS => ?_)
      obtain ⟨hP, hK9, hD9⟩ := hB
      rw [ht] at hP
      try dsimp only at hw
      subst hw
      have hD := hD9.weaken (fun _ q _ h => hf9 q.1 h)
      refine lv_istore (lv' := [(4, .int y10.2), (3, .int s6.1), (0, .ref (ad a)), (1, .int p0), (2, .int p1)]) hx hb dX1_readMoves_26 hl (by decide) rfl (fun ls hl => ?_)
      refine lv_iload hx hb dX1_readMoves_28 (lv_at hl 0 rfl) ?_
      refine lv_iconst (v := (3 : Int32)) hx hb dX1_readMoves_30 (by decide) ?_
      refine lv_icmp_ne (tgt := 35) hx hb dX1_readMoves_31 (by decide) (fun c11 => ?_) (fun c11 => ?_)
      · rw [if_neg c11] at hF
        refine lv_iload_n hx hb dX1_readMoves_35 rfl (lv_at hl 1 rfl) ?_
        refine lv_bipush (v := (8 : Int32)) hx hb dX1_readMoves_36 (by decide) ?_
        obtain ⟨y12, hy12, hF⟩ := bnd_some hF
        have J12 : ∀ (H : Heap) (locs : List Loc) (ls : Array Slot), va_P D classes (wld ct ad G y12) H → va_D A (wld ct ad G y12) → va_S A s.heap H locs → lv_has ls 6 [(4, .int y10.2), (3, .int s6.1), (0, .ref (ad a)), (1, .int p0), (2, .int p1)] → W p l e (headSpec wsX1_readMoves ({ frames := 3, cells := 0, slots := 0, locals := 80 })).room s m ([.ref (ad a), .int p0, .int p1] : List Value).toArray below meth c H locs 0 0 (MQ below (va_Qv (fun (_ : Unit) => True) (fun _ t => kE D ct ad G A y t) A) ([.ref (ad a), .int p0, .int p1] : List Value).toArray s 0 0 A) (F0 m 56 ls []) := by
          intro H locs ls hP hD hS hl
          refine lv_iconst (v := (2 : Int32)) hx hb dX1_readMoves_56 (by decide) ?_
          refine lv_bipush (v := (8 : Int32)) hx hb dX1_readMoves_57 (by decide) ?_
          refine lv_iload_n hx hb dX1_readMoves_59 rfl (lv_at hl 3 rfl) ?_
          refine lv_imul hx hb dX1_readMoves_60 ?_
          obtain ⟨x13, ex13, hF⟩ := ltt_some hF
          refine lv_topi (fun zx13 ezx13 => ?_)
          obtain rfl : x13 = zx13 := ex13.trans ezx13.symm
          refine lv_iload_n hx hb dX1_readMoves_61 rfl (lv_at hl 1 rfl) ?_
          refine lv_iadd hx hb dX1_readMoves_62 ?_
          obtain ⟨x14, ex14, hF⟩ := ltt_some hF
          refine lv_topi (fun zx14 ezx14 => ?_)
          obtain rfl : x14 = zx14 := ex14.trans ezx14.symm
          refine lv_imul hx hb dX1_readMoves_63 ?_
          obtain ⟨x15, ex15, hF⟩ := ltt_some hF
          refine lv_topi (fun zx15 ezx15 => ?_)
          obtain rfl : x15 = zx15 := ex15.trans ezx15.symm
          refine lv_istore (lv' := [(5, .int x15), (4, .int y10.2), (3, .int s6.1), (0, .ref (ad a)), (1, .int p0), (2, .int p1)]) hx hb dX1_readMoves_64 hl (by decide) rfl (fun ls hl => ?_)
          refine lv_aload_n hx hb dX1_readMoves_66 rfl (lv_at hl 3 rfl) ?_
          refine va_get (D := D) (ci := 1) (v := va_re ad (y12.2 a 10)) (C := RX1) (T := TX1) (N := 22) hx hb hts (by decide +kernel) hown hK hP a (wld_o ct ad G y12 hc hk (by decide)) rfl 10 (by decide) (hts (.fieldLink RX1 68 "VideoSuite$Decoder" "head" "LVideoSuite$Header;") (by decide +kernel)) (fun _ h9 => h9) rfl dX1_readMoves_67 ?_
          obtain ⟨b16, ho16, hc16, hk16, hF⟩ := dr_some hF
          refine W_st (st' := [.ref (ad b16)]) (by rw [va_some ho16]) ?_
          refine va_get (D := D) (ci := 3) (v := va_re ad (y12.2 b16 1)) (C := RX3) (T := TX3) (N := 4) hx hb hts (by decide +kernel) hown hK hP b16 (wld_o ct ad G y12 hc16 hk16 (by decide)) rfl 1 (by decide) (hts (.fieldLink RX1 243 "VideoSuite$Header" "move" "[I") (by decide +kernel)) (fun _ h9 => h9) rfl dX1_readMoves_70 ?_
          refine lv_iload hx hb dX1_readMoves_73 (lv_at hl 0 rfl) ?_
          refine lv_iload hx hb dX1_readMoves_75 (lv_at hl 1 rfl) ?_
          obtain ⟨b17, ho17, hc17, hk17, hF⟩ := dr_some hF
          refine W_st (st' := [.int y10.2, .int x15, .ref (ad b17)]) (by rw [va_some ho17]) ?_
          obtain ⟨hvc, hF⟩ := chk_some hF
          refine va_iast hx hb hK hP hD hS b17 1 (wld_i ct ad G y12 hc17 hk17) rfl hvc dX1_readMoves_77 (fun H locs hP hD hS => ?_)
          obtain ⟨M18, eM18, hF⟩ := ltt_some hF
          rw [set_i ct ad G y12 hc17 hk17, ← eM18] at hP hD
          refine lv_aload_n hx hb dX1_readMoves_78 rfl (lv_at hl 3 rfl) ?_
          refine va_get (D := D) (ci := 1) (v := va_re ad (M18.2 a 10)) (C := RX1) (T := TX1) (N := 22) hx hb hts (by decide +kernel) hown hK hP a (wld_o ct ad G M18 hc hk (by decide)) rfl 10 (by decide) (hts (.fieldLink RX1 68 "VideoSuite$Decoder" "head" "LVideoSuite$Header;") (by decide +kernel)) (fun _ h9 => h9) rfl dX1_readMoves_79 ?_
          obtain ⟨b19, ho19, hc19, hk19, hF⟩ := dr_some hF
          refine W_st (st' := [.ref (ad b19)]) (by rw [va_some ho19]) ?_
          refine va_get (D := D) (ci := 3) (v := va_re ad (M18.2 b19 1)) (C := RX3) (T := TX3) (N := 4) hx hb hts (by decide +kernel) hown hK hP b19 (wld_o ct ad G M18 hc19 hk19 (by decide)) rfl 1 (by decide) (hts (.fieldLink RX1 243 "VideoSuite$Header" "move" "[I") (by decide +kernel)) (fun _ h9 => h9) rfl dX1_readMoves_82 ?_
          refine lv_iload hx hb dX1_readMoves_85 (lv_at hl 0 rfl) ?_
          refine lv_iconst (v := (1 : Int32)) hx hb dX1_readMoves_87 (by decide) ?_
          refine lv_iadd hx hb dX1_readMoves_88 ?_
          obtain ⟨x20, ex20, hF⟩ := ltt_some hF
          refine lv_topi (fun zx20 ezx20 => ?_)
          obtain rfl : x20 = zx20 := ex20.trans ezx20.symm
          refine lv_aload_n hx hb dX1_readMoves_89 rfl (lv_at hl 3 rfl) ?_
          refine lv_iload hx hb dX1_readMoves_90 (lv_at hl 1 rfl) ?_
          refine lv_iconst (v := (2 : Int32)) hx hb dX1_readMoves_92 (by decide) ?_
          obtain ⟨y21, hy21, hF⟩ := bnd_some hF
          have J21 : ∀ (H : Heap) (locs : List Loc) (ls : Array Slot), va_P D classes (wld ct ad G M18) H → va_D A (wld ct ad G M18) → va_S A s.heap H locs → lv_has ls 6 [(5, .int x15), (4, .int y10.2), (3, .int s6.1), (0, .ref (ad a)), (1, .int p0), (2, .int p1)] → W p l e (headSpec wsX1_readMoves ({ frames := 3, cells := 0, slots := 0, locals := 80 })).room s m ([.ref (ad a), .int p0, .int p1] : List Value).toArray below meth c H locs 0 0 (MQ below (va_Qv (fun (_ : Unit) => True) (fun _ t => kE D ct ad G A y t) A) ([.ref (ad a), .int p0, .int p1] : List Value).toArray s 0 0 A) (F0 m 103 ls [.int y21, .ref (ad a), .int x20, va_re ad (M18.2 b19 1)]) := by
            intro H locs ls hP hD hS hl
            obtain ⟨y22, hy22, hF⟩ := bnd_some hF
            have hf9 := wA_in hD hA9 hS
            refine va_calli (va_runV (As := [.int y21]) (rest := [.int x20, va_re ad (M18.2 b19 1)]) ⟨hx, hb, hml, hown, hts⟩ (kX1_unsigned l D ct ad Z G M18 H.size a y21 y22 hc hk hy22) (cwV 1 hts gX1_readMoves_X1_unsigned rfl rfl rfl (by decide +kernel) ⟨Nat.le_of_ble_eq_true rfl, Nat.le_of_ble_eq_true rfl⟩) ⟨fun a U g mk q => by obtain ⟨q0, q1, qP, qK, qD, qZ, qN⟩ := q; exact ⟨q0, q1, qP, va_K.moved (u := U) (U := U.calling g mk a) (Vm.Alike.refl U.vm) qK, qD, sF.moved (u := U) (U := U.calling g mk a) (Vm.Alike.refl U.vm) qZ, nF.same rfl qN⟩, va_recv hK hP (ci := 1) (q0 := a) rfl (wld_o ct ad G M18 hc hk (by decide)), fun U hU hW => ⟨rfl, by rw [hU], by rw [hU]; exact hP, va_K.moved hW.alike hK, hD.weaken (fun _ _ _ _ => trivial), by rw [hU]; exact ((hZ.kept hS.2.1).narrow hf9).moved hW.alike, hN.warm hW⟩⟩ rfl rfl hl.1 rfl (lv_room (by simp only [List.map, va_re_cat]; exact Nat.le_of_ble_eq_true rfl)) dX1_readMoves_103 ⟨(Nat.zero_le _), (Nat.zero_le _)⟩) hS (fun q _ h => hf9 q h) hf9 (fun r u t H locs ht hvm hw hB hz1 hk1 hS => ?_)
            obtain ⟨hP, hK9, hD9⟩ := hB
            rw [ht] at hP
            try dsimp only at hw
            subst hw
            have hD := hD9.weaken (fun _ q _ h => hf9 q.1 h)
            obtain ⟨b23, ho23, hc23, hk23, hF⟩ := dr_some hF
            refine W_st (st' := [.int y22.2, .int x20, .ref (ad b23)]) (by rw [va_some ho23]) ?_
            obtain ⟨hvc, hF⟩ := chk_some hF
            refine va_iast hx hb hK hP hD hS b23 1 (wld_i ct ad G y22.1 hc23 hk23) rfl hvc dX1_readMoves_106 (fun H locs hP hD hS => ?_)
            obtain ⟨M24, eM24, hF⟩ := ltt_some hF
            rw [set_i ct ad G y22.1 hc23 hk23, ← eM24] at hP hD
            refine lv_aload_n hx hb dX1_readMoves_107 rfl (lv_at hl 3 rfl) ?_
            refine va_get (D := D) (ci := 1) (v := va_re ad (M24.2 a 10)) (C := RX1) (T := TX1) (N := 22) hx hb hts (by decide +kernel) hown hK hP a (wld_o ct ad G M24 hc hk (by decide)) rfl 10 (by decide) (hts (.fieldLink RX1 68 "VideoSuite$Decoder" "head" "LVideoSuite$Header;") (by decide +kernel)) (fun _ h9 => h9) rfl dX1_readMoves_108 ?_
            obtain ⟨b25, ho25, hc25, hk25, hF⟩ := dr_some hF
            refine W_st (st' := [.ref (ad b25)]) (by rw [va_some ho25]) ?_
            refine va_get (D := D) (ci := 3) (v := va_re ad (M24.2 b25 0)) (C := RX3) (T := TX3) (N := 4) hx hb hts (by decide +kernel) hown hK hP b25 (wld_o ct ad G M24 hc25 hk25 (by decide)) rfl 0 (by decide) (hts (.fieldLink RX1 212 "VideoSuite$Header" "v" "[I") (by decide +kernel)) (fun _ h9 => h9) rfl dX1_readMoves_111 ?_
            refine lv_bipush (v := (25 : Int32)) hx hb dX1_readMoves_114 (by decide) ?_
            refine lv_iload_n hx hb dX1_readMoves_116 rfl (lv_at hl 4 rfl) ?_
            refine lv_iadd hx hb dX1_readMoves_117 ?_
            obtain ⟨x26, ex26, hF⟩ := ltt_some hF
            refine lv_topi (fun zx26 ezx26 => ?_)
            obtain rfl : x26 = zx26 := ex26.trans ezx26.symm
            refine lv_iload_n hx hb dX1_readMoves_118 rfl (lv_at hl 2 rfl) ?_
            refine lv_iconst (v := (1 : Int32)) hx hb dX1_readMoves_119 (by decide) ?_
            refine lv_iadd hx hb dX1_readMoves_120 ?_
            obtain ⟨x27, ex27, hF⟩ := ltt_some hF
            refine lv_topi (fun zx27 ezx27 => ?_)
            obtain rfl : x27 = zx27 := ex27.trans ezx27.symm
            obtain ⟨b28, ho28, hc28, hk28, hF⟩ := dr_some hF
            refine W_st (st' := [.int x27, .int x26, .ref (ad b28)]) (by rw [va_some ho28]) ?_
            obtain ⟨hvc, hF⟩ := chk_some hF
            refine va_iast hx hb hK hP hD hS b28 1 (wld_i ct ad G M24 hc28 hk28) rfl hvc dX1_readMoves_121 (fun H locs hP hD hS => ?_)
            obtain ⟨M29, eM29, hF⟩ := ltt_some hF
            rw [set_i ct ad G M24 hc28 hk28, ← eM29] at hP hD
            obtain ⟨x30, ex30, hF⟩ := ltt_some hF
            refine lv_iinc (v := x30) (lv' := [(3, .int x30), (5, .int x15), (4, .int y10.2), (0, .ref (ad a)), (1, .int p0), (2, .int p1)]) hx hb dX1_readMoves_122 hl (k := 2) rfl (by rw [ex30]; rfl) (by decide) rfl (fun ls hl => ?_)
            refine lv_goto (tgt := 15) hx hb dX1_readMoves_125 (by decide) ?_
            obtain rfl := Option.some.inj hF
            exact hwz8 _ _ _ hP hD hS (lv_sub hl [0, 3, 4, 5] rfl)
          clear hF
          have hF := hy21
          clear hy21
          refine lv_icmp_ne (tgt := 100) hx hb dX1_readMoves_93 (by decide) (fun c31 => ?_) (fun c31 => ?_)
          · rw [if_neg c31] at hF
            refine lv_iload_n hx hb dX1_readMoves_100 rfl (lv_at hl 5 rfl) ?_
            refine lv_iconst (v := (1 : Int32)) hx hb dX1_readMoves_101 (by decide) ?_
            refine lv_isub hx hb dX1_readMoves_102 ?_
            obtain ⟨x32, ex32, hF⟩ := ltt_some hF
            refine lv_topi (fun zx32 ezx32 => ?_)
            obtain rfl : x32 = zx32 := ex32.trans ezx32.symm
            obtain rfl := Option.some.inj hF
            exact J21 _ _ _ hP hD hS (lv_sub hl [0, 1, 2, 3, 4, 5] rfl)
          · rw [if_pos c31] at hF
            refine lv_iconst (v := (3 : Int32)) hx hb dX1_readMoves_96 (by decide) ?_
            refine lv_goto (tgt := 103) hx hb dX1_readMoves_97 (by decide) ?_
            obtain rfl := Option.some.inj hF
            exact J21 _ _ _ hP hD hS (lv_sub hl [0, 1, 2, 3, 4, 5] rfl)
        clear hF
        have hF := hy12
        clear hy12
        refine lv_icmp_ne (tgt := 56) hx hb dX1_readMoves_38 (by decide) (fun c33 => ?_) (fun c33 => ?_)
        · rw [if_neg c33] at hF
          obtain rfl := Option.some.inj hF
          exact J12 _ _ _ hP hD hS (lv_sub hl [0, 1, 2, 3, 4] rfl)
        · rw [if_pos c33] at hF
          refine lv_aload_n hx hb dX1_readMoves_41 rfl (lv_at hl 2 rfl) ?_
          refine va_get (D := D) (ci := 1) (v := va_re ad (y10.1.2 a 0)) (C := RX1) (T := TX1) (N := 22) hx hb hts (by decide +kernel) hown hK hP a (wld_o ct ad G y10.1 hc hk (by decide)) rfl 0 (by decide) (hts (.fieldLink RX1 12 "VideoSuite$Decoder" "reader" "LVideoSuite$Reader;") (by decide +kernel)) (fun _ h9 => h9) rfl dX1_readMoves_42 ?_
          refine lv_iconst (v := (2 : Int32)) hx hb dX1_readMoves_45 (by decide) ?_
          refine lv_aload_n hx hb dX1_readMoves_46 rfl (lv_at hl 2 rfl) ?_
          refine va_get (D := D) (ci := 1) (v := va_re ad (y10.1.2 a 0)) (C := RX1) (T := TX1) (N := 22) hx hb hts (by decide +kernel) hown hK hP a (wld_o ct ad G y10.1 hc hk (by decide)) rfl 0 (by decide) (hts (.fieldLink RX1 12 "VideoSuite$Decoder" "reader" "LVideoSuite$Reader;") (by decide +kernel)) (fun _ h9 => h9) rfl dX1_readMoves_47 ?_
          obtain ⟨b34, ho34, hc34, hk34, hF⟩ := dr_some hF
          refine W_st (st' := [.ref (ad b34), .int (2 : Int32), .ref (ad b34)]) (by rw [va_some ho34]) ?_
          refine va_get (D := D) (ci := 5) (v := .int (y10.1.1 b34 4)) (C := RX5) (T := TX5) (N := 17) hx hb hts (by decide +kernel) hown hK hP b34 (wld_o ct ad G y10.1 hc34 hk34 (by decide)) rfl 4 (by decide) (hts (.fieldLink RX1 194 "VideoSuite$Reader" "begin" "I") (by decide +kernel)) (fun _ h9 => h9) rfl dX1_readMoves_50 ?_
          obtain ⟨x35, ex35, hF⟩ := ltt_some hF
          refine lv_topi (fun zx35 ezx35 => ?_)
          obtain rfl : x35 = zx35 := ex35.trans ezx35.symm
          cases hF
      · rw [if_pos c11] at hF
        obtain rfl := Option.some.inj hF
        have hF := sel_inr (hwz8 ▸ hR5)
        obtain rfl := Option.some.inj hF
        exact W.vret hx hb hr (fun t ht hW => ⟨⟨(), rfl, trivial, ⟨by rw [ht]; exact hP, va_K.moved hW.alike hK, hD⟩⟩, hS.F ht⟩) hS.2.2 dX1_readMoves_34
  · rw [if_pos c4] at hF
    obtain rfl := Option.some.inj hF
    exact W.vret hx hb hr (fun t ht hW => ⟨⟨(), rfl, trivial, ⟨by rw [ht]; exact hP, va_K.moved hW.alike hK, hD⟩⟩, hS.F ht⟩) hS.2.2 dX1_readMoves_12
theorem ggX1_readOrder_X1_signed : GoodIn wsX1_readOrder wsX1_signed := goodIn_ca (goodIn_r _ [39, 3, 40, 41, 42, 7, 43, 9, 10, 44, 11, 12, 13, 14, 15, 16, 17, 18, 19, 20, 21, 22, 23, 24, 25, 26, 27, 45, 46, 47, 48, 28, 29, 30, 31, 32, 33, 34, 49, 50, 51, 52, 53, 54, 55, 56, 57, 58, 59, 60, 61, 62, 63, 64, 65, 66, 67, 68, 69, 70, 75, 76, 77, 78, 79, 80, 81, 82, 83, 84, 85, 86, 87, 88, 89, 90, 91] (by decide +kernel) (by decide +kernel)) (goodIn_sub (fun _ h => List.mem_cons_of_mem _ (List.mem_append_right _ h)) (by decide +kernel))
set_option maxRecDepth 20000 in
theorem gX1_readOrder_X1_signed : GoodIn wsX1_readOrder (wsV RX1 209 RX1 yX1_signed wsX1_signed) := goodIn_app (goodIn_of _ (by decide +kernel)) ggX1_readOrder_X1_signed
theorem ggX1_readOrder_X5_fixed : GoodIn wsX1_readOrder wsX5_fixed := goodIn_ca (goodIn_r _ [8, 9, 10, 11, 12, 13, 7, 14, 15, 16, 17, 18, 19, 20, 21, 22, 23, 24, 25, 26, 27, 28, 29, 30, 31, 32, 33, 34, 75, 76, 77, 78, 79, 80, 81, 82, 83, 84, 85, 86, 87, 88, 89, 90, 91] (by decide +kernel) (by decide +kernel)) (goodIn_sub (fun _ h => List.mem_cons_of_mem _ (List.mem_append_right _ h)) (by decide +kernel))
set_option maxRecDepth 20000 in
theorem gX1_readOrder_X5_fixed : GoodIn wsX1_readOrder (wsV RX1 183 RX5 yX5_fixed wsX5_fixed) := goodIn_app (goodIn_of _ (by decide +kernel)) ggX1_readOrder_X5_fixed
set_option maxRecDepth 20000 in
theorem dX1_readOrder_0 : decode cX1_readOrder 0 = .ok (.aload_n 0, 1) := by decide +kernel
theorem dX1_readOrder_1 : decode cX1_readOrder 1 = .ok (.getfield 68, 3) := by decide +kernel
theorem dX1_readOrder_4 : decode cX1_readOrder 4 = .ok (.getfield 212, 3) := by decide +kernel
theorem dX1_readOrder_7 : decode cX1_readOrder 7 = .ok (.astore_n 3, 1) := by decide +kernel
theorem dX1_readOrder_8 : decode cX1_readOrder 8 = .ok (.aload_n 1, 1) := by decide +kernel
theorem dX1_readOrder_9 : decode cX1_readOrder 9 = .ok (.iconst 3, 1) := by decide +kernel
theorem dX1_readOrder_10 : decode cX1_readOrder 10 = .ok (.iaload, 1) := by decide +kernel
theorem dX1_readOrder_11 : decode cX1_readOrder 11 = .ok (.ifCond .ne 41, 3) := by decide +kernel
theorem dX1_readOrder_14 : decode cX1_readOrder 14 = .ok (.aload_n 3, 1) := by decide +kernel
theorem dX1_readOrder_15 : decode cX1_readOrder 15 = .ok (.iconst 5, 1) := by decide +kernel
theorem dX1_readOrder_16 : decode cX1_readOrder 16 = .ok (.aload_n 0, 1) := by decide +kernel
theorem dX1_readOrder_17 : decode cX1_readOrder 17 = .ok (.getfield 12, 3) := by decide +kernel
theorem dX1_readOrder_20 : decode cX1_readOrder 20 = .ok (.iconst 0, 1) := by decide +kernel
theorem dX1_readOrder_21 : decode cX1_readOrder 21 = .ok (.aload_n 1, 1) := by decide +kernel
theorem dX1_readOrder_22 : decode cX1_readOrder 22 = .ok (.iconst 4, 1) := by decide +kernel
theorem dX1_readOrder_23 : decode cX1_readOrder 23 = .ok (.iaload, 1) := by decide +kernel
theorem dX1_readOrder_24 : decode cX1_readOrder 24 = .ok (.invokevirtual 183, 3) := by decide +kernel
theorem dX1_readOrder_27 : decode cX1_readOrder 27 = .ok (.iastore, 1) := by decide +kernel
theorem dX1_readOrder_28 : decode cX1_readOrder 28 = .ok (.aload_n 2, 1) := by decide +kernel
theorem dX1_readOrder_29 : decode cX1_readOrder 29 = .ok (.iconst 2, 1) := by decide +kernel
theorem dX1_readOrder_30 : decode cX1_readOrder 30 = .ok (.iaload, 1) := by decide +kernel
theorem dX1_readOrder_31 : decode cX1_readOrder 31 = .ok (.iconst 1, 1) := by decide +kernel
theorem dX1_readOrder_32 : decode cX1_readOrder 32 = .ok (.if_icmp .ne 69, 3) := by decide +kernel
theorem dX1_readOrder_35 : decode cX1_readOrder 35 = .ok (.aload_n 3, 1) := by decide +kernel
theorem dX1_readOrder_36 : decode cX1_readOrder 36 = .ok (.bipush 6, 2) := by decide +kernel
theorem dX1_readOrder_38 : decode cX1_readOrder 38 = .ok (.aload_n 0, 1) := by decide +kernel
theorem dX1_readOrder_39 : decode cX1_readOrder 39 = .ok (.sipush (-32768), 3) := by decide +kernel
theorem dX1_readOrder_42 : decode cX1_readOrder 42 = .ok (.sipush 32767, 3) := by decide +kernel
theorem dX1_readOrder_45 : decode cX1_readOrder 45 = .ok (.invokevirtual 209, 3) := by decide +kernel
theorem dX1_readOrder_48 : decode cX1_readOrder 48 = .ok (.iastore, 1) := by decide +kernel
theorem dX1_readOrder_49 : decode cX1_readOrder 49 = .ok (.goto 52, 3) := by decide +kernel
theorem dX1_readOrder_52 : decode cX1_readOrder 52 = .ok (.aload_n 1, 1) := by decide +kernel
theorem dX1_readOrder_53 : decode cX1_readOrder 53 = .ok (.iconst 3, 1) := by decide +kernel
theorem dX1_readOrder_54 : decode cX1_readOrder 54 = .ok (.iaload, 1) := by decide +kernel
theorem dX1_readOrder_55 : decode cX1_readOrder 55 = .ok (.iconst 1, 1) := by decide +kernel
theorem dX1_readOrder_56 : decode cX1_readOrder 56 = .ok (.if_icmp .ne 45, 3) := by decide +kernel
theorem dX1_readOrder_59 : decode cX1_readOrder 59 = .ok (.aload_n 1, 1) := by decide +kernel
theorem dX1_readOrder_60 : decode cX1_readOrder 60 = .ok (.bipush 11, 2) := by decide +kernel
theorem dX1_readOrder_62 : decode cX1_readOrder 62 = .ok (.iaload, 1) := by decide +kernel
theorem dX1_readOrder_63 : decode cX1_readOrder 63 = .ok (.ifCond .ne 38, 3) := by decide +kernel
theorem dX1_readOrder_66 : decode cX1_readOrder 66 = .ok (.aload_n 3, 1) := by decide +kernel
theorem dX1_readOrder_67 : decode cX1_readOrder 67 = .ok (.bipush 6, 2) := by decide +kernel
theorem dX1_readOrder_69 : decode cX1_readOrder 69 = .ok (.aload_n 0, 1) := by decide +kernel
theorem dX1_readOrder_70 : decode cX1_readOrder 70 = .ok (.sipush (-32768), 3) := by decide +kernel
theorem dX1_readOrder_73 : decode cX1_readOrder 73 = .ok (.sipush 32767, 3) := by decide +kernel
theorem dX1_readOrder_76 : decode cX1_readOrder 76 = .ok (.invokevirtual 209, 3) := by decide +kernel
theorem dX1_readOrder_79 : decode cX1_readOrder 79 = .ok (.iastore, 1) := by decide +kernel
theorem dX1_readOrder_80 : decode cX1_readOrder 80 = .ok (.aload_n 2, 1) := by decide +kernel
theorem dX1_readOrder_81 : decode cX1_readOrder 81 = .ok (.iconst 2, 1) := by decide +kernel
theorem dX1_readOrder_82 : decode cX1_readOrder 82 = .ok (.iaload, 1) := by decide +kernel
theorem dX1_readOrder_83 : decode cX1_readOrder 83 = .ok (.iconst 1, 1) := by decide +kernel
theorem dX1_readOrder_84 : decode cX1_readOrder 84 = .ok (.if_icmp .ne 17, 3) := by decide +kernel
theorem dX1_readOrder_87 : decode cX1_readOrder 87 = .ok (.aload_n 3, 1) := by decide +kernel
theorem dX1_readOrder_88 : decode cX1_readOrder 88 = .ok (.bipush 7, 2) := by decide +kernel
theorem dX1_readOrder_90 : decode cX1_readOrder 90 = .ok (.aload_n 0, 1) := by decide +kernel
theorem dX1_readOrder_91 : decode cX1_readOrder 91 = .ok (.sipush (-32768), 3) := by decide +kernel
theorem dX1_readOrder_94 : decode cX1_readOrder 94 = .ok (.sipush 32767, 3) := by decide +kernel
theorem dX1_readOrder_97 : decode cX1_readOrder 97 = .ok (.invokevirtual 209, 3) := by decide +kernel
theorem dX1_readOrder_100 : decode cX1_readOrder 100 = .ok (.iastore, 1) := by decide +kernel
theorem dX1_readOrder_101 : decode cX1_readOrder 101 = .ok (.return_, 1) := by decide +kernel
def FX1_readOrder (G : GG) (M : DD) (a : Nat) (p0 : Option Nat) (p1 : Option Nat) : Option (DD) :=
  dr G 3 ((M.2 a 10)) fun b2 =>
  dr G 13 p0 fun b3 =>
  chk (¬ (((3 : Int32)) < 0 ∨ G.2.2 b3 ≤ ((3 : Int32)).toNatClampNeg)) <|
  ltt (M.1 b3 ((3 : Int32)).toNatClampNeg) fun x4 =>
  bnd (if x4 = ((0 : Int32)) then (chk (¬ (((4 : Int32)) < 0 ∨ G.2.2 b3 ≤ ((4 : Int32)).toNatClampNeg)) <|
  ltt (M.1 b3 ((4 : Int32)).toNatClampNeg) fun x22 =>
  dr G 5 ((M.2 a 0)) fun b23 =>
  bnd (FX5_fixed G M b23 ((0 : Int32)) x22) fun y24 =>
  dr G 13 ((M.2 b2 0)) fun b25 =>
  chk (¬ (((5 : Int32)) < 0 ∨ G.2.2 b25 ≤ ((5 : Int32)).toNatClampNeg)) <|
  ltt (uI y24.1 b25 ((5 : Int32)).toNatClampNeg y24.2) fun M26 =>
  dr G 13 p1 fun b27 =>
  chk (¬ (((2 : Int32)) < 0 ∨ G.2.2 b27 ≤ ((2 : Int32)).toNatClampNeg)) <|
  ltt (M26.1 b27 ((2 : Int32)).toNatClampNeg) fun x28 =>
  bnd (if x28 = ((1 : Int32)) then (bnd (FX1_signed G M26 a ((-32768 : Int32)) ((32767 : Int32))) fun y31 =>
  chk (¬ (((6 : Int32)) < 0 ∨ G.2.2 b25 ≤ ((6 : Int32)).toNatClampNeg)) <|
  ltt (uI y31.1 b25 ((6 : Int32)).toNatClampNeg y31.2) fun M32 =>
  some (M32)) else
  (some (M26))) fun (y29 : DD) =>
  some (y29)) else
  (chk (¬ (((3 : Int32)) < 0 ∨ G.2.2 b3 ≤ ((3 : Int32)).toNatClampNeg)) <|
  ltt (M.1 b3 ((3 : Int32)).toNatClampNeg) fun x7 =>
  bnd (if x7 = ((1 : Int32)) then (chk (¬ (((11 : Int32)) < 0 ∨ G.2.2 b3 ≤ ((11 : Int32)).toNatClampNeg)) <|
  ltt (M.1 b3 ((11 : Int32)).toNatClampNeg) fun x10 =>
  bnd (if x10 = ((0 : Int32)) then (bnd (FX1_signed G M a ((-32768 : Int32)) ((32767 : Int32))) fun y13 =>
  dr G 13 ((M.2 b2 0)) fun b14 =>
  chk (¬ (((6 : Int32)) < 0 ∨ G.2.2 b14 ≤ ((6 : Int32)).toNatClampNeg)) <|
  ltt (uI y13.1 b14 ((6 : Int32)).toNatClampNeg y13.2) fun M15 =>
  dr G 13 p1 fun b16 =>
  chk (¬ (((2 : Int32)) < 0 ∨ G.2.2 b16 ≤ ((2 : Int32)).toNatClampNeg)) <|
  ltt (M15.1 b16 ((2 : Int32)).toNatClampNeg) fun x17 =>
  bnd (if x17 = ((1 : Int32)) then (bnd (FX1_signed G M15 a ((-32768 : Int32)) ((32767 : Int32))) fun y20 =>
  chk (¬ (((7 : Int32)) < 0 ∨ G.2.2 b14 ≤ ((7 : Int32)).toNatClampNeg)) <|
  ltt (uI y20.1 b14 ((7 : Int32)).toNatClampNeg y20.2) fun M21 =>
  some (M21)) else
  (some (M15))) fun (y18 : DD) =>
  some (y18)) else
  (some (M))) fun (y11 : DD) =>
  some (y11)) else
  (some (M))) fun (y8 : DD) =>
  some (y8))) fun (y5 : DD) =>
  some y5
set_option maxHeartbeats 4000000 in
set_option maxRecDepth 100000 in
theorem kX1_readOrder (l : Launch) (D : va_G) (ct : CT) (ad : Nat → Nat) (Z : Nat → Nat) (G : GG) (M : DD) (sz : Nat) (a : Nat) (p0 : Option Nat) (p1 : Option Nat) (y : DD) (hc : a < G.1) (hk : G.2.1 a = 1) (hF : FX1_readOrder G M a p0 p1 = some y) : Met l yX1_readOrder wsX1_readOrder ({ frames := 3, cells := 0, slots := 0, locals := 81 }) (va_Pc [.ref (ad a), va_re ad p0, va_re ad p1] (kB D ct ad Z G M sz)) (va_Qv (fun (_ : Unit) => True) (fun _ t => kE D ct ad G (wA ad G sz) y t) (wA ad G sz)) 0 0 (wA ad G sz) := by
  refine Met.ofW (cc := cX1_readOrder) (maxL := 4) (ret := none) (by decide) rfl ?_
  intro p e s m args below meth c s₁ B hml hv
  obtain ⟨rfl, hsz, hP, hK, hD0, hZ, hN⟩ := hv
  have hx := B.exec
  have hb := B.bytes
  have hr := B.returns
  have hts := atoms_spec (ws := wsX1_readOrder) B.pre
  have hown : s.vm.findClass RX1 = some m.cls := findClass_of_methodNamed B.named
  have hlocks := B.notSynchronized
  subst hsz
  have hD := wD_self (sz := s.heap.size) hD0
  have hA9 : ∀ q, s.heap.size ≤ q → wA ad G s.heap.size q := fun q h => Or.inr h
  generalize hAe : wA ad G s.heap.size = A at hD hA9 hZ ⊢
  have hS : va_S A s.heap s.heap [] := va_S.rf
  have hl := lv_entry ([.ref (ad a), va_re ad p0, va_re ad p1]) (n := 4) (by cases p0 <;> cases p1 <;> exact Nat.le_of_ble_eq_true rfl)
  rw [lg_entry_eq]
  generalize (lg_sl ([.ref (ad a), va_re ad p0, va_re ad p1]) ++ List.replicate (4 - (lg_sl ([.ref (ad a), va_re ad p0, va_re ad p1])).length) Slot.unset).toArray = ls at hl ⊢
  have hl : lv_has ls 4 [(0, .ref (ad a)), (1, va_re ad p0), (2, va_re ad p1)] := by have e9 : lv_args 0 [.ref (ad a), va_re ad p0, va_re ad p1] = [(0, .ref (ad a)), (1, va_re ad p0), (2, va_re ad p1)] := (by cases p0 <;> cases p1 <;> rfl); rw [e9] at hl; exact hl
  unfold FX1_readOrder at hF
  refine lv_aload_n hx hb dX1_readOrder_0 rfl (lv_at hl 0 rfl) ?_
  refine va_get (D := D) (ci := 1) (v := va_re ad (M.2 a 10)) (C := RX1) (T := TX1) (N := 22) hx hb hts (by decide +kernel) hown hK hP a (wld_o ct ad G M hc hk (by decide)) rfl 10 (by decide) (hts (.fieldLink RX1 68 "VideoSuite$Decoder" "head" "LVideoSuite$Header;") (by decide +kernel)) (fun _ h9 => h9) rfl dX1_readOrder_1 ?_
  obtain ⟨b2, ho2, hc2, hk2, hF⟩ := dr_some hF
  refine W_st (st' := [.ref (ad b2)]) (by rw [va_some ho2]) ?_
  refine va_get (D := D) (ci := 3) (v := va_re ad (M.2 b2 0)) (C := RX3) (T := TX3) (N := 4) hx hb hts (by decide +kernel) hown hK hP b2 (wld_o ct ad G M hc2 hk2 (by decide)) rfl 0 (by decide) (hts (.fieldLink RX1 212 "VideoSuite$Header" "v" "[I") (by decide +kernel)) (fun _ h9 => h9) rfl dX1_readOrder_4 ?_
  refine lv_astoreq_n (lv' := [(3, va_re ad (M.2 b2 0)), (0, .ref (ad a)), (1, va_re ad p0), (2, va_re ad p1)]) hx hb dX1_readOrder_7 rfl hl (by decide) (by generalize p1 = o9; cases o9 <;> rfl) (fun ls hl => ?_)
  refine lv_aloadq_n hx hb dX1_readOrder_8 rfl (lv_at hl 2 rfl) ?_
  refine lv_iconst (v := (3 : Int32)) hx hb dX1_readOrder_9 (by decide) ?_
  obtain ⟨b3, ho3, hc3, hk3, hF⟩ := dr_some hF
  refine W_st (st' := [.int (3 : Int32), .ref (ad b3)]) (by rw [va_some ho3]) ?_
  obtain ⟨hvc, hF⟩ := chk_some hF
  refine va_iald hx hb hK hP b3 1 (wld_i ct ad G M hc3 hk3) rfl hvc dX1_readOrder_10 ?_
  obtain ⟨x4, ex4, hF⟩ := ltt_some hF
  refine lv_topi (fun zx4 ezx4 => ?_)
  obtain rfl : x4 = zx4 := ex4.trans ezx4.symm
  obtain ⟨y5, hy5, hF⟩ := bnd_some hF
  have J5 : ∀ (H : Heap) (locs : List Loc) (ls : Array Slot), va_P D classes (wld ct ad G y5) H → va_D A (wld ct ad G y5) → va_S A s.heap H locs → lv_has ls 4 [(3, va_re ad (M.2 b2 0)), (0, .ref (ad a)), (1, va_re ad p0), (2, va_re ad p1)] → W p l e (headSpec wsX1_readOrder ({ frames := 3, cells := 0, slots := 0, locals := 81 })).room s m ([.ref (ad a), va_re ad p0, va_re ad p1] : List Value).toArray below meth c H locs 0 0 (MQ below (va_Qv (fun (_ : Unit) => True) (fun _ t => kE D ct ad G A y t) A) ([.ref (ad a), va_re ad p0, va_re ad p1] : List Value).toArray s 0 0 A) (F0 m 101 ls []) := by
    intro H locs ls hP hD hS hl
    obtain rfl := Option.some.inj hF
    exact W.vret hx hb hr (fun t ht hW => ⟨⟨(), rfl, trivial, ⟨by rw [ht]; exact hP, va_K.moved hW.alike hK, hD⟩⟩, hS.F ht⟩) hS.2.2 dX1_readOrder_101
  clear hF
  have hF := hy5
  clear hy5
  refine lv_if_ne (tgt := 52) hx hb dX1_readOrder_11 (by decide) (fun c6 => ?_) (fun c6 => ?_)
  · rw [if_neg c6] at hF
    refine lv_aloadq_n hx hb dX1_readOrder_52 rfl (lv_at hl 2 rfl) ?_
    refine lv_iconst (v := (3 : Int32)) hx hb dX1_readOrder_53 (by decide) ?_
    refine W_st (st' := [.int (3 : Int32), .ref (ad b3)]) (by rw [va_some ho3]) ?_
    obtain ⟨hvc, hF⟩ := chk_some hF
    refine va_iald hx hb hK hP b3 1 (wld_i ct ad G M hc3 hk3) rfl hvc dX1_readOrder_54 ?_
    obtain ⟨x7, ex7, hF⟩ := ltt_some hF
    refine lv_topi (fun zx7 ezx7 => ?_)
    obtain rfl : x7 = zx7 := ex7.trans ezx7.symm
    refine lv_iconst (v := (1 : Int32)) hx hb dX1_readOrder_55 (by decide) ?_
    obtain ⟨y8, hy8, hF⟩ := bnd_some hF
    have J8 : ∀ (H : Heap) (locs : List Loc) (ls : Array Slot), va_P D classes (wld ct ad G y8) H → va_D A (wld ct ad G y8) → va_S A s.heap H locs → lv_has ls 4 [(3, va_re ad (M.2 b2 0)), (0, .ref (ad a)), (1, va_re ad p0), (2, va_re ad p1)] → W p l e (headSpec wsX1_readOrder ({ frames := 3, cells := 0, slots := 0, locals := 81 })).room s m ([.ref (ad a), va_re ad p0, va_re ad p1] : List Value).toArray below meth c H locs 0 0 (MQ below (va_Qv (fun (_ : Unit) => True) (fun _ t => kE D ct ad G A y t) A) ([.ref (ad a), va_re ad p0, va_re ad p1] : List Value).toArray s 0 0 A) (F0 m 101 ls []) := by
      intro H locs ls hP hD hS hl
      obtain rfl := Option.some.inj hF
      exact J5 _ _ _ hP hD hS (lv_sub hl [0, 1, 2, 3] rfl)
    clear hF
    have hF := hy8
    clear hy8
    refine lv_icmp_ne (tgt := 101) hx hb dX1_readOrder_56 (by decide) (fun c9 => ?_) (fun c9 => ?_)
    · rw [if_neg c9] at hF
      obtain rfl := Option.some.inj hF
      exact J8 _ _ _ hP hD hS (lv_sub hl [0, 1, 2, 3] rfl)
    · rw [if_pos c9] at hF
      refine lv_aloadq_n hx hb dX1_readOrder_59 rfl (lv_at hl 2 rfl) ?_
      refine lv_bipush (v := (11 : Int32)) hx hb dX1_readOrder_60 (by decide) ?_
      refine W_st (st' := [.int (11 : Int32), .ref (ad b3)]) (by rw [va_some ho3]) ?_
      obtain ⟨hvc, hF⟩ := chk_some hF
      refine va_iald hx hb hK hP b3 1 (wld_i ct ad G M hc3 hk3) rfl hvc dX1_readOrder_62 ?_
      obtain ⟨x10, ex10, hF⟩ := ltt_some hF
      refine lv_topi (fun zx10 ezx10 => ?_)
      obtain rfl : x10 = zx10 := ex10.trans ezx10.symm
      obtain ⟨y11, hy11, hF⟩ := bnd_some hF
      have J11 : ∀ (H : Heap) (locs : List Loc) (ls : Array Slot), va_P D classes (wld ct ad G y11) H → va_D A (wld ct ad G y11) → va_S A s.heap H locs → lv_has ls 4 [(3, va_re ad (M.2 b2 0)), (0, .ref (ad a)), (1, va_re ad p0), (2, va_re ad p1)] → W p l e (headSpec wsX1_readOrder ({ frames := 3, cells := 0, slots := 0, locals := 81 })).room s m ([.ref (ad a), va_re ad p0, va_re ad p1] : List Value).toArray below meth c H locs 0 0 (MQ below (va_Qv (fun (_ : Unit) => True) (fun _ t => kE D ct ad G A y t) A) ([.ref (ad a), va_re ad p0, va_re ad p1] : List Value).toArray s 0 0 A) (F0 m 101 ls []) := by
        intro H locs ls hP hD hS hl
        obtain rfl := Option.some.inj hF
        exact J8 _ _ _ hP hD hS (lv_sub hl [0, 1, 2, 3] rfl)
      clear hF
      have hF := hy11
      clear hy11
      refine lv_if_ne (tgt := 101) hx hb dX1_readOrder_63 (by decide) (fun c12 => ?_) (fun c12 => ?_)
      · rw [if_neg c12] at hF
        obtain rfl := Option.some.inj hF
        exact J11 _ _ _ hP hD hS (lv_sub hl [0, 1, 2, 3] rfl)
      · rw [if_pos c12] at hF
        refine lv_aloadq_n hx hb dX1_readOrder_66 rfl (lv_at hl 0 rfl) ?_
        refine lv_bipush (v := (6 : Int32)) hx hb dX1_readOrder_67 (by decide) ?_
        refine lv_aload_n hx hb dX1_readOrder_69 rfl (lv_at hl 1 rfl) ?_
        refine lv_sipush (v := (-32768 : Int32)) hx hb dX1_readOrder_70 (by decide) ?_
        refine lv_sipush (v := (32767 : Int32)) hx hb dX1_readOrder_73 (by decide) ?_
        obtain ⟨y13, hy13, hF⟩ := bnd_some hF
        have hf9 := wA_in hD hA9 hS
        refine va_calli (va_runV (As := [.int (-32768 : Int32), .int (32767 : Int32)]) (rest := [.int (6 : Int32), va_re ad (M.2 b2 0)]) ⟨hx, hb, hml, hown, hts⟩ (kX1_signed l D ct ad Z G M s.heap.size a ((-32768 : Int32)) ((32767 : Int32)) y13 hc hk hy13) (cwV 2 hts gX1_readOrder_X1_signed rfl rfl rfl (by decide +kernel) ⟨Nat.le_of_ble_eq_true rfl, Nat.le_of_ble_eq_true rfl⟩) ⟨fun a U g mk q => by obtain ⟨q0, q1, qP, qK, qD, qZ, qN⟩ := q; exact ⟨q0, q1, qP, va_K.moved (u := U) (U := U.calling g mk a) (Vm.Alike.refl U.vm) qK, qD, sF.moved (u := U) (U := U.calling g mk a) (Vm.Alike.refl U.vm) qZ, nF.same rfl qN⟩, va_recv hK hP (ci := 1) (q0 := a) rfl (wld_o ct ad G M hc hk (by decide)), fun U hU hW => ⟨rfl, by rw [hU], by rw [hU]; exact hP, va_K.moved hW.alike hK, hD.weaken (fun _ _ _ _ => trivial), by rw [hU]; exact ((hZ.kept hS.2.1).narrow hf9).moved hW.alike, hN.warm hW⟩⟩ rfl rfl hl.1 rfl (lv_room (by simp only [List.map, va_re_cat]; exact Nat.le_of_ble_eq_true rfl)) dX1_readOrder_76 ⟨(Nat.zero_le _), (Nat.zero_le _)⟩) hS (fun q _ h => hf9 q h) hf9 (fun r u t H locs ht hvm hw hB hz1 hk1 hS => ?_)
        obtain ⟨hP, hK9, hD9⟩ := hB
        rw [ht] at hP
        try dsimp only at hw
        subst hw
        have hD := hD9.weaken (fun _ q _ h => hf9 q.1 h)
        obtain ⟨b14, ho14, hc14, hk14, hF⟩ := dr_some hF
        refine W_st (st' := [.int y13.2, .int (6 : Int32), .ref (ad b14)]) (by rw [va_some ho14]) ?_
        obtain ⟨hvc, hF⟩ := chk_some hF
        refine va_iast hx hb hK hP hD hS b14 1 (wld_i ct ad G y13.1 hc14 hk14) rfl hvc dX1_readOrder_79 (fun H locs hP hD hS => ?_)
        obtain ⟨M15, eM15, hF⟩ := ltt_some hF
        rw [set_i ct ad G y13.1 hc14 hk14, ← eM15] at hP hD
        refine lv_aloadq_n hx hb dX1_readOrder_80 rfl (lv_at hl 3 rfl) ?_
        refine lv_iconst (v := (2 : Int32)) hx hb dX1_readOrder_81 (by decide) ?_
        obtain ⟨b16, ho16, hc16, hk16, hF⟩ := dr_some hF
        refine W_st (st' := [.int (2 : Int32), .ref (ad b16)]) (by rw [va_some ho16]) ?_
        obtain ⟨hvc, hF⟩ := chk_some hF
        refine va_iald hx hb hK hP b16 1 (wld_i ct ad G M15 hc16 hk16) rfl hvc dX1_readOrder_82 ?_
        obtain ⟨x17, ex17, hF⟩ := ltt_some hF
        refine lv_topi (fun zx17 ezx17 => ?_)
        obtain rfl : x17 = zx17 := ex17.trans ezx17.symm
        refine lv_iconst (v := (1 : Int32)) hx hb dX1_readOrder_83 (by decide) ?_
        obtain ⟨y18, hy18, hF⟩ := bnd_some hF
        have J18 : ∀ (H : Heap) (locs : List Loc) (ls : Array Slot), va_P D classes (wld ct ad G y18) H → va_D A (wld ct ad G y18) → va_S A s.heap H locs → lv_has ls 4 [(3, va_re ad (M.2 b2 0)), (0, .ref (ad a)), (1, va_re ad p0), (2, va_re ad p1)] → W p l e (headSpec wsX1_readOrder ({ frames := 3, cells := 0, slots := 0, locals := 81 })).room s m ([.ref (ad a), va_re ad p0, va_re ad p1] : List Value).toArray below meth c H locs 0 0 (MQ below (va_Qv (fun (_ : Unit) => True) (fun _ t => kE D ct ad G A y t) A) ([.ref (ad a), va_re ad p0, va_re ad p1] : List Value).toArray s 0 0 A) (F0 m 101 ls []) := by
          intro H locs ls hP hD hS hl
          obtain rfl := Option.some.inj hF
          exact J11 _ _ _ hP hD hS (lv_sub hl [0, 1, 2, 3] rfl)
        clear hF
        have hF := hy18
        clear hy18
        refine lv_icmp_ne (tgt := 101) hx hb dX1_readOrder_84 (by decide) (fun c19 => ?_) (fun c19 => ?_)
        · rw [if_neg c19] at hF
          obtain rfl := Option.some.inj hF
          exact J18 _ _ _ hP hD hS (lv_sub hl [0, 1, 2, 3] rfl)
        · rw [if_pos c19] at hF
          refine lv_aloadq_n hx hb dX1_readOrder_87 rfl (lv_at hl 0 rfl) ?_
          refine lv_bipush (v := (7 : Int32)) hx hb dX1_readOrder_88 (by decide) ?_
          refine lv_aload_n hx hb dX1_readOrder_90 rfl (lv_at hl 1 rfl) ?_
          refine lv_sipush (v := (-32768 : Int32)) hx hb dX1_readOrder_91 (by decide) ?_
          refine lv_sipush (v := (32767 : Int32)) hx hb dX1_readOrder_94 (by decide) ?_
          obtain ⟨y20, hy20, hF⟩ := bnd_some hF
          have hf9 := wA_in hD hA9 hS
          refine va_calli (va_runV (As := [.int (-32768 : Int32), .int (32767 : Int32)]) (rest := [.int (7 : Int32), va_re ad (M.2 b2 0)]) ⟨hx, hb, hml, hown, hts⟩ (kX1_signed l D ct ad Z G M15 H.size a ((-32768 : Int32)) ((32767 : Int32)) y20 hc hk hy20) (cwV 2 hts gX1_readOrder_X1_signed rfl rfl rfl (by decide +kernel) ⟨Nat.le_of_ble_eq_true rfl, Nat.le_of_ble_eq_true rfl⟩) ⟨fun a U g mk q => by obtain ⟨q0, q1, qP, qK, qD, qZ, qN⟩ := q; exact ⟨q0, q1, qP, va_K.moved (u := U) (U := U.calling g mk a) (Vm.Alike.refl U.vm) qK, qD, sF.moved (u := U) (U := U.calling g mk a) (Vm.Alike.refl U.vm) qZ, nF.same rfl qN⟩, va_recv hK hP (ci := 1) (q0 := a) rfl (wld_o ct ad G M15 hc hk (by decide)), fun U hU hW => ⟨rfl, by rw [hU], by rw [hU]; exact hP, va_K.moved hW.alike hK, hD.weaken (fun _ _ _ _ => trivial), by rw [hU]; exact ((hZ.kept hS.2.1).narrow hf9).moved hW.alike, hN.warm hW⟩⟩ rfl rfl hl.1 rfl (lv_room (by simp only [List.map, va_re_cat]; exact Nat.le_of_ble_eq_true rfl)) dX1_readOrder_97 ⟨(Nat.zero_le _), (Nat.zero_le _)⟩) hS (fun q _ h => hf9 q h) hf9 (fun r u t H locs ht hvm hw hB hz1 hk1 hS => ?_)
          obtain ⟨hP, hK9, hD9⟩ := hB
          rw [ht] at hP
          try dsimp only at hw
          subst hw
          have hD := hD9.weaken (fun _ q _ h => hf9 q.1 h)
          refine W_st (st' := [.int y20.2, .int (7 : Int32), .ref (ad b14)]) (by rw [va_some ho14]) ?_
          obtain ⟨hvc, hF⟩ := chk_some hF
          refine va_iast hx hb hK hP hD hS b14 1 (wld_i ct ad G y20.1 hc14 hk14) rfl hvc dX1_readOrder_100 (fun H locs hP hD hS => ?_)
          obtain ⟨M21, eM21, hF⟩ := ltt_some hF
          rw [set_i ct ad G y20.1 hc14 hk14, ← eM21] at hP hD
          obtain rfl := Option.some.inj hF
          exact J18 _ _ _ hP hD hS (lv_sub hl [0, 1, 2, 3] rfl)
  · rw [if_pos c6] at hF
    refine lv_aloadq_n hx hb dX1_readOrder_14 rfl (lv_at hl 0 rfl) ?_
    refine lv_iconst (v := (5 : Int32)) hx hb dX1_readOrder_15 (by decide) ?_
    refine lv_aload_n hx hb dX1_readOrder_16 rfl (lv_at hl 1 rfl) ?_
    refine va_get (D := D) (ci := 1) (v := va_re ad (M.2 a 0)) (C := RX1) (T := TX1) (N := 22) hx hb hts (by decide +kernel) hown hK hP a (wld_o ct ad G M hc hk (by decide)) rfl 0 (by decide) (hts (.fieldLink RX1 12 "VideoSuite$Decoder" "reader" "LVideoSuite$Reader;") (by decide +kernel)) (fun _ h9 => h9) rfl dX1_readOrder_17 ?_
    refine lv_iconst (v := (0 : Int32)) hx hb dX1_readOrder_20 (by decide) ?_
    refine lv_aloadq_n hx hb dX1_readOrder_21 rfl (lv_at hl 2 rfl) ?_
    refine lv_iconst (v := (4 : Int32)) hx hb dX1_readOrder_22 (by decide) ?_
    refine W_st (st' := [.int (4 : Int32), .ref (ad b3), .int (0 : Int32), va_re ad (M.2 a 0), .int (5 : Int32), va_re ad (M.2 b2 0)]) (by rw [va_some ho3]) ?_
    obtain ⟨hvc, hF⟩ := chk_some hF
    refine va_iald hx hb hK hP b3 1 (wld_i ct ad G M hc3 hk3) rfl hvc dX1_readOrder_23 ?_
    obtain ⟨x22, ex22, hF⟩ := ltt_some hF
    refine lv_topi (fun zx22 ezx22 => ?_)
    obtain rfl : x22 = zx22 := ex22.trans ezx22.symm
    obtain ⟨b23, ho23, hc23, hk23, hF⟩ := dr_some hF
    refine W_st (st' := [.int x22, .int (0 : Int32), .ref (ad b23), .int (5 : Int32), va_re ad (M.2 b2 0)]) (by rw [va_some ho23]) ?_
    obtain ⟨y24, hy24, hF⟩ := bnd_some hF
    have hf9 := wA_in hD hA9 hS
    refine va_calli (va_runV (As := [.int (0 : Int32), .int x22]) (rest := [.int (5 : Int32), va_re ad (M.2 b2 0)]) ⟨hx, hb, hml, hown, hts⟩ (kX5_fixed l D ct ad Z G M s.heap.size b23 ((0 : Int32)) x22 y24 hc23 hk23 hy24) (cwV 2 hts gX1_readOrder_X5_fixed rfl rfl rfl (by decide +kernel) ⟨Nat.le_of_ble_eq_true rfl, Nat.le_of_ble_eq_true rfl⟩) ⟨fun a U g mk q => by obtain ⟨q0, q1, qP, qK, qD, qZ, qN⟩ := q; exact ⟨q0, q1, qP, va_K.moved (u := U) (U := U.calling g mk a) (Vm.Alike.refl U.vm) qK, qD, sF.moved (u := U) (U := U.calling g mk a) (Vm.Alike.refl U.vm) qZ, nF.same rfl qN⟩, va_recv hK hP (ci := 5) (q0 := b23) rfl (wld_o ct ad G M hc23 hk23 (by decide)), fun U hU hW => ⟨rfl, by rw [hU], by rw [hU]; exact hP, va_K.moved hW.alike hK, hD.weaken (fun _ _ _ _ => trivial), by rw [hU]; exact ((hZ.kept hS.2.1).narrow hf9).moved hW.alike, hN.warm hW⟩⟩ rfl rfl hl.1 rfl (lv_room (by simp only [List.map, va_re_cat]; exact Nat.le_of_ble_eq_true rfl)) dX1_readOrder_24 ⟨(Nat.zero_le _), (Nat.zero_le _)⟩) hS (fun q _ h => hf9 q h) hf9 (fun r u t H locs ht hvm hw hB hz1 hk1 hS => ?_)
    obtain ⟨hP, hK9, hD9⟩ := hB
    rw [ht] at hP
    try dsimp only at hw
    subst hw
    have hD := hD9.weaken (fun _ q _ h => hf9 q.1 h)
    obtain ⟨b25, ho25, hc25, hk25, hF⟩ := dr_some hF
    refine W_st (st' := [.int y24.2, .int (5 : Int32), .ref (ad b25)]) (by rw [va_some ho25]) ?_
    obtain ⟨hvc, hF⟩ := chk_some hF
    refine va_iast hx hb hK hP hD hS b25 1 (wld_i ct ad G y24.1 hc25 hk25) rfl hvc dX1_readOrder_27 (fun H locs hP hD hS => ?_)
    obtain ⟨M26, eM26, hF⟩ := ltt_some hF
    rw [set_i ct ad G y24.1 hc25 hk25, ← eM26] at hP hD
    refine lv_aloadq_n hx hb dX1_readOrder_28 rfl (lv_at hl 3 rfl) ?_
    refine lv_iconst (v := (2 : Int32)) hx hb dX1_readOrder_29 (by decide) ?_
    obtain ⟨b27, ho27, hc27, hk27, hF⟩ := dr_some hF
    refine W_st (st' := [.int (2 : Int32), .ref (ad b27)]) (by rw [va_some ho27]) ?_
    obtain ⟨hvc, hF⟩ := chk_some hF
    refine va_iald hx hb hK hP b27 1 (wld_i ct ad G M26 hc27 hk27) rfl hvc dX1_readOrder_30 ?_
    obtain ⟨x28, ex28, hF⟩ := ltt_some hF
    refine lv_topi (fun zx28 ezx28 => ?_)
    obtain rfl : x28 = zx28 := ex28.trans ezx28.symm
    refine lv_iconst (v := (1 : Int32)) hx hb dX1_readOrder_31 (by decide) ?_
    obtain ⟨y29, hy29, hF⟩ := bnd_some hF
    have J29 : ∀ (H : Heap) (locs : List Loc) (ls : Array Slot), va_P D classes (wld ct ad G y29) H → va_D A (wld ct ad G y29) → va_S A s.heap H locs → lv_has ls 4 [(3, va_re ad (M.2 b2 0)), (0, .ref (ad a)), (1, va_re ad p0), (2, va_re ad p1)] → W p l e (headSpec wsX1_readOrder ({ frames := 3, cells := 0, slots := 0, locals := 81 })).room s m ([.ref (ad a), va_re ad p0, va_re ad p1] : List Value).toArray below meth c H locs 0 0 (MQ below (va_Qv (fun (_ : Unit) => True) (fun _ t => kE D ct ad G A y t) A) ([.ref (ad a), va_re ad p0, va_re ad p1] : List Value).toArray s 0 0 A) (F0 m 101 ls []) := by
      intro H locs ls hP hD hS hl
      obtain rfl := Option.some.inj hF
      exact J5 _ _ _ hP hD hS (lv_sub hl [0, 1, 2, 3] rfl)
    clear hF
    have hF := hy29
    clear hy29
    refine lv_icmp_ne (tgt := 101) hx hb dX1_readOrder_32 (by decide) (fun c30 => ?_) (fun c30 => ?_)
    · rw [if_neg c30] at hF
      obtain rfl := Option.some.inj hF
      exact J29 _ _ _ hP hD hS (lv_sub hl [0, 1, 2, 3] rfl)
    · rw [if_pos c30] at hF
      refine lv_aloadq_n hx hb dX1_readOrder_35 rfl (lv_at hl 0 rfl) ?_
      refine lv_bipush (v := (6 : Int32)) hx hb dX1_readOrder_36 (by decide) ?_
      refine lv_aload_n hx hb dX1_readOrder_38 rfl (lv_at hl 1 rfl) ?_
      refine lv_sipush (v := (-32768 : Int32)) hx hb dX1_readOrder_39 (by decide) ?_
      refine lv_sipush (v := (32767 : Int32)) hx hb dX1_readOrder_42 (by decide) ?_
      obtain ⟨y31, hy31, hF⟩ := bnd_some hF
      have hf9 := wA_in hD hA9 hS
      refine va_calli (va_runV (As := [.int (-32768 : Int32), .int (32767 : Int32)]) (rest := [.int (6 : Int32), va_re ad (M.2 b2 0)]) ⟨hx, hb, hml, hown, hts⟩ (kX1_signed l D ct ad Z G M26 H.size a ((-32768 : Int32)) ((32767 : Int32)) y31 hc hk hy31) (cwV 2 hts gX1_readOrder_X1_signed rfl rfl rfl (by decide +kernel) ⟨Nat.le_of_ble_eq_true rfl, Nat.le_of_ble_eq_true rfl⟩) ⟨fun a U g mk q => by obtain ⟨q0, q1, qP, qK, qD, qZ, qN⟩ := q; exact ⟨q0, q1, qP, va_K.moved (u := U) (U := U.calling g mk a) (Vm.Alike.refl U.vm) qK, qD, sF.moved (u := U) (U := U.calling g mk a) (Vm.Alike.refl U.vm) qZ, nF.same rfl qN⟩, va_recv hK hP (ci := 1) (q0 := a) rfl (wld_o ct ad G M26 hc hk (by decide)), fun U hU hW => ⟨rfl, by rw [hU], by rw [hU]; exact hP, va_K.moved hW.alike hK, hD.weaken (fun _ _ _ _ => trivial), by rw [hU]; exact ((hZ.kept hS.2.1).narrow hf9).moved hW.alike, hN.warm hW⟩⟩ rfl rfl hl.1 rfl (lv_room (by simp only [List.map, va_re_cat]; exact Nat.le_of_ble_eq_true rfl)) dX1_readOrder_45 ⟨(Nat.zero_le _), (Nat.zero_le _)⟩) hS (fun q _ h => hf9 q h) hf9 (fun r u t H locs ht hvm hw hB hz1 hk1 hS => ?_)
      obtain ⟨hP, hK9, hD9⟩ := hB
      rw [ht] at hP
      try dsimp only at hw
      subst hw
      have hD := hD9.weaken (fun _ q _ h => hf9 q.1 h)
      refine W_st (st' := [.int y31.2, .int (6 : Int32), .ref (ad b25)]) (by rw [va_some ho25]) ?_
      obtain ⟨hvc, hF⟩ := chk_some hF
      refine va_iast hx hb hK hP hD hS b25 1 (wld_i ct ad G y31.1 hc25 hk25) rfl hvc dX1_readOrder_48 (fun H locs hP hD hS => ?_)
      obtain ⟨M32, eM32, hF⟩ := ltt_some hF
      rw [set_i ct ad G y31.1 hc25 hk25, ← eM32] at hP hD
      refine lv_goto (tgt := 101) hx hb dX1_readOrder_49 (by decide) ?_
      obtain rfl := Option.some.inj hF
      exact J29 _ _ _ hP hD hS (lv_sub hl [0, 1, 2, 3] rfl)
theorem ggX1_readParameters_J7_fill_53178 : GoodIn wsX1_readParameters wsJ7_fill_53178 := goodIn_r _ [12] (by decide +kernel) (by decide +kernel)
set_option maxRecDepth 20000 in
theorem gX1_readParameters_J7_fill_53178 : GoodIn wsX1_readParameters (va_wsS RX1 91 yJ7_fill_53178 wsJ7_fill_53178) := goodIn_app (goodIn_of _ (by decide +kernel)) ggX1_readParameters_J7_fill_53178
set_option maxRecDepth 20000 in
theorem ggX1_readParameters_X1_unsigned : GoodIn wsX1_readParameters wsX1_unsigned := goodIn_ca (goodIn_r _ [17, 2, 18, 19, 20, 21, 22, 23, 24, 25, 26, 27, 28, 29, 30, 31, 32, 33, 34, 35, 36, 37, 38, 39, 40, 41, 42, 43, 44, 45, 46, 47, 48, 49, 50, 51, 52, 53, 68, 69, 70, 71, 72, 73, 74, 75, 76, 77, 78, 79, 80, 81, 82, 83, 84, 85, 86, 87, 88, 89, 90, 91, 92, 93, 94, 95, 96, 97, 98, 99, 100, 101, 102, 103, 104, 105, 106] (by decide +kernel) (by decide +kernel)) (goodIn_sub (fun _ h => List.mem_cons_of_mem _ (List.mem_append_right _ h)) (by decide +kernel))
set_option maxRecDepth 20000 in
theorem gX1_readParameters_X1_unsigned : GoodIn wsX1_readParameters (wsV RX1 186 RX1 yX1_unsigned wsX1_unsigned) := goodIn_app (goodIn_of _ (by decide +kernel)) ggX1_readParameters_X1_unsigned
set_option maxRecDepth 20000 in
theorem ggX1_readParameters_X5_fixed : GoodIn wsX1_readParameters wsX5_fixed := goodIn_ca (goodIn_r _ [57, 23, 24, 26, 27, 28, 21, 29, 30, 31, 32, 33, 34, 35, 36, 37, 38, 39, 40, 41, 42, 47, 48, 49, 50, 51, 52, 53, 90, 91, 92, 93, 94, 95, 96, 97, 98, 99, 100, 101, 102, 103, 104, 105, 106] (by decide +kernel) (by decide +kernel)) (goodIn_sub (fun _ h => List.mem_cons_of_mem _ (List.mem_append_right _ h)) (by decide +kernel))
set_option maxRecDepth 20000 in
theorem gX1_readParameters_X5_fixed : GoodIn wsX1_readParameters (wsV RX1 183 RX5 yX5_fixed wsX5_fixed) := goodIn_app (goodIn_of _ (by decide +kernel)) ggX1_readParameters_X5_fixed
set_option maxRecDepth 20000 in
theorem ggX1_readParameters_X1_signed : GoodIn wsX1_readParameters wsX1_signed := goodIn_ca (goodIn_r _ [62, 2, 18, 19, 20, 21, 22, 23, 24, 25, 26, 27, 28, 29, 30, 31, 32, 33, 34, 35, 36, 37, 38, 39, 40, 41, 42, 43, 44, 45, 46, 47, 48, 49, 50, 51, 52, 53, 68, 69, 70, 71, 72, 73, 74, 75, 76, 77, 78, 79, 80, 81, 82, 83, 84, 85, 86, 87, 88, 89, 90, 91, 92, 93, 94, 95, 96, 97, 98, 99, 100, 101, 102, 103, 104, 105, 106] (by decide +kernel) (by decide +kernel)) (goodIn_sub (fun _ h => List.mem_cons_of_mem _ (List.mem_append_right _ h)) (by decide +kernel))
set_option maxRecDepth 20000 in
theorem gX1_readParameters_X1_signed : GoodIn wsX1_readParameters (wsV RX1 209 RX1 yX1_signed wsX1_signed) := goodIn_app (goodIn_of _ (by decide +kernel)) ggX1_readParameters_X1_signed
set_option maxRecDepth 20000 in
theorem ggX1_readParameters_X5_expect : GoodIn wsX1_readParameters wsX5_expect := goodIn_ca (goodIn_r _ [66, 24, 67, 55, 56, 21, 57, 23, 26, 27, 28, 29, 30, 31, 32, 33, 34, 35, 36, 37, 38, 39, 40, 41, 42, 47, 48, 49, 50, 51, 52, 53, 43, 44, 45, 46, 90, 91, 92, 93, 94, 95, 96, 97, 98, 99, 100, 101, 102, 103, 104, 105, 106] (by decide +kernel) (by decide +kernel)) (goodIn_sub (fun _ h => List.mem_cons_of_mem _ (List.mem_append_right _ h)) (by decide +kernel))
set_option maxRecDepth 20000 in
theorem gX1_readParameters_X5_expect : GoodIn wsX1_readParameters (wsV RX1 200 RX5 yX5_expect wsX5_expect) := goodIn_app (goodIn_of _ (by decide +kernel)) ggX1_readParameters_X5_expect
theorem dX1_readParameters_0 : decode cX1_readParameters 0 = .ok (.aload_n 0, 1) := by decide +kernel
theorem dX1_readParameters_1 : decode cX1_readParameters 1 = .ok (.getfield 62, 3) := by decide +kernel
theorem dX1_readParameters_4 : decode cX1_readParameters 4 = .ok (.astore_n 1, 1) := by decide +kernel
theorem dX1_readParameters_5 : decode cX1_readParameters 5 = .ok (.aload_n 1, 1) := by decide +kernel
theorem dX1_readParameters_6 : decode cX1_readParameters 6 = .ok (.iconst 0, 1) := by decide +kernel
theorem dX1_readParameters_7 : decode cX1_readParameters 7 = .ok (.invokestatic 91, 3) := by decide +kernel
theorem dX1_readParameters_10 : decode cX1_readParameters 10 = .ok (.aload_n 0, 1) := by decide +kernel
theorem dX1_readParameters_11 : decode cX1_readParameters 11 = .ok (.iconst 3, 1) := by decide +kernel
theorem dX1_readParameters_12 : decode cX1_readParameters 12 = .ok (.invokevirtual 186, 3) := by decide +kernel
theorem dX1_readParameters_15 : decode cX1_readParameters 15 = .ok (.istore_n 2, 1) := by decide +kernel
theorem dX1_readParameters_16 : decode cX1_readParameters 16 = .ok (.aload_n 1, 1) := by decide +kernel
theorem dX1_readParameters_17 : decode cX1_readParameters 17 = .ok (.iconst 0, 1) := by decide +kernel
theorem dX1_readParameters_18 : decode cX1_readParameters 18 = .ok (.aload_n 0, 1) := by decide +kernel
theorem dX1_readParameters_19 : decode cX1_readParameters 19 = .ok (.iconst 3, 1) := by decide +kernel
theorem dX1_readParameters_20 : decode cX1_readParameters 20 = .ok (.invokevirtual 186, 3) := by decide +kernel
theorem dX1_readParameters_23 : decode cX1_readParameters 23 = .ok (.iastore, 1) := by decide +kernel
theorem dX1_readParameters_24 : decode cX1_readParameters 24 = .ok (.aload_n 1, 1) := by decide +kernel
theorem dX1_readParameters_25 : decode cX1_readParameters 25 = .ok (.iconst 1, 1) := by decide +kernel
theorem dX1_readParameters_26 : decode cX1_readParameters 26 = .ok (.aload_n 0, 1) := by decide +kernel
theorem dX1_readParameters_27 : decode cX1_readParameters 27 = .ok (.getfield 12, 3) := by decide +kernel
theorem dX1_readParameters_30 : decode cX1_readParameters 30 = .ok (.iconst 0, 1) := by decide +kernel
theorem dX1_readParameters_31 : decode cX1_readParameters 31 = .ok (.iconst 1, 1) := by decide +kernel
theorem dX1_readParameters_32 : decode cX1_readParameters 32 = .ok (.invokevirtual 183, 3) := by decide +kernel
theorem dX1_readParameters_35 : decode cX1_readParameters 35 = .ok (.iastore, 1) := by decide +kernel
theorem dX1_readParameters_36 : decode cX1_readParameters 36 = .ok (.aload_n 1, 1) := by decide +kernel
theorem dX1_readParameters_37 : decode cX1_readParameters 37 = .ok (.iconst 2, 1) := by decide +kernel
theorem dX1_readParameters_38 : decode cX1_readParameters 38 = .ok (.aload_n 0, 1) := by decide +kernel
theorem dX1_readParameters_39 : decode cX1_readParameters 39 = .ok (.getfield 12, 3) := by decide +kernel
theorem dX1_readParameters_42 : decode cX1_readParameters 42 = .ok (.iconst 0, 1) := by decide +kernel
theorem dX1_readParameters_43 : decode cX1_readParameters 43 = .ok (.iconst 1, 1) := by decide +kernel
theorem dX1_readParameters_44 : decode cX1_readParameters 44 = .ok (.invokevirtual 183, 3) := by decide +kernel
theorem dX1_readParameters_47 : decode cX1_readParameters 47 = .ok (.iastore, 1) := by decide +kernel
theorem dX1_readParameters_48 : decode cX1_readParameters 48 = .ok (.aload_n 0, 1) := by decide +kernel
theorem dX1_readParameters_49 : decode cX1_readParameters 49 = .ok (.iconst 0, 1) := by decide +kernel
theorem dX1_readParameters_50 : decode cX1_readParameters 50 = .ok (.invokevirtual 186, 3) := by decide +kernel
theorem dX1_readParameters_53 : decode cX1_readParameters 53 = .ok (.pop, 1) := by decide +kernel
theorem dX1_readParameters_54 : decode cX1_readParameters 54 = .ok (.aload_n 1, 1) := by decide +kernel
theorem dX1_readParameters_55 : decode cX1_readParameters 55 = .ok (.iconst 3, 1) := by decide +kernel
theorem dX1_readParameters_56 : decode cX1_readParameters 56 = .ok (.aload_n 0, 1) := by decide +kernel
theorem dX1_readParameters_57 : decode cX1_readParameters 57 = .ok (.bipush 7, 2) := by decide +kernel
theorem dX1_readParameters_59 : decode cX1_readParameters 59 = .ok (.invokevirtual 186, 3) := by decide +kernel
theorem dX1_readParameters_62 : decode cX1_readParameters 62 = .ok (.iconst 1, 1) := by decide +kernel
theorem dX1_readParameters_63 : decode cX1_readParameters 63 = .ok (.iadd, 1) := by decide +kernel
theorem dX1_readParameters_64 : decode cX1_readParameters 64 = .ok (.iastore, 1) := by decide +kernel
theorem dX1_readParameters_65 : decode cX1_readParameters 65 = .ok (.aload_n 1, 1) := by decide +kernel
theorem dX1_readParameters_66 : decode cX1_readParameters 66 = .ok (.iconst 4, 1) := by decide +kernel
theorem dX1_readParameters_67 : decode cX1_readParameters 67 = .ok (.aload_n 0, 1) := by decide +kernel
theorem dX1_readParameters_68 : decode cX1_readParameters 68 = .ok (.bipush 7, 2) := by decide +kernel
theorem dX1_readParameters_70 : decode cX1_readParameters 70 = .ok (.invokevirtual 186, 3) := by decide +kernel
theorem dX1_readParameters_73 : decode cX1_readParameters 73 = .ok (.iconst 1, 1) := by decide +kernel
theorem dX1_readParameters_74 : decode cX1_readParameters 74 = .ok (.iadd, 1) := by decide +kernel
theorem dX1_readParameters_75 : decode cX1_readParameters 75 = .ok (.iastore, 1) := by decide +kernel
theorem dX1_readParameters_76 : decode cX1_readParameters 76 = .ok (.aload_n 1, 1) := by decide +kernel
theorem dX1_readParameters_77 : decode cX1_readParameters 77 = .ok (.iconst 5, 1) := by decide +kernel
theorem dX1_readParameters_78 : decode cX1_readParameters 78 = .ok (.aload_n 0, 1) := by decide +kernel
theorem dX1_readParameters_79 : decode cX1_readParameters 79 = .ok (.getfield 12, 3) := by decide +kernel
theorem dX1_readParameters_82 : decode cX1_readParameters 82 = .ok (.iconst 0, 1) := by decide +kernel
theorem dX1_readParameters_83 : decode cX1_readParameters 83 = .ok (.iconst 1, 1) := by decide +kernel
theorem dX1_readParameters_84 : decode cX1_readParameters 84 = .ok (.invokevirtual 183, 3) := by decide +kernel
theorem dX1_readParameters_87 : decode cX1_readParameters 87 = .ok (.iastore, 1) := by decide +kernel
theorem dX1_readParameters_88 : decode cX1_readParameters 88 = .ok (.aload_n 1, 1) := by decide +kernel
theorem dX1_readParameters_89 : decode cX1_readParameters 89 = .ok (.bipush 6, 2) := by decide +kernel
theorem dX1_readParameters_91 : decode cX1_readParameters 91 = .ok (.aload_n 0, 1) := by decide +kernel
theorem dX1_readParameters_92 : decode cX1_readParameters 92 = .ok (.getfield 12, 3) := by decide +kernel
theorem dX1_readParameters_95 : decode cX1_readParameters 95 = .ok (.iconst 0, 1) := by decide +kernel
theorem dX1_readParameters_96 : decode cX1_readParameters 96 = .ok (.iconst 2, 1) := by decide +kernel
theorem dX1_readParameters_97 : decode cX1_readParameters 97 = .ok (.invokevirtual 183, 3) := by decide +kernel
theorem dX1_readParameters_100 : decode cX1_readParameters 100 = .ok (.iastore, 1) := by decide +kernel
theorem dX1_readParameters_101 : decode cX1_readParameters 101 = .ok (.aload_n 1, 1) := by decide +kernel
theorem dX1_readParameters_102 : decode cX1_readParameters 102 = .ok (.bipush 6, 2) := by decide +kernel
theorem dX1_readParameters_104 : decode cX1_readParameters 104 = .ok (.iaload, 1) := by decide +kernel
theorem dX1_readParameters_105 : decode cX1_readParameters 105 = .ok (.iconst 2, 1) := by decide +kernel
theorem dX1_readParameters_106 : decode cX1_readParameters 106 = .ok (.if_icmp .le 18, 3) := by decide +kernel
theorem dX1_readParameters_109 : decode cX1_readParameters 109 = .ok (.aload_n 0, 1) := by decide +kernel
theorem dX1_readParameters_110 : decode cX1_readParameters 110 = .ok (.getfield 12, 3) := by decide +kernel
theorem dX1_readParameters_113 : decode cX1_readParameters 113 = .ok (.iconst 2, 1) := by decide +kernel
theorem dX1_readParameters_114 : decode cX1_readParameters 114 = .ok (.aload_n 0, 1) := by decide +kernel
theorem dX1_readParameters_115 : decode cX1_readParameters 115 = .ok (.getfield 12, 3) := by decide +kernel
theorem dX1_readParameters_118 : decode cX1_readParameters 118 = .ok (.getfield 194, 3) := by decide +kernel
theorem dX1_readParameters_121 : decode cX1_readParameters 121 = .ok (.invokevirtual 197, 3) := by decide +kernel
theorem dX1_readParameters_124 : decode cX1_readParameters 124 = .ok (.aload_n 1, 1) := by decide +kernel
theorem dX1_readParameters_125 : decode cX1_readParameters 125 = .ok (.bipush 7, 2) := by decide +kernel
theorem dX1_readParameters_127 : decode cX1_readParameters 127 = .ok (.aload_n 0, 1) := by decide +kernel
theorem dX1_readParameters_128 : decode cX1_readParameters 128 = .ok (.bipush (-26), 2) := by decide +kernel
theorem dX1_readParameters_130 : decode cX1_readParameters 130 = .ok (.bipush 25, 2) := by decide +kernel
theorem dX1_readParameters_132 : decode cX1_readParameters 132 = .ok (.invokevirtual 209, 3) := by decide +kernel
theorem dX1_readParameters_135 : decode cX1_readParameters 135 = .ok (.iastore, 1) := by decide +kernel
theorem dX1_readParameters_136 : decode cX1_readParameters 136 = .ok (.aload_n 0, 1) := by decide +kernel
theorem dX1_readParameters_137 : decode cX1_readParameters 137 = .ok (.bipush (-26), 2) := by decide +kernel
theorem dX1_readParameters_139 : decode cX1_readParameters 139 = .ok (.bipush 25, 2) := by decide +kernel
theorem dX1_readParameters_141 : decode cX1_readParameters 141 = .ok (.invokevirtual 209, 3) := by decide +kernel
theorem dX1_readParameters_144 : decode cX1_readParameters 144 = .ok (.pop, 1) := by decide +kernel
theorem dX1_readParameters_145 : decode cX1_readParameters 145 = .ok (.aload_n 1, 1) := by decide +kernel
theorem dX1_readParameters_146 : decode cX1_readParameters 146 = .ok (.bipush 8, 2) := by decide +kernel
theorem dX1_readParameters_148 : decode cX1_readParameters 148 = .ok (.aload_n 0, 1) := by decide +kernel
theorem dX1_readParameters_149 : decode cX1_readParameters 149 = .ok (.bipush (-12), 2) := by decide +kernel
theorem dX1_readParameters_151 : decode cX1_readParameters 151 = .ok (.bipush 12, 2) := by decide +kernel
theorem dX1_readParameters_153 : decode cX1_readParameters 153 = .ok (.invokevirtual 209, 3) := by decide +kernel
theorem dX1_readParameters_156 : decode cX1_readParameters 156 = .ok (.iastore, 1) := by decide +kernel
theorem dX1_readParameters_157 : decode cX1_readParameters 157 = .ok (.aload_n 1, 1) := by decide +kernel
theorem dX1_readParameters_158 : decode cX1_readParameters 158 = .ok (.bipush 9, 2) := by decide +kernel
theorem dX1_readParameters_160 : decode cX1_readParameters 160 = .ok (.aload_n 0, 1) := by decide +kernel
theorem dX1_readParameters_161 : decode cX1_readParameters 161 = .ok (.getfield 12, 3) := by decide +kernel
theorem dX1_readParameters_164 : decode cX1_readParameters 164 = .ok (.iconst 0, 1) := by decide +kernel
theorem dX1_readParameters_165 : decode cX1_readParameters 165 = .ok (.iconst 1, 1) := by decide +kernel
theorem dX1_readParameters_166 : decode cX1_readParameters 166 = .ok (.invokevirtual 183, 3) := by decide +kernel
theorem dX1_readParameters_169 : decode cX1_readParameters 169 = .ok (.iastore, 1) := by decide +kernel
theorem dX1_readParameters_170 : decode cX1_readParameters 170 = .ok (.aload_n 1, 1) := by decide +kernel
theorem dX1_readParameters_171 : decode cX1_readParameters 171 = .ok (.bipush 10, 2) := by decide +kernel
theorem dX1_readParameters_173 : decode cX1_readParameters 173 = .ok (.aload_n 0, 1) := by decide +kernel
theorem dX1_readParameters_174 : decode cX1_readParameters 174 = .ok (.getfield 12, 3) := by decide +kernel
theorem dX1_readParameters_177 : decode cX1_readParameters 177 = .ok (.iconst 0, 1) := by decide +kernel
theorem dX1_readParameters_178 : decode cX1_readParameters 178 = .ok (.iconst 1, 1) := by decide +kernel
theorem dX1_readParameters_179 : decode cX1_readParameters 179 = .ok (.invokevirtual 183, 3) := by decide +kernel
theorem dX1_readParameters_182 : decode cX1_readParameters 182 = .ok (.iastore, 1) := by decide +kernel
theorem dX1_readParameters_183 : decode cX1_readParameters 183 = .ok (.aload_n 0, 1) := by decide +kernel
theorem dX1_readParameters_184 : decode cX1_readParameters 184 = .ok (.getfield 12, 3) := by decide +kernel
theorem dX1_readParameters_187 : decode cX1_readParameters 187 = .ok (.iconst 0, 1) := by decide +kernel
theorem dX1_readParameters_188 : decode cX1_readParameters 188 = .ok (.invokevirtual 200, 3) := by decide +kernel
theorem dX1_readParameters_191 : decode cX1_readParameters 191 = .ok (.aload_n 1, 1) := by decide +kernel
theorem dX1_readParameters_192 : decode cX1_readParameters 192 = .ok (.bipush 11, 2) := by decide +kernel
theorem dX1_readParameters_194 : decode cX1_readParameters 194 = .ok (.iconst 1, 1) := by decide +kernel
theorem dX1_readParameters_195 : decode cX1_readParameters 195 = .ok (.iastore, 1) := by decide +kernel
theorem dX1_readParameters_196 : decode cX1_readParameters 196 = .ok (.aload_n 1, 1) := by decide +kernel
theorem dX1_readParameters_197 : decode cX1_readParameters 197 = .ok (.iconst 0, 1) := by decide +kernel
theorem dX1_readParameters_198 : decode cX1_readParameters 198 = .ok (.aload_n 0, 1) := by decide +kernel
theorem dX1_readParameters_199 : decode cX1_readParameters 199 = .ok (.getfield 51, 3) := by decide +kernel
theorem dX1_readParameters_202 : decode cX1_readParameters 202 = .ok (.iload_n 2, 1) := by decide +kernel
theorem dX1_readParameters_203 : decode cX1_readParameters 203 = .ok (.aaload, 1) := by decide +kernel
theorem dX1_readParameters_204 : decode cX1_readParameters 204 = .ok (.iconst 0, 1) := by decide +kernel
theorem dX1_readParameters_205 : decode cX1_readParameters 205 = .ok (.bipush 12, 2) := by decide +kernel
theorem dX1_readParameters_207 : decode cX1_readParameters 207 = .ok (.invokestatic 203, 3) := by decide +kernel
theorem dX1_readParameters_210 : decode cX1_readParameters 210 = .ok (.return_, 1) := by decide +kernel
def FX1_readParameters (G : GG) (M : DD) (a : Nat)  : Option (DD) :=
  bnd (FJ7_fill_53178 G M ((M.2 a 9)) ((0 : Int32))) fun y1 =>
  bnd (FX1_unsigned G y1 a ((3 : Int32))) fun y2 =>
  bnd (FX1_unsigned G y2.1 a ((3 : Int32))) fun y3 =>
  dr G 13 ((M.2 a 9)) fun b4 =>
  chk (¬ (((0 : Int32)) < 0 ∨ G.2.2 b4 ≤ ((0 : Int32)).toNatClampNeg)) <|
  ltt (uI y3.1 b4 ((0 : Int32)).toNatClampNeg y3.2) fun M5 =>
  dr G 5 ((M5.2 a 0)) fun b6 =>
  bnd (FX5_fixed G M5 b6 ((0 : Int32)) ((1 : Int32))) fun y7 =>
  chk (¬ (((1 : Int32)) < 0 ∨ G.2.2 b4 ≤ ((1 : Int32)).toNatClampNeg)) <|
  ltt (uI y7.1 b4 ((1 : Int32)).toNatClampNeg y7.2) fun M8 =>
  dr G 5 ((M8.2 a 0)) fun b9 =>
  bnd (FX5_fixed G M8 b9 ((0 : Int32)) ((1 : Int32))) fun y10 =>
  chk (¬ (((2 : Int32)) < 0 ∨ G.2.2 b4 ≤ ((2 : Int32)).toNatClampNeg)) <|
  ltt (uI y10.1 b4 ((2 : Int32)).toNatClampNeg y10.2) fun M11 =>
  bnd (FX1_unsigned G M11 a ((0 : Int32))) fun y12 =>
  bnd (FX1_unsigned G y12.1 a ((7 : Int32))) fun y13 =>
  ltt ((y13.2 + ((1 : Int32)))) fun x14 =>
  chk (¬ (((3 : Int32)) < 0 ∨ G.2.2 b4 ≤ ((3 : Int32)).toNatClampNeg)) <|
  ltt (uI y13.1 b4 ((3 : Int32)).toNatClampNeg x14) fun M15 =>
  bnd (FX1_unsigned G M15 a ((7 : Int32))) fun y16 =>
  ltt ((y16.2 + ((1 : Int32)))) fun x17 =>
  chk (¬ (((4 : Int32)) < 0 ∨ G.2.2 b4 ≤ ((4 : Int32)).toNatClampNeg)) <|
  ltt (uI y16.1 b4 ((4 : Int32)).toNatClampNeg x17) fun M18 =>
  dr G 5 ((M18.2 a 0)) fun b19 =>
  bnd (FX5_fixed G M18 b19 ((0 : Int32)) ((1 : Int32))) fun y20 =>
  chk (¬ (((5 : Int32)) < 0 ∨ G.2.2 b4 ≤ ((5 : Int32)).toNatClampNeg)) <|
  ltt (uI y20.1 b4 ((5 : Int32)).toNatClampNeg y20.2) fun M21 =>
  dr G 5 ((M21.2 a 0)) fun b22 =>
  bnd (FX5_fixed G M21 b22 ((0 : Int32)) ((2 : Int32))) fun y23 =>
  chk (¬ (((6 : Int32)) < 0 ∨ G.2.2 b4 ≤ ((6 : Int32)).toNatClampNeg)) <|
  ltt (uI y23.1 b4 ((6 : Int32)).toNatClampNeg y23.2) fun M24 =>
  chk (¬ (((6 : Int32)) < 0 ∨ G.2.2 b4 ≤ ((6 : Int32)).toNatClampNeg)) <|
  ltt (M24.1 b4 ((6 : Int32)).toNatClampNeg) fun x25 =>
  bnd (if x25 ≤ ((2 : Int32)) then (some (M24)) else
  (dr G 5 ((M24.2 a 0)) fun b45 =>
  ltt (M24.1 b45 4) fun x46 =>
  none)) fun (y26 : DD) =>
  bnd (FX1_signed G y26 a ((-26 : Int32)) ((25 : Int32))) fun y27 =>
  chk (¬ (((7 : Int32)) < 0 ∨ G.2.2 b4 ≤ ((7 : Int32)).toNatClampNeg)) <|
  ltt (uI y27.1 b4 ((7 : Int32)).toNatClampNeg y27.2) fun M28 =>
  bnd (FX1_signed G M28 a ((-26 : Int32)) ((25 : Int32))) fun y29 =>
  bnd (FX1_signed G y29.1 a ((-12 : Int32)) ((12 : Int32))) fun y30 =>
  chk (¬ (((8 : Int32)) < 0 ∨ G.2.2 b4 ≤ ((8 : Int32)).toNatClampNeg)) <|
  ltt (uI y30.1 b4 ((8 : Int32)).toNatClampNeg y30.2) fun M31 =>
  dr G 5 ((M31.2 a 0)) fun b32 =>
  bnd (FX5_fixed G M31 b32 ((0 : Int32)) ((1 : Int32))) fun y33 =>
  chk (¬ (((9 : Int32)) < 0 ∨ G.2.2 b4 ≤ ((9 : Int32)).toNatClampNeg)) <|
  ltt (uI y33.1 b4 ((9 : Int32)).toNatClampNeg y33.2) fun M34 =>
  dr G 5 ((M34.2 a 0)) fun b35 =>
  bnd (FX5_fixed G M34 b35 ((0 : Int32)) ((1 : Int32))) fun y36 =>
  chk (¬ (((10 : Int32)) < 0 ∨ G.2.2 b4 ≤ ((10 : Int32)).toNatClampNeg)) <|
  ltt (uI y36.1 b4 ((10 : Int32)).toNatClampNeg y36.2) fun M37 =>
  dr G 5 ((M37.2 a 0)) fun b38 =>
  bnd (FX5_expect G M37 b38 ((0 : Int32))) fun y39 =>
  chk (¬ (((11 : Int32)) < 0 ∨ G.2.2 b4 ≤ ((11 : Int32)).toNatClampNeg)) <|
  ltt (uI y39 b4 ((11 : Int32)).toNatClampNeg ((1 : Int32))) fun M40 =>
  dr G 15 ((M40.2 a 6)) fun b41 =>
  chk (¬ (y2.2 < 0 ∨ G.2.2 b41 ≤ y2.2.toNatClampNeg)) <|
  dr G 13 ((M40.2 b41 y2.2.toNatClampNeg)) fun b42 =>
  chk (¬ ((0 : Int32)) < 0 ∧ ¬ ((0 : Int32)) < 0 ∧ ¬ ((12 : Int32)) < 0 ∧ ((0 : Int32)).toNatClampNeg + ((12 : Int32)).toNatClampNeg ≤ G.2.2 b4 ∧ ((0 : Int32)).toNatClampNeg + ((12 : Int32)).toNatClampNeg ≤ G.2.2 b42) <|
  ltt (rI M40 b42 (va_cpy (M40.1 b4) (M40.1 b42) ((0 : Int32)).toNatClampNeg ((0 : Int32)).toNatClampNeg ((12 : Int32)).toNatClampNeg)) fun M43 =>
  some M43
set_option maxHeartbeats 4000000 in
set_option maxRecDepth 100000 in
theorem kX1_readParameters (l : Launch) (D : va_G) (ct : CT) (ad : Nat → Nat) (Z : Nat → Nat) (G : GG) (M : DD) (sz : Nat) (a : Nat)  (y : DD) (hc : a < G.1) (hk : G.2.1 a = 1) (hF : FX1_readParameters G M a  = some y) : Met l yX1_readParameters wsX1_readParameters ({ frames := 3, cells := 0, slots := 0, locals := 81 }) (va_Pc [.ref (ad a)] (kB D ct ad Z G M sz)) (va_Qv (fun (_ : Unit) => True) (fun _ t => kE D ct ad G (wA ad G sz) y t) (wA ad G sz)) 0 0 (wA ad G sz) := by
  refine Met.ofW (cc := cX1_readParameters) (maxL := 3) (ret := none) (by decide) rfl ?_
  intro p e s m args below meth c s₁ B hml hv
  obtain ⟨rfl, hsz, hP, hK, hD0, hZ, hN⟩ := hv
  have hx := B.exec
  have hb := B.bytes
  have hr := B.returns
  have hts := atoms_spec (ws := wsX1_readParameters) B.pre
  have hown : s.vm.findClass RX1 = some m.cls := findClass_of_methodNamed B.named
  have hlocks := B.notSynchronized
  subst hsz
  have hD := wD_self (sz := s.heap.size) hD0
  have hA9 : ∀ q, s.heap.size ≤ q → wA ad G s.heap.size q := fun q h => Or.inr h
  generalize hAe : wA ad G s.heap.size = A at hD hA9 hZ ⊢
  have hS : va_S A s.heap s.heap [] := va_S.rf
  have hl := lv_entry ([.ref (ad a)]) (n := 3) (Nat.le_of_ble_eq_true rfl)
  rw [lg_entry_eq]
  generalize (lg_sl ([.ref (ad a)]) ++ List.replicate (3 - (lg_sl ([.ref (ad a)])).length) Slot.unset).toArray = ls at hl ⊢
  have hl : lv_has ls 3 [(0, .ref (ad a))] := hl
  unfold FX1_readParameters at hF
  refine lv_aload_n hx hb dX1_readParameters_0 rfl (lv_at hl 0 rfl) ?_
  refine va_get (D := D) (ci := 1) (v := va_re ad (M.2 a 9)) (C := RX1) (T := TX1) (N := 22) hx hb hts (by decide +kernel) hown hK hP a (wld_o ct ad G M hc hk (by decide)) rfl 9 (by decide) (hts (.fieldLink RX1 62 "VideoSuite$Decoder" "draft" "[I") (by decide +kernel)) (fun _ h9 => h9) rfl dX1_readParameters_1 ?_
  refine lv_astoreq_n (lv' := [(1, va_re ad (M.2 a 9)), (0, .ref (ad a))]) hx hb dX1_readParameters_4 rfl hl (by decide) rfl (fun ls hl => ?_)
  refine lv_aloadq_n hx hb dX1_readParameters_5 rfl (lv_at hl 0 rfl) ?_
  refine lv_iconst (v := (0 : Int32)) hx hb dX1_readParameters_6 (by decide) ?_
  obtain ⟨y1, hy1, hF⟩ := bnd_some hF
  have hf9 := wA_in hD hA9 hS
  refine va_callv (va_runS (As := [va_re ad (M.2 a 9), .int (0 : Int32)]) (rest := []) ⟨hx, hb, hml, hown, hts⟩ (kJ7_fill_53178 l D ct ad Z G M s.heap.size ((M.2 a 9)) ((0 : Int32)) y1 hy1) (va_cwS 2 hts gX1_readParameters_J7_fill_53178 rfl rfl rfl (by decide +kernel) ⟨Nat.le_of_ble_eq_true rfl, Nat.le_of_ble_eq_true rfl⟩) ⟨fun a U g mk q => by obtain ⟨q0, q1, qP, qK, qD, qZ, qN⟩ := q; exact ⟨q0, q1, qP, va_K.moved (u := U) (U := U.calling g mk a) (Vm.Alike.refl U.vm) qK, qD, sF.moved (u := U) (U := U.calling g mk a) (Vm.Alike.refl U.vm) qZ, nF.same rfl qN⟩, fun U hU hW => ⟨rfl, by rw [hU], by rw [hU]; exact hP, va_K.moved hW.alike hK, hD.weaken (fun _ _ _ _ => trivial), by rw [hU]; exact ((hZ.kept hS.2.1).narrow hf9).moved hW.alike, hN.warm hW⟩⟩ rfl rfl hl.1 rfl (lv_room (Nat.le_of_ble_eq_true rfl)) dX1_readParameters_7 ⟨(Nat.zero_le _), (Nat.zero_le _)⟩) hS (fun q _ h => hf9 q h) hf9 (fun u t H locs ht hvm hw hB hz1 hk1 hS => ?_)
  obtain ⟨hP, hK9, hD9⟩ := hB
  rw [ht] at hP
  have hD := hD9.weaken (fun _ q _ h => hf9 q.1 h)
  refine lv_aload_n hx hb dX1_readParameters_10 rfl (lv_at hl 1 rfl) ?_
  refine lv_iconst (v := (3 : Int32)) hx hb dX1_readParameters_11 (by decide) ?_
  obtain ⟨y2, hy2, hF⟩ := bnd_some hF
  have hf9 := wA_in hD hA9 hS
  refine va_calli (va_runV (As := [.int (3 : Int32)]) (rest := []) ⟨hx, hb, hml, hown, hts⟩ (kX1_unsigned l D ct ad Z G y1 H.size a ((3 : Int32)) y2 hc hk hy2) (cwV 1 hts gX1_readParameters_X1_unsigned rfl rfl rfl (by decide +kernel) ⟨Nat.le_of_ble_eq_true rfl, Nat.le_of_ble_eq_true rfl⟩) ⟨fun a U g mk q => by obtain ⟨q0, q1, qP, qK, qD, qZ, qN⟩ := q; exact ⟨q0, q1, qP, va_K.moved (u := U) (U := U.calling g mk a) (Vm.Alike.refl U.vm) qK, qD, sF.moved (u := U) (U := U.calling g mk a) (Vm.Alike.refl U.vm) qZ, nF.same rfl qN⟩, va_recv hK hP (ci := 1) (q0 := a) rfl (wld_o ct ad G y1 hc hk (by decide)), fun U hU hW => ⟨rfl, by rw [hU], by rw [hU]; exact hP, va_K.moved hW.alike hK, hD.weaken (fun _ _ _ _ => trivial), by rw [hU]; exact ((hZ.kept hS.2.1).narrow hf9).moved hW.alike, hN.warm hW⟩⟩ rfl rfl hl.1 rfl (lv_room (Nat.le_of_ble_eq_true rfl)) dX1_readParameters_12 ⟨(Nat.zero_le _), (Nat.zero_le _)⟩) hS (fun q _ h => hf9 q h) hf9 (fun r u t H locs ht hvm hw hB hz1 hk1 hS => ?_)
  obtain ⟨hP, hK9, hD9⟩ := hB
  rw [ht] at hP
  try dsimp only at hw
  subst hw
  have hD := hD9.weaken (fun _ q _ h => hf9 q.1 h)
  refine lv_istore_n (lv' := [(2, .int y2.2), (1, va_re ad (M.2 a 9)), (0, .ref (ad a))]) hx hb dX1_readParameters_15 rfl hl (by decide) (by generalize ((M.2 a 9)) = o9; cases o9 <;> rfl) (fun ls hl => ?_)
  refine lv_aloadq_n hx hb dX1_readParameters_16 rfl (lv_at hl 1 rfl) ?_
  refine lv_iconst (v := (0 : Int32)) hx hb dX1_readParameters_17 (by decide) ?_
  refine lv_aload_n hx hb dX1_readParameters_18 rfl (lv_at hl 2 rfl) ?_
  refine lv_iconst (v := (3 : Int32)) hx hb dX1_readParameters_19 (by decide) ?_
  obtain ⟨y3, hy3, hF⟩ := bnd_some hF
  have hf9 := wA_in hD hA9 hS
  refine va_calli (va_runV (As := [.int (3 : Int32)]) (rest := [.int (0 : Int32), va_re ad (M.2 a 9)]) ⟨hx, hb, hml, hown, hts⟩ (kX1_unsigned l D ct ad Z G y2.1 H.size a ((3 : Int32)) y3 hc hk hy3) (cwV 1 hts gX1_readParameters_X1_unsigned rfl rfl rfl (by decide +kernel) ⟨Nat.le_of_ble_eq_true rfl, Nat.le_of_ble_eq_true rfl⟩) ⟨fun a U g mk q => by obtain ⟨q0, q1, qP, qK, qD, qZ, qN⟩ := q; exact ⟨q0, q1, qP, va_K.moved (u := U) (U := U.calling g mk a) (Vm.Alike.refl U.vm) qK, qD, sF.moved (u := U) (U := U.calling g mk a) (Vm.Alike.refl U.vm) qZ, nF.same rfl qN⟩, va_recv hK hP (ci := 1) (q0 := a) rfl (wld_o ct ad G y2.1 hc hk (by decide)), fun U hU hW => ⟨rfl, by rw [hU], by rw [hU]; exact hP, va_K.moved hW.alike hK, hD.weaken (fun _ _ _ _ => trivial), by rw [hU]; exact ((hZ.kept hS.2.1).narrow hf9).moved hW.alike, hN.warm hW⟩⟩ rfl rfl hl.1 rfl (lv_room (by simp only [List.map, va_re_cat]; exact Nat.le_of_ble_eq_true rfl)) dX1_readParameters_20 ⟨(Nat.zero_le _), (Nat.zero_le _)⟩) hS (fun q _ h => hf9 q h) hf9 (fun r u t H locs ht hvm hw hB hz1 hk1 hS => ?_)
  obtain ⟨hP, hK9, hD9⟩ := hB
  rw [ht] at hP
  try dsimp only at hw
  subst hw
  have hD := hD9.weaken (fun _ q _ h => hf9 q.1 h)
  obtain ⟨b4, ho4, hc4, hk4, hF⟩ := dr_some hF
  refine W_st (st' := [.int y3.2, .int (0 : Int32), .ref (ad b4)]) (by rw [va_some ho4]) ?_
  obtain ⟨hvc, hF⟩ := chk_some hF
  refine va_iast hx hb hK hP hD hS b4 1 (wld_i ct ad G y3.1 hc4 hk4) rfl hvc dX1_readParameters_23 (fun H locs hP hD hS => ?_)
  obtain ⟨M5, eM5, hF⟩ := ltt_some hF
  rw [set_i ct ad G y3.1 hc4 hk4, ← eM5] at hP hD
  refine lv_aloadq_n hx hb dX1_readParameters_24 rfl (lv_at hl 1 rfl) ?_
  refine lv_iconst (v := (1 : Int32)) hx hb dX1_readParameters_25 (by decide) ?_
  refine lv_aload_n hx hb dX1_readParameters_26 rfl (lv_at hl 2 rfl) ?_
  refine va_get (D := D) (ci := 1) (v := va_re ad (M5.2 a 0)) (C := RX1) (T := TX1) (N := 22) hx hb hts (by decide +kernel) hown hK hP a (wld_o ct ad G M5 hc hk (by decide)) rfl 0 (by decide) (hts (.fieldLink RX1 12 "VideoSuite$Decoder" "reader" "LVideoSuite$Reader;") (by decide +kernel)) (fun _ h9 => h9) rfl dX1_readParameters_27 ?_
  refine lv_iconst (v := (0 : Int32)) hx hb dX1_readParameters_30 (by decide) ?_
  refine lv_iconst (v := (1 : Int32)) hx hb dX1_readParameters_31 (by decide) ?_
  obtain ⟨b6, ho6, hc6, hk6, hF⟩ := dr_some hF
  refine W_st (st' := [.int (1 : Int32), .int (0 : Int32), .ref (ad b6), .int (1 : Int32), va_re ad (M.2 a 9)]) (by rw [va_some ho6]) ?_
  obtain ⟨y7, hy7, hF⟩ := bnd_some hF
  have hf9 := wA_in hD hA9 hS
  refine va_calli (va_runV (As := [.int (0 : Int32), .int (1 : Int32)]) (rest := [.int (1 : Int32), va_re ad (M.2 a 9)]) ⟨hx, hb, hml, hown, hts⟩ (kX5_fixed l D ct ad Z G M5 H.size b6 ((0 : Int32)) ((1 : Int32)) y7 hc6 hk6 hy7) (cwV 2 hts gX1_readParameters_X5_fixed rfl rfl rfl (by decide +kernel) ⟨Nat.le_of_ble_eq_true rfl, Nat.le_of_ble_eq_true rfl⟩) ⟨fun a U g mk q => by obtain ⟨q0, q1, qP, qK, qD, qZ, qN⟩ := q; exact ⟨q0, q1, qP, va_K.moved (u := U) (U := U.calling g mk a) (Vm.Alike.refl U.vm) qK, qD, sF.moved (u := U) (U := U.calling g mk a) (Vm.Alike.refl U.vm) qZ, nF.same rfl qN⟩, va_recv hK hP (ci := 5) (q0 := b6) rfl (wld_o ct ad G M5 hc6 hk6 (by decide)), fun U hU hW => ⟨rfl, by rw [hU], by rw [hU]; exact hP, va_K.moved hW.alike hK, hD.weaken (fun _ _ _ _ => trivial), by rw [hU]; exact ((hZ.kept hS.2.1).narrow hf9).moved hW.alike, hN.warm hW⟩⟩ rfl rfl hl.1 rfl (lv_room (by simp only [List.map, va_re_cat]; exact Nat.le_of_ble_eq_true rfl)) dX1_readParameters_32 ⟨(Nat.zero_le _), (Nat.zero_le _)⟩) hS (fun q _ h => hf9 q h) hf9 (fun r u t H locs ht hvm hw hB hz1 hk1 hS => ?_)
  obtain ⟨hP, hK9, hD9⟩ := hB
  rw [ht] at hP
  try dsimp only at hw
  subst hw
  have hD := hD9.weaken (fun _ q _ h => hf9 q.1 h)
  refine W_st (st' := [.int y7.2, .int (1 : Int32), .ref (ad b4)]) (by rw [va_some ho4]) ?_
  obtain ⟨hvc, hF⟩ := chk_some hF
  refine va_iast hx hb hK hP hD hS b4 1 (wld_i ct ad G y7.1 hc4 hk4) rfl hvc dX1_readParameters_35 (fun H locs hP hD hS => ?_)
  obtain ⟨M8, eM8, hF⟩ := ltt_some hF
  rw [set_i ct ad G y7.1 hc4 hk4, ← eM8] at hP hD
  refine lv_aloadq_n hx hb dX1_readParameters_36 rfl (lv_at hl 1 rfl) ?_
  refine lv_iconst (v := (2 : Int32)) hx hb dX1_readParameters_37 (by decide) ?_
  refine lv_aload_n hx hb dX1_readParameters_38 rfl (lv_at hl 2 rfl) ?_
  refine va_get (D := D) (ci := 1) (v := va_re ad (M8.2 a 0)) (C := RX1) (T := TX1) (N := 22) hx hb hts (by decide +kernel) hown hK hP a (wld_o ct ad G M8 hc hk (by decide)) rfl 0 (by decide) (hts (.fieldLink RX1 12 "VideoSuite$Decoder" "reader" "LVideoSuite$Reader;") (by decide +kernel)) (fun _ h9 => h9) rfl dX1_readParameters_39 ?_
  refine lv_iconst (v := (0 : Int32)) hx hb dX1_readParameters_42 (by decide) ?_
  refine lv_iconst (v := (1 : Int32)) hx hb dX1_readParameters_43 (by decide) ?_
  obtain ⟨b9, ho9, hc9, hk9, hF⟩ := dr_some hF
  refine W_st (st' := [.int (1 : Int32), .int (0 : Int32), .ref (ad b9), .int (2 : Int32), va_re ad (M.2 a 9)]) (by rw [va_some ho9]) ?_
  obtain ⟨y10, hy10, hF⟩ := bnd_some hF
  have hf9 := wA_in hD hA9 hS
  refine va_calli (va_runV (As := [.int (0 : Int32), .int (1 : Int32)]) (rest := [.int (2 : Int32), va_re ad (M.2 a 9)]) ⟨hx, hb, hml, hown, hts⟩ (kX5_fixed l D ct ad Z G M8 H.size b9 ((0 : Int32)) ((1 : Int32)) y10 hc9 hk9 hy10) (cwV 2 hts gX1_readParameters_X5_fixed rfl rfl rfl (by decide +kernel) ⟨Nat.le_of_ble_eq_true rfl, Nat.le_of_ble_eq_true rfl⟩) ⟨fun a U g mk q => by obtain ⟨q0, q1, qP, qK, qD, qZ, qN⟩ := q; exact ⟨q0, q1, qP, va_K.moved (u := U) (U := U.calling g mk a) (Vm.Alike.refl U.vm) qK, qD, sF.moved (u := U) (U := U.calling g mk a) (Vm.Alike.refl U.vm) qZ, nF.same rfl qN⟩, va_recv hK hP (ci := 5) (q0 := b9) rfl (wld_o ct ad G M8 hc9 hk9 (by decide)), fun U hU hW => ⟨rfl, by rw [hU], by rw [hU]; exact hP, va_K.moved hW.alike hK, hD.weaken (fun _ _ _ _ => trivial), by rw [hU]; exact ((hZ.kept hS.2.1).narrow hf9).moved hW.alike, hN.warm hW⟩⟩ rfl rfl hl.1 rfl (lv_room (by simp only [List.map, va_re_cat]; exact Nat.le_of_ble_eq_true rfl)) dX1_readParameters_44 ⟨(Nat.zero_le _), (Nat.zero_le _)⟩) hS (fun q _ h => hf9 q h) hf9 (fun r u t H locs ht hvm hw hB hz1 hk1 hS => ?_)
  obtain ⟨hP, hK9, hD9⟩ := hB
  rw [ht] at hP
  try dsimp only at hw
  subst hw
  have hD := hD9.weaken (fun _ q _ h => hf9 q.1 h)
  refine W_st (st' := [.int y10.2, .int (2 : Int32), .ref (ad b4)]) (by rw [va_some ho4]) ?_
  obtain ⟨hvc, hF⟩ := chk_some hF
  refine va_iast hx hb hK hP hD hS b4 1 (wld_i ct ad G y10.1 hc4 hk4) rfl hvc dX1_readParameters_47 (fun H locs hP hD hS => ?_)
  obtain ⟨M11, eM11, hF⟩ := ltt_some hF
  rw [set_i ct ad G y10.1 hc4 hk4, ← eM11] at hP hD
  refine lv_aload_n hx hb dX1_readParameters_48 rfl (lv_at hl 2 rfl) ?_
  refine lv_iconst (v := (0 : Int32)) hx hb dX1_readParameters_49 (by decide) ?_
  obtain ⟨y12, hy12, hF⟩ := bnd_some hF
  have hf9 := wA_in hD hA9 hS
  refine va_calli (va_runV (As := [.int (0 : Int32)]) (rest := []) ⟨hx, hb, hml, hown, hts⟩ (kX1_unsigned l D ct ad Z G M11 H.size a ((0 : Int32)) y12 hc hk hy12) (cwV 1 hts gX1_readParameters_X1_unsigned rfl rfl rfl (by decide +kernel) ⟨Nat.le_of_ble_eq_true rfl, Nat.le_of_ble_eq_true rfl⟩) ⟨fun a U g mk q => by obtain ⟨q0, q1, qP, qK, qD, qZ, qN⟩ := q; exact ⟨q0, q1, qP, va_K.moved (u := U) (U := U.calling g mk a) (Vm.Alike.refl U.vm) qK, qD, sF.moved (u := U) (U := U.calling g mk a) (Vm.Alike.refl U.vm) qZ, nF.same rfl qN⟩, va_recv hK hP (ci := 1) (q0 := a) rfl (wld_o ct ad G M11 hc hk (by decide)), fun U hU hW => ⟨rfl, by rw [hU], by rw [hU]; exact hP, va_K.moved hW.alike hK, hD.weaken (fun _ _ _ _ => trivial), by rw [hU]; exact ((hZ.kept hS.2.1).narrow hf9).moved hW.alike, hN.warm hW⟩⟩ rfl rfl hl.1 rfl (lv_room (Nat.le_of_ble_eq_true rfl)) dX1_readParameters_50 ⟨(Nat.zero_le _), (Nat.zero_le _)⟩) hS (fun q _ h => hf9 q h) hf9 (fun r u t H locs ht hvm hw hB hz1 hk1 hS => ?_)
  obtain ⟨hP, hK9, hD9⟩ := hB
  rw [ht] at hP
  try dsimp only at hw
  subst hw
  have hD := hD9.weaken (fun _ q _ h => hf9 q.1 h)
  refine lv_pop hx hb dX1_readParameters_53 rfl ?_
  refine lv_aloadq_n hx hb dX1_readParameters_54 rfl (lv_at hl 1 rfl) ?_
  refine lv_iconst (v := (3 : Int32)) hx hb dX1_readParameters_55 (by decide) ?_
  refine lv_aload_n hx hb dX1_readParameters_56 rfl (lv_at hl 2 rfl) ?_
  refine lv_bipush (v := (7 : Int32)) hx hb dX1_readParameters_57 (by decide) ?_
  obtain ⟨y13, hy13, hF⟩ := bnd_some hF
  have hf9 := wA_in hD hA9 hS
  refine va_calli (va_runV (As := [.int (7 : Int32)]) (rest := [.int (3 : Int32), va_re ad (M.2 a 9)]) ⟨hx, hb, hml, hown, hts⟩ (kX1_unsigned l D ct ad Z G y12.1 H.size a ((7 : Int32)) y13 hc hk hy13) (cwV 1 hts gX1_readParameters_X1_unsigned rfl rfl rfl (by decide +kernel) ⟨Nat.le_of_ble_eq_true rfl, Nat.le_of_ble_eq_true rfl⟩) ⟨fun a U g mk q => by obtain ⟨q0, q1, qP, qK, qD, qZ, qN⟩ := q; exact ⟨q0, q1, qP, va_K.moved (u := U) (U := U.calling g mk a) (Vm.Alike.refl U.vm) qK, qD, sF.moved (u := U) (U := U.calling g mk a) (Vm.Alike.refl U.vm) qZ, nF.same rfl qN⟩, va_recv hK hP (ci := 1) (q0 := a) rfl (wld_o ct ad G y12.1 hc hk (by decide)), fun U hU hW => ⟨rfl, by rw [hU], by rw [hU]; exact hP, va_K.moved hW.alike hK, hD.weaken (fun _ _ _ _ => trivial), by rw [hU]; exact ((hZ.kept hS.2.1).narrow hf9).moved hW.alike, hN.warm hW⟩⟩ rfl rfl hl.1 rfl (lv_room (by simp only [List.map, va_re_cat]; exact Nat.le_of_ble_eq_true rfl)) dX1_readParameters_59 ⟨(Nat.zero_le _), (Nat.zero_le _)⟩) hS (fun q _ h => hf9 q h) hf9 (fun r u t H locs ht hvm hw hB hz1 hk1 hS => ?_)
  obtain ⟨hP, hK9, hD9⟩ := hB
  rw [ht] at hP
  try dsimp only at hw
  subst hw
  have hD := hD9.weaken (fun _ q _ h => hf9 q.1 h)
  refine lv_iconst (v := (1 : Int32)) hx hb dX1_readParameters_62 (by decide) ?_
  refine lv_iadd hx hb dX1_readParameters_63 ?_
  obtain ⟨x14, ex14, hF⟩ := ltt_some hF
  refine lv_topi (fun zx14 ezx14 => ?_)
  obtain rfl : x14 = zx14 := ex14.trans ezx14.symm
  refine W_st (st' := [.int x14, .int (3 : Int32), .ref (ad b4)]) (by rw [va_some ho4]) ?_
  obtain ⟨hvc, hF⟩ := chk_some hF
  refine va_iast hx hb hK hP hD hS b4 1 (wld_i ct ad G y13.1 hc4 hk4) rfl hvc dX1_readParameters_64 (fun H locs hP hD hS => ?_)
  obtain ⟨M15, eM15, hF⟩ := ltt_some hF
  rw [set_i ct ad G y13.1 hc4 hk4, ← eM15] at hP hD
  refine lv_aloadq_n hx hb dX1_readParameters_65 rfl (lv_at hl 1 rfl) ?_
  refine lv_iconst (v := (4 : Int32)) hx hb dX1_readParameters_66 (by decide) ?_
  refine lv_aload_n hx hb dX1_readParameters_67 rfl (lv_at hl 2 rfl) ?_
  refine lv_bipush (v := (7 : Int32)) hx hb dX1_readParameters_68 (by decide) ?_
  obtain ⟨y16, hy16, hF⟩ := bnd_some hF
  have hf9 := wA_in hD hA9 hS
  refine va_calli (va_runV (As := [.int (7 : Int32)]) (rest := [.int (4 : Int32), va_re ad (M.2 a 9)]) ⟨hx, hb, hml, hown, hts⟩ (kX1_unsigned l D ct ad Z G M15 H.size a ((7 : Int32)) y16 hc hk hy16) (cwV 1 hts gX1_readParameters_X1_unsigned rfl rfl rfl (by decide +kernel) ⟨Nat.le_of_ble_eq_true rfl, Nat.le_of_ble_eq_true rfl⟩) ⟨fun a U g mk q => by obtain ⟨q0, q1, qP, qK, qD, qZ, qN⟩ := q; exact ⟨q0, q1, qP, va_K.moved (u := U) (U := U.calling g mk a) (Vm.Alike.refl U.vm) qK, qD, sF.moved (u := U) (U := U.calling g mk a) (Vm.Alike.refl U.vm) qZ, nF.same rfl qN⟩, va_recv hK hP (ci := 1) (q0 := a) rfl (wld_o ct ad G M15 hc hk (by decide)), fun U hU hW => ⟨rfl, by rw [hU], by rw [hU]; exact hP, va_K.moved hW.alike hK, hD.weaken (fun _ _ _ _ => trivial), by rw [hU]; exact ((hZ.kept hS.2.1).narrow hf9).moved hW.alike, hN.warm hW⟩⟩ rfl rfl hl.1 rfl (lv_room (by simp only [List.map, va_re_cat]; exact Nat.le_of_ble_eq_true rfl)) dX1_readParameters_70 ⟨(Nat.zero_le _), (Nat.zero_le _)⟩) hS (fun q _ h => hf9 q h) hf9 (fun r u t H locs ht hvm hw hB hz1 hk1 hS => ?_)
  obtain ⟨hP, hK9, hD9⟩ := hB
  rw [ht] at hP
  try dsimp only at hw
  subst hw
  have hD := hD9.weaken (fun _ q _ h => hf9 q.1 h)
  refine lv_iconst (v := (1 : Int32)) hx hb dX1_readParameters_73 (by decide) ?_
  refine lv_iadd hx hb dX1_readParameters_74 ?_
  obtain ⟨x17, ex17, hF⟩ := ltt_some hF
  refine lv_topi (fun zx17 ezx17 => ?_)
  obtain rfl : x17 = zx17 := ex17.trans ezx17.symm
  refine W_st (st' := [.int x17, .int (4 : Int32), .ref (ad b4)]) (by rw [va_some ho4]) ?_
  obtain ⟨hvc, hF⟩ := chk_some hF
  refine va_iast hx hb hK hP hD hS b4 1 (wld_i ct ad G y16.1 hc4 hk4) rfl hvc dX1_readParameters_75 (fun H locs hP hD hS => ?_)
  obtain ⟨M18, eM18, hF⟩ := ltt_some hF
  rw [set_i ct ad G y16.1 hc4 hk4, ← eM18] at hP hD
  refine lv_aloadq_n hx hb dX1_readParameters_76 rfl (lv_at hl 1 rfl) ?_
  refine lv_iconst (v := (5 : Int32)) hx hb dX1_readParameters_77 (by decide) ?_
  refine lv_aload_n hx hb dX1_readParameters_78 rfl (lv_at hl 2 rfl) ?_
  refine va_get (D := D) (ci := 1) (v := va_re ad (M18.2 a 0)) (C := RX1) (T := TX1) (N := 22) hx hb hts (by decide +kernel) hown hK hP a (wld_o ct ad G M18 hc hk (by decide)) rfl 0 (by decide) (hts (.fieldLink RX1 12 "VideoSuite$Decoder" "reader" "LVideoSuite$Reader;") (by decide +kernel)) (fun _ h9 => h9) rfl dX1_readParameters_79 ?_
  refine lv_iconst (v := (0 : Int32)) hx hb dX1_readParameters_82 (by decide) ?_
  refine lv_iconst (v := (1 : Int32)) hx hb dX1_readParameters_83 (by decide) ?_
  obtain ⟨b19, ho19, hc19, hk19, hF⟩ := dr_some hF
  refine W_st (st' := [.int (1 : Int32), .int (0 : Int32), .ref (ad b19), .int (5 : Int32), va_re ad (M.2 a 9)]) (by rw [va_some ho19]) ?_
  obtain ⟨y20, hy20, hF⟩ := bnd_some hF
  have hf9 := wA_in hD hA9 hS
  refine va_calli (va_runV (As := [.int (0 : Int32), .int (1 : Int32)]) (rest := [.int (5 : Int32), va_re ad (M.2 a 9)]) ⟨hx, hb, hml, hown, hts⟩ (kX5_fixed l D ct ad Z G M18 H.size b19 ((0 : Int32)) ((1 : Int32)) y20 hc19 hk19 hy20) (cwV 2 hts gX1_readParameters_X5_fixed rfl rfl rfl (by decide +kernel) ⟨Nat.le_of_ble_eq_true rfl, Nat.le_of_ble_eq_true rfl⟩) ⟨fun a U g mk q => by obtain ⟨q0, q1, qP, qK, qD, qZ, qN⟩ := q; exact ⟨q0, q1, qP, va_K.moved (u := U) (U := U.calling g mk a) (Vm.Alike.refl U.vm) qK, qD, sF.moved (u := U) (U := U.calling g mk a) (Vm.Alike.refl U.vm) qZ, nF.same rfl qN⟩, va_recv hK hP (ci := 5) (q0 := b19) rfl (wld_o ct ad G M18 hc19 hk19 (by decide)), fun U hU hW => ⟨rfl, by rw [hU], by rw [hU]; exact hP, va_K.moved hW.alike hK, hD.weaken (fun _ _ _ _ => trivial), by rw [hU]; exact ((hZ.kept hS.2.1).narrow hf9).moved hW.alike, hN.warm hW⟩⟩ rfl rfl hl.1 rfl (lv_room (by simp only [List.map, va_re_cat]; exact Nat.le_of_ble_eq_true rfl)) dX1_readParameters_84 ⟨(Nat.zero_le _), (Nat.zero_le _)⟩) hS (fun q _ h => hf9 q h) hf9 (fun r u t H locs ht hvm hw hB hz1 hk1 hS => ?_)
  obtain ⟨hP, hK9, hD9⟩ := hB
  rw [ht] at hP
  try dsimp only at hw
  subst hw
  have hD := hD9.weaken (fun _ q _ h => hf9 q.1 h)
  refine W_st (st' := [.int y20.2, .int (5 : Int32), .ref (ad b4)]) (by rw [va_some ho4]) ?_
  obtain ⟨hvc, hF⟩ := chk_some hF
  refine va_iast hx hb hK hP hD hS b4 1 (wld_i ct ad G y20.1 hc4 hk4) rfl hvc dX1_readParameters_87 (fun H locs hP hD hS => ?_)
  obtain ⟨M21, eM21, hF⟩ := ltt_some hF
  rw [set_i ct ad G y20.1 hc4 hk4, ← eM21] at hP hD
  refine lv_aloadq_n hx hb dX1_readParameters_88 rfl (lv_at hl 1 rfl) ?_
  refine lv_bipush (v := (6 : Int32)) hx hb dX1_readParameters_89 (by decide) ?_
  refine lv_aload_n hx hb dX1_readParameters_91 rfl (lv_at hl 2 rfl) ?_
  refine va_get (D := D) (ci := 1) (v := va_re ad (M21.2 a 0)) (C := RX1) (T := TX1) (N := 22) hx hb hts (by decide +kernel) hown hK hP a (wld_o ct ad G M21 hc hk (by decide)) rfl 0 (by decide) (hts (.fieldLink RX1 12 "VideoSuite$Decoder" "reader" "LVideoSuite$Reader;") (by decide +kernel)) (fun _ h9 => h9) rfl dX1_readParameters_92 ?_
  refine lv_iconst (v := (0 : Int32)) hx hb dX1_readParameters_95 (by decide) ?_
  refine lv_iconst (v := (2 : Int32)) hx hb dX1_readParameters_96 (by decide) ?_
  obtain ⟨b22, ho22, hc22, hk22, hF⟩ := dr_some hF
  refine W_st (st' := [.int (2 : Int32), .int (0 : Int32), .ref (ad b22), .int (6 : Int32), va_re ad (M.2 a 9)]) (by rw [va_some ho22]) ?_
  obtain ⟨y23, hy23, hF⟩ := bnd_some hF
  have hf9 := wA_in hD hA9 hS
  refine va_calli (va_runV (As := [.int (0 : Int32), .int (2 : Int32)]) (rest := [.int (6 : Int32), va_re ad (M.2 a 9)]) ⟨hx, hb, hml, hown, hts⟩ (kX5_fixed l D ct ad Z G M21 H.size b22 ((0 : Int32)) ((2 : Int32)) y23 hc22 hk22 hy23) (cwV 2 hts gX1_readParameters_X5_fixed rfl rfl rfl (by decide +kernel) ⟨Nat.le_of_ble_eq_true rfl, Nat.le_of_ble_eq_true rfl⟩) ⟨fun a U g mk q => by obtain ⟨q0, q1, qP, qK, qD, qZ, qN⟩ := q; exact ⟨q0, q1, qP, va_K.moved (u := U) (U := U.calling g mk a) (Vm.Alike.refl U.vm) qK, qD, sF.moved (u := U) (U := U.calling g mk a) (Vm.Alike.refl U.vm) qZ, nF.same rfl qN⟩, va_recv hK hP (ci := 5) (q0 := b22) rfl (wld_o ct ad G M21 hc22 hk22 (by decide)), fun U hU hW => ⟨rfl, by rw [hU], by rw [hU]; exact hP, va_K.moved hW.alike hK, hD.weaken (fun _ _ _ _ => trivial), by rw [hU]; exact ((hZ.kept hS.2.1).narrow hf9).moved hW.alike, hN.warm hW⟩⟩ rfl rfl hl.1 rfl (lv_room (by simp only [List.map, va_re_cat]; exact Nat.le_of_ble_eq_true rfl)) dX1_readParameters_97 ⟨(Nat.zero_le _), (Nat.zero_le _)⟩) hS (fun q _ h => hf9 q h) hf9 (fun r u t H locs ht hvm hw hB hz1 hk1 hS => ?_)
  obtain ⟨hP, hK9, hD9⟩ := hB
  rw [ht] at hP
  try dsimp only at hw
  subst hw
  have hD := hD9.weaken (fun _ q _ h => hf9 q.1 h)
  refine W_st (st' := [.int y23.2, .int (6 : Int32), .ref (ad b4)]) (by rw [va_some ho4]) ?_
  obtain ⟨hvc, hF⟩ := chk_some hF
  refine va_iast hx hb hK hP hD hS b4 1 (wld_i ct ad G y23.1 hc4 hk4) rfl hvc dX1_readParameters_100 (fun H locs hP hD hS => ?_)
  obtain ⟨M24, eM24, hF⟩ := ltt_some hF
  rw [set_i ct ad G y23.1 hc4 hk4, ← eM24] at hP hD
  refine lv_aloadq_n hx hb dX1_readParameters_101 rfl (lv_at hl 1 rfl) ?_
  refine lv_bipush (v := (6 : Int32)) hx hb dX1_readParameters_102 (by decide) ?_
  refine W_st (st' := [.int (6 : Int32), .ref (ad b4)]) (by rw [va_some ho4]) ?_
  obtain ⟨hvc, hF⟩ := chk_some hF
  refine va_iald hx hb hK hP b4 1 (wld_i ct ad G M24 hc4 hk4) rfl hvc dX1_readParameters_104 ?_
  obtain ⟨x25, ex25, hF⟩ := ltt_some hF
  refine lv_topi (fun zx25 ezx25 => ?_)
  obtain rfl : x25 = zx25 := ex25.trans ezx25.symm
  refine lv_iconst (v := (2 : Int32)) hx hb dX1_readParameters_105 (by decide) ?_
  obtain ⟨y26, hy26, hF⟩ := bnd_some hF
  have J26 : ∀ (H : Heap) (locs : List Loc) (ls : Array Slot), va_P D classes (wld ct ad G y26) H → va_D A (wld ct ad G y26) → va_S A s.heap H locs → lv_has ls 3 [(2, .int y2.2), (1, va_re ad (M.2 a 9)), (0, .ref (ad a))] → W p l e (headSpec wsX1_readParameters ({ frames := 3, cells := 0, slots := 0, locals := 81 })).room s m ([.ref (ad a)] : List Value).toArray below meth c H locs 0 0 (MQ below (va_Qv (fun (_ : Unit) => True) (fun _ t => kE D ct ad G A y t) A) ([.ref (ad a)] : List Value).toArray s 0 0 A) (F0 m 124 ls []) := by
    intro H locs ls hP hD hS hl
    refine lv_aloadq_n hx hb dX1_readParameters_124 rfl (lv_at hl 1 rfl) ?_
    refine lv_bipush (v := (7 : Int32)) hx hb dX1_readParameters_125 (by decide) ?_
    refine lv_aload_n hx hb dX1_readParameters_127 rfl (lv_at hl 2 rfl) ?_
    refine lv_bipush (v := (-26 : Int32)) hx hb dX1_readParameters_128 (by decide) ?_
    refine lv_bipush (v := (25 : Int32)) hx hb dX1_readParameters_130 (by decide) ?_
    obtain ⟨y27, hy27, hF⟩ := bnd_some hF
    have hf9 := wA_in hD hA9 hS
    refine va_calli (va_runV (As := [.int (-26 : Int32), .int (25 : Int32)]) (rest := [.int (7 : Int32), va_re ad (M.2 a 9)]) ⟨hx, hb, hml, hown, hts⟩ (kX1_signed l D ct ad Z G y26 H.size a ((-26 : Int32)) ((25 : Int32)) y27 hc hk hy27) (cwV 2 hts gX1_readParameters_X1_signed rfl rfl rfl (by decide +kernel) ⟨Nat.le_of_ble_eq_true rfl, Nat.le_of_ble_eq_true rfl⟩) ⟨fun a U g mk q => by obtain ⟨q0, q1, qP, qK, qD, qZ, qN⟩ := q; exact ⟨q0, q1, qP, va_K.moved (u := U) (U := U.calling g mk a) (Vm.Alike.refl U.vm) qK, qD, sF.moved (u := U) (U := U.calling g mk a) (Vm.Alike.refl U.vm) qZ, nF.same rfl qN⟩, va_recv hK hP (ci := 1) (q0 := a) rfl (wld_o ct ad G y26 hc hk (by decide)), fun U hU hW => ⟨rfl, by rw [hU], by rw [hU]; exact hP, va_K.moved hW.alike hK, hD.weaken (fun _ _ _ _ => trivial), by rw [hU]; exact ((hZ.kept hS.2.1).narrow hf9).moved hW.alike, hN.warm hW⟩⟩ rfl rfl hl.1 rfl (lv_room (by simp only [List.map, va_re_cat]; exact Nat.le_of_ble_eq_true rfl)) dX1_readParameters_132 ⟨(Nat.zero_le _), (Nat.zero_le _)⟩) hS (fun q _ h => hf9 q h) hf9 (fun r u t H locs ht hvm hw hB hz1 hk1 hS => ?_)
    obtain ⟨hP, hK9, hD9⟩ := hB
    rw [ht] at hP
    try dsimp only at hw
    subst hw
    have hD := hD9.weaken (fun _ q _ h => hf9 q.1 h)
    refine W_st (st' := [.int y27.2, .int (7 : Int32), .ref (ad b4)]) (by rw [va_some ho4]) ?_
    obtain ⟨hvc, hF⟩ := chk_some hF
    refine va_iast hx hb hK hP hD hS b4 1 (wld_i ct ad G y27.1 hc4 hk4) rfl hvc dX1_readParameters_135 (fun H locs hP hD hS => ?_)
    obtain ⟨M28, eM28, hF⟩ := ltt_some hF
    rw [set_i ct ad G y27.1 hc4 hk4, ← eM28] at hP hD
    refine lv_aload_n hx hb dX1_readParameters_136 rfl (lv_at hl 2 rfl) ?_
    refine lv_bipush (v := (-26 : Int32)) hx hb dX1_readParameters_137 (by decide) ?_
    refine lv_bipush (v := (25 : Int32)) hx hb dX1_readParameters_139 (by decide) ?_
    obtain ⟨y29, hy29, hF⟩ := bnd_some hF
    have hf9 := wA_in hD hA9 hS
    refine va_calli (va_runV (As := [.int (-26 : Int32), .int (25 : Int32)]) (rest := []) ⟨hx, hb, hml, hown, hts⟩ (kX1_signed l D ct ad Z G M28 H.size a ((-26 : Int32)) ((25 : Int32)) y29 hc hk hy29) (cwV 2 hts gX1_readParameters_X1_signed rfl rfl rfl (by decide +kernel) ⟨Nat.le_of_ble_eq_true rfl, Nat.le_of_ble_eq_true rfl⟩) ⟨fun a U g mk q => by obtain ⟨q0, q1, qP, qK, qD, qZ, qN⟩ := q; exact ⟨q0, q1, qP, va_K.moved (u := U) (U := U.calling g mk a) (Vm.Alike.refl U.vm) qK, qD, sF.moved (u := U) (U := U.calling g mk a) (Vm.Alike.refl U.vm) qZ, nF.same rfl qN⟩, va_recv hK hP (ci := 1) (q0 := a) rfl (wld_o ct ad G M28 hc hk (by decide)), fun U hU hW => ⟨rfl, by rw [hU], by rw [hU]; exact hP, va_K.moved hW.alike hK, hD.weaken (fun _ _ _ _ => trivial), by rw [hU]; exact ((hZ.kept hS.2.1).narrow hf9).moved hW.alike, hN.warm hW⟩⟩ rfl rfl hl.1 rfl (lv_room (Nat.le_of_ble_eq_true rfl)) dX1_readParameters_141 ⟨(Nat.zero_le _), (Nat.zero_le _)⟩) hS (fun q _ h => hf9 q h) hf9 (fun r u t H locs ht hvm hw hB hz1 hk1 hS => ?_)
    obtain ⟨hP, hK9, hD9⟩ := hB
    rw [ht] at hP
    try dsimp only at hw
    subst hw
    have hD := hD9.weaken (fun _ q _ h => hf9 q.1 h)
    refine lv_pop hx hb dX1_readParameters_144 rfl ?_
    refine lv_aloadq_n hx hb dX1_readParameters_145 rfl (lv_at hl 1 rfl) ?_
    refine lv_bipush (v := (8 : Int32)) hx hb dX1_readParameters_146 (by decide) ?_
    refine lv_aload_n hx hb dX1_readParameters_148 rfl (lv_at hl 2 rfl) ?_
    refine lv_bipush (v := (-12 : Int32)) hx hb dX1_readParameters_149 (by decide) ?_
    refine lv_bipush (v := (12 : Int32)) hx hb dX1_readParameters_151 (by decide) ?_
    obtain ⟨y30, hy30, hF⟩ := bnd_some hF
    have hf9 := wA_in hD hA9 hS
    refine va_calli (va_runV (As := [.int (-12 : Int32), .int (12 : Int32)]) (rest := [.int (8 : Int32), va_re ad (M.2 a 9)]) ⟨hx, hb, hml, hown, hts⟩ (kX1_signed l D ct ad Z G y29.1 H.size a ((-12 : Int32)) ((12 : Int32)) y30 hc hk hy30) (cwV 2 hts gX1_readParameters_X1_signed rfl rfl rfl (by decide +kernel) ⟨Nat.le_of_ble_eq_true rfl, Nat.le_of_ble_eq_true rfl⟩) ⟨fun a U g mk q => by obtain ⟨q0, q1, qP, qK, qD, qZ, qN⟩ := q; exact ⟨q0, q1, qP, va_K.moved (u := U) (U := U.calling g mk a) (Vm.Alike.refl U.vm) qK, qD, sF.moved (u := U) (U := U.calling g mk a) (Vm.Alike.refl U.vm) qZ, nF.same rfl qN⟩, va_recv hK hP (ci := 1) (q0 := a) rfl (wld_o ct ad G y29.1 hc hk (by decide)), fun U hU hW => ⟨rfl, by rw [hU], by rw [hU]; exact hP, va_K.moved hW.alike hK, hD.weaken (fun _ _ _ _ => trivial), by rw [hU]; exact ((hZ.kept hS.2.1).narrow hf9).moved hW.alike, hN.warm hW⟩⟩ rfl rfl hl.1 rfl (lv_room (by simp only [List.map, va_re_cat]; exact Nat.le_of_ble_eq_true rfl)) dX1_readParameters_153 ⟨(Nat.zero_le _), (Nat.zero_le _)⟩) hS (fun q _ h => hf9 q h) hf9 (fun r u t H locs ht hvm hw hB hz1 hk1 hS => ?_)
    obtain ⟨hP, hK9, hD9⟩ := hB
    rw [ht] at hP
    try dsimp only at hw
    subst hw
    have hD := hD9.weaken (fun _ q _ h => hf9 q.1 h)
    refine W_st (st' := [.int y30.2, .int (8 : Int32), .ref (ad b4)]) (by rw [va_some ho4]) ?_
    obtain ⟨hvc, hF⟩ := chk_some hF
    refine va_iast hx hb hK hP hD hS b4 1 (wld_i ct ad G y30.1 hc4 hk4) rfl hvc dX1_readParameters_156 (fun H locs hP hD hS => ?_)
    obtain ⟨M31, eM31, hF⟩ := ltt_some hF
    rw [set_i ct ad G y30.1 hc4 hk4, ← eM31] at hP hD
    refine lv_aloadq_n hx hb dX1_readParameters_157 rfl (lv_at hl 1 rfl) ?_
    refine lv_bipush (v := (9 : Int32)) hx hb dX1_readParameters_158 (by decide) ?_
    refine lv_aload_n hx hb dX1_readParameters_160 rfl (lv_at hl 2 rfl) ?_
    refine va_get (D := D) (ci := 1) (v := va_re ad (M31.2 a 0)) (C := RX1) (T := TX1) (N := 22) hx hb hts (by decide +kernel) hown hK hP a (wld_o ct ad G M31 hc hk (by decide)) rfl 0 (by decide) (hts (.fieldLink RX1 12 "VideoSuite$Decoder" "reader" "LVideoSuite$Reader;") (by decide +kernel)) (fun _ h9 => h9) rfl dX1_readParameters_161 ?_
    refine lv_iconst (v := (0 : Int32)) hx hb dX1_readParameters_164 (by decide) ?_
    refine lv_iconst (v := (1 : Int32)) hx hb dX1_readParameters_165 (by decide) ?_
    obtain ⟨b32, ho32, hc32, hk32, hF⟩ := dr_some hF
    refine W_st (st' := [.int (1 : Int32), .int (0 : Int32), .ref (ad b32), .int (9 : Int32), va_re ad (M.2 a 9)]) (by rw [va_some ho32]) ?_
    obtain ⟨y33, hy33, hF⟩ := bnd_some hF
    have hf9 := wA_in hD hA9 hS
    refine va_calli (va_runV (As := [.int (0 : Int32), .int (1 : Int32)]) (rest := [.int (9 : Int32), va_re ad (M.2 a 9)]) ⟨hx, hb, hml, hown, hts⟩ (kX5_fixed l D ct ad Z G M31 H.size b32 ((0 : Int32)) ((1 : Int32)) y33 hc32 hk32 hy33) (cwV 2 hts gX1_readParameters_X5_fixed rfl rfl rfl (by decide +kernel) ⟨Nat.le_of_ble_eq_true rfl, Nat.le_of_ble_eq_true rfl⟩) ⟨fun a U g mk q => by obtain ⟨q0, q1, qP, qK, qD, qZ, qN⟩ := q; exact ⟨q0, q1, qP, va_K.moved (u := U) (U := U.calling g mk a) (Vm.Alike.refl U.vm) qK, qD, sF.moved (u := U) (U := U.calling g mk a) (Vm.Alike.refl U.vm) qZ, nF.same rfl qN⟩, va_recv hK hP (ci := 5) (q0 := b32) rfl (wld_o ct ad G M31 hc32 hk32 (by decide)), fun U hU hW => ⟨rfl, by rw [hU], by rw [hU]; exact hP, va_K.moved hW.alike hK, hD.weaken (fun _ _ _ _ => trivial), by rw [hU]; exact ((hZ.kept hS.2.1).narrow hf9).moved hW.alike, hN.warm hW⟩⟩ rfl rfl hl.1 rfl (lv_room (by simp only [List.map, va_re_cat]; exact Nat.le_of_ble_eq_true rfl)) dX1_readParameters_166 ⟨(Nat.zero_le _), (Nat.zero_le _)⟩) hS (fun q _ h => hf9 q h) hf9 (fun r u t H locs ht hvm hw hB hz1 hk1 hS => ?_)
    obtain ⟨hP, hK9, hD9⟩ := hB
    rw [ht] at hP
    try dsimp only at hw
    subst hw
    have hD := hD9.weaken (fun _ q _ h => hf9 q.1 h)
    refine W_st (st' := [.int y33.2, .int (9 : Int32), .ref (ad b4)]) (by rw [va_some ho4]) ?_
    obtain ⟨hvc, hF⟩ := chk_some hF
    refine va_iast hx hb hK hP hD hS b4 1 (wld_i ct ad G y33.1 hc4 hk4) rfl hvc dX1_readParameters_169 (fun H locs hP hD hS => ?_)
    obtain ⟨M34, eM34, hF⟩ := ltt_some hF
    rw [set_i ct ad G y33.1 hc4 hk4, ← eM34] at hP hD
    refine lv_aloadq_n hx hb dX1_readParameters_170 rfl (lv_at hl 1 rfl) ?_
    refine lv_bipush (v := (10 : Int32)) hx hb dX1_readParameters_171 (by decide) ?_
    refine lv_aload_n hx hb dX1_readParameters_173 rfl (lv_at hl 2 rfl) ?_
    refine va_get (D := D) (ci := 1) (v := va_re ad (M34.2 a 0)) (C := RX1) (T := TX1) (N := 22) hx hb hts (by decide +kernel) hown hK hP a (wld_o ct ad G M34 hc hk (by decide)) rfl 0 (by decide) (hts (.fieldLink RX1 12 "VideoSuite$Decoder" "reader" "LVideoSuite$Reader;") (by decide +kernel)) (fun _ h9 => h9) rfl dX1_readParameters_174 ?_
    refine lv_iconst (v := (0 : Int32)) hx hb dX1_readParameters_177 (by decide) ?_
    refine lv_iconst (v := (1 : Int32)) hx hb dX1_readParameters_178 (by decide) ?_
    obtain ⟨b35, ho35, hc35, hk35, hF⟩ := dr_some hF
    refine W_st (st' := [.int (1 : Int32), .int (0 : Int32), .ref (ad b35), .int (10 : Int32), va_re ad (M.2 a 9)]) (by rw [va_some ho35]) ?_
    obtain ⟨y36, hy36, hF⟩ := bnd_some hF
    have hf9 := wA_in hD hA9 hS
    refine va_calli (va_runV (As := [.int (0 : Int32), .int (1 : Int32)]) (rest := [.int (10 : Int32), va_re ad (M.2 a 9)]) ⟨hx, hb, hml, hown, hts⟩ (kX5_fixed l D ct ad Z G M34 H.size b35 ((0 : Int32)) ((1 : Int32)) y36 hc35 hk35 hy36) (cwV 2 hts gX1_readParameters_X5_fixed rfl rfl rfl (by decide +kernel) ⟨Nat.le_of_ble_eq_true rfl, Nat.le_of_ble_eq_true rfl⟩) ⟨fun a U g mk q => by obtain ⟨q0, q1, qP, qK, qD, qZ, qN⟩ := q; exact ⟨q0, q1, qP, va_K.moved (u := U) (U := U.calling g mk a) (Vm.Alike.refl U.vm) qK, qD, sF.moved (u := U) (U := U.calling g mk a) (Vm.Alike.refl U.vm) qZ, nF.same rfl qN⟩, va_recv hK hP (ci := 5) (q0 := b35) rfl (wld_o ct ad G M34 hc35 hk35 (by decide)), fun U hU hW => ⟨rfl, by rw [hU], by rw [hU]; exact hP, va_K.moved hW.alike hK, hD.weaken (fun _ _ _ _ => trivial), by rw [hU]; exact ((hZ.kept hS.2.1).narrow hf9).moved hW.alike, hN.warm hW⟩⟩ rfl rfl hl.1 rfl (lv_room (by simp only [List.map, va_re_cat]; exact Nat.le_of_ble_eq_true rfl)) dX1_readParameters_179 ⟨(Nat.zero_le _), (Nat.zero_le _)⟩) hS (fun q _ h => hf9 q h) hf9 (fun r u t H locs ht hvm hw hB hz1 hk1 hS => ?_)
    obtain ⟨hP, hK9, hD9⟩ := hB
    rw [ht] at hP
    try dsimp only at hw
    subst hw
    have hD := hD9.weaken (fun _ q _ h => hf9 q.1 h)
    refine W_st (st' := [.int y36.2, .int (10 : Int32), .ref (ad b4)]) (by rw [va_some ho4]) ?_
    obtain ⟨hvc, hF⟩ := chk_some hF
    refine va_iast hx hb hK hP hD hS b4 1 (wld_i ct ad G y36.1 hc4 hk4) rfl hvc dX1_readParameters_182 (fun H locs hP hD hS => ?_)
    obtain ⟨M37, eM37, hF⟩ := ltt_some hF
    rw [set_i ct ad G y36.1 hc4 hk4, ← eM37] at hP hD
    refine lv_aload_n hx hb dX1_readParameters_183 rfl (lv_at hl 2 rfl) ?_
    refine va_get (D := D) (ci := 1) (v := va_re ad (M37.2 a 0)) (C := RX1) (T := TX1) (N := 22) hx hb hts (by decide +kernel) hown hK hP a (wld_o ct ad G M37 hc hk (by decide)) rfl 0 (by decide) (hts (.fieldLink RX1 12 "VideoSuite$Decoder" "reader" "LVideoSuite$Reader;") (by decide +kernel)) (fun _ h9 => h9) rfl dX1_readParameters_184 ?_
    refine lv_iconst (v := (0 : Int32)) hx hb dX1_readParameters_187 (by decide) ?_
    obtain ⟨b38, ho38, hc38, hk38, hF⟩ := dr_some hF
    refine W_st (st' := [.int (0 : Int32), .ref (ad b38)]) (by rw [va_some ho38]) ?_
    obtain ⟨y39, hy39, hF⟩ := bnd_some hF
    have hf9 := wA_in hD hA9 hS
    refine va_callv (va_runV (As := [.int (0 : Int32)]) (rest := []) ⟨hx, hb, hml, hown, hts⟩ (kX5_expect l D ct ad Z G M37 H.size b38 ((0 : Int32)) y39 hc38 hk38 hy39) (cwV 1 hts gX1_readParameters_X5_expect rfl rfl rfl (by decide +kernel) ⟨Nat.le_of_ble_eq_true rfl, Nat.le_of_ble_eq_true rfl⟩) ⟨fun a U g mk q => by obtain ⟨q0, q1, qP, qK, qD, qZ, qN⟩ := q; exact ⟨q0, q1, qP, va_K.moved (u := U) (U := U.calling g mk a) (Vm.Alike.refl U.vm) qK, qD, sF.moved (u := U) (U := U.calling g mk a) (Vm.Alike.refl U.vm) qZ, nF.same rfl qN⟩, va_recv hK hP (ci := 5) (q0 := b38) rfl (wld_o ct ad G M37 hc38 hk38 (by decide)), fun U hU hW => ⟨rfl, by rw [hU], by rw [hU]; exact hP, va_K.moved hW.alike hK, hD.weaken (fun _ _ _ _ => trivial), by rw [hU]; exact ((hZ.kept hS.2.1).narrow hf9).moved hW.alike, hN.warm hW⟩⟩ rfl rfl hl.1 rfl (lv_room (Nat.le_of_ble_eq_true rfl)) dX1_readParameters_188 ⟨(Nat.zero_le _), (Nat.zero_le _)⟩) hS (fun q _ h => hf9 q h) hf9 (fun u t H locs ht hvm hw hB hz1 hk1 hS => ?_)
    obtain ⟨hP, hK9, hD9⟩ := hB
    rw [ht] at hP
    have hD := hD9.weaken (fun _ q _ h => hf9 q.1 h)
    refine lv_aloadq_n hx hb dX1_readParameters_191 rfl (lv_at hl 1 rfl) ?_
    refine lv_bipush (v := (11 : Int32)) hx hb dX1_readParameters_192 (by decide) ?_
    refine lv_iconst (v := (1 : Int32)) hx hb dX1_readParameters_194 (by decide) ?_
    refine W_st (st' := [.int (1 : Int32), .int (11 : Int32), .ref (ad b4)]) (by rw [va_some ho4]) ?_
    obtain ⟨hvc, hF⟩ := chk_some hF
    refine va_iast hx hb hK hP hD hS b4 1 (wld_i ct ad G y39 hc4 hk4) rfl hvc dX1_readParameters_195 (fun H locs hP hD hS => ?_)
    obtain ⟨M40, eM40, hF⟩ := ltt_some hF
    rw [set_i ct ad G y39 hc4 hk4, ← eM40] at hP hD
    refine lv_aloadq_n hx hb dX1_readParameters_196 rfl (lv_at hl 1 rfl) ?_
    refine lv_iconst (v := (0 : Int32)) hx hb dX1_readParameters_197 (by decide) ?_
    refine lv_aload_n hx hb dX1_readParameters_198 rfl (lv_at hl 2 rfl) ?_
    refine va_get (D := D) (ci := 1) (v := va_re ad (M40.2 a 6)) (C := RX1) (T := TX1) (N := 22) hx hb hts (by decide +kernel) hown hK hP a (wld_o ct ad G M40 hc hk (by decide)) rfl 6 (by decide) (hts (.fieldLink RX1 51 "VideoSuite$Decoder" "parameters" "[[I") (by decide +kernel)) (fun _ h9 => h9) rfl dX1_readParameters_199 ?_
    refine lv_iload_n hx hb dX1_readParameters_202 rfl (lv_at hl 0 rfl) ?_
    obtain ⟨b41, ho41, hc41, hk41, hF⟩ := dr_some hF
    refine W_st (st' := [.int y2.2, .ref (ad b41), .int (0 : Int32), va_re ad (M.2 a 9)]) (by rw [va_some ho41]) ?_
    obtain ⟨hvc, hF⟩ := chk_some hF
    refine ld_g hx hb hK hP hc41 hk41 hvc dX1_readParameters_203 ?_
    refine lv_iconst (v := (0 : Int32)) hx hb dX1_readParameters_204 (by decide) ?_
    refine lv_bipush (v := (12 : Int32)) hx hb dX1_readParameters_205 (by decide) ?_
    refine W_st (st' := [.int (12 : Int32), .int (0 : Int32), va_re ad (M40.2 b41 y2.2.toNatClampNeg), .int (0 : Int32), .ref (ad b4)]) (by rw [va_some ho4]) ?_
    obtain ⟨b42, ho42, hc42, hk42, hF⟩ := dr_some hF
    refine W_st (st' := [.int (12 : Int32), .int (0 : Int32), .ref (ad b42), .int (0 : Int32), .ref (ad b4)]) (by rw [va_some ho42]) ?_
    obtain ⟨hv9, hF⟩ := chk_some hF
    refine va_copyi (ty := .int) hx hb (hml.trans hl.1.symm) hown (hts (.methodLink RX1 203 arraycopyName) (by decide +kernel)) (hts (.native arraycopyName) (by decide +kernel)) (hts (.static arraycopyName) (by decide +kernel)) (hts (.initialized "java/lang/System") (by decide +kernel)) hK hP hD hS b4 b42 1 1 (wld_i ct ad G M40 hc4 hk4) (wld_i ct ad G M40 hc42 hk42) rfl rfl rfl hv9.1 hv9.2.1 hv9.2.2.1 hv9.2.2.2.1 hv9.2.2.2.2 (fun _ _ => rfl) (Nat.le_of_ble_eq_true rfl) (by decide +kernel) dX1_readParameters_207 (fun H locs hP hD hS => ?_)
    obtain ⟨M43, eM43, hF⟩ := ltt_some hF
    rw [set_ri ct ad G M40 hc42 hk42, ← eM43] at hP hD
    obtain rfl := Option.some.inj hF
    exact W.vret hx hb hr (fun t ht hW => ⟨⟨(), rfl, trivial, ⟨by rw [ht]; exact hP, va_K.moved hW.alike hK, hD⟩⟩, hS.F ht⟩) hS.2.2 dX1_readParameters_210
  clear hF
  have hF := hy26
  clear hy26
  refine lv_icmp_le (tgt := 124) hx hb dX1_readParameters_106 (by decide) (fun c44 => ?_) (fun c44 => ?_)
  · rw [if_pos c44] at hF
    obtain rfl := Option.some.inj hF
    exact J26 _ _ _ hP hD hS (lv_sub hl [0, 1, 2] rfl)
  · rw [if_neg c44] at hF
    refine lv_aload_n hx hb dX1_readParameters_109 rfl (lv_at hl 2 rfl) ?_
    refine va_get (D := D) (ci := 1) (v := va_re ad (M24.2 a 0)) (C := RX1) (T := TX1) (N := 22) hx hb hts (by decide +kernel) hown hK hP a (wld_o ct ad G M24 hc hk (by decide)) rfl 0 (by decide) (hts (.fieldLink RX1 12 "VideoSuite$Decoder" "reader" "LVideoSuite$Reader;") (by decide +kernel)) (fun _ h9 => h9) rfl dX1_readParameters_110 ?_
    refine lv_iconst (v := (2 : Int32)) hx hb dX1_readParameters_113 (by decide) ?_
    refine lv_aload_n hx hb dX1_readParameters_114 rfl (lv_at hl 2 rfl) ?_
    refine va_get (D := D) (ci := 1) (v := va_re ad (M24.2 a 0)) (C := RX1) (T := TX1) (N := 22) hx hb hts (by decide +kernel) hown hK hP a (wld_o ct ad G M24 hc hk (by decide)) rfl 0 (by decide) (hts (.fieldLink RX1 12 "VideoSuite$Decoder" "reader" "LVideoSuite$Reader;") (by decide +kernel)) (fun _ h9 => h9) rfl dX1_readParameters_115 ?_
    obtain ⟨b45, ho45, hc45, hk45, hF⟩ := dr_some hF
    refine W_st (st' := [.ref (ad b45), .int (2 : Int32), .ref (ad b45)]) (by rw [va_some ho45]) ?_
    refine va_get (D := D) (ci := 5) (v := .int (M24.1 b45 4)) (C := RX5) (T := TX5) (N := 17) hx hb hts (by decide +kernel) hown hK hP b45 (wld_o ct ad G M24 hc45 hk45 (by decide)) rfl 4 (by decide) (hts (.fieldLink RX1 194 "VideoSuite$Reader" "begin" "I") (by decide +kernel)) (fun _ h9 => h9) rfl dX1_readParameters_118 ?_
    obtain ⟨x46, ex46, hF⟩ := ltt_some hF
    refine lv_topi (fun zx46 ezx46 => ?_)
    obtain rfl : x46 = zx46 := ex46.trans ezx46.symm
    cases hF
theorem ggX1_readRules_X5_number : GoodIn wsX1_readRules wsX5_number := goodIn_ca (goodIn_r _ [15, 16, 17, 18, 19, 20, 21, 14, 22, 23, 24, 25, 26, 27, 28, 29, 30, 31, 32, 33, 34, 35, 36, 37, 38, 39, 40, 41, 42, 43, 44, 45, 46, 78, 79, 80, 81, 82, 83, 84, 85, 86, 87, 88, 89, 90, 91, 92, 93, 94] (by decide +kernel) (by decide +kernel)) (goodIn_sub (fun _ h => List.mem_cons_of_mem _ (List.mem_append_right _ h)) (by decide +kernel))
set_option maxRecDepth 20000 in
theorem gX1_readRules_X5_number : GoodIn wsX1_readRules (wsV RX1 179 RX5 yX5_number wsX5_number) := goodIn_app (goodIn_of _ (by decide +kernel)) ggX1_readRules_X5_number
set_option maxRecDepth 20000 in
theorem ggX1_readRules_X1_unsigned : GoodIn wsX1_readRules wsX1_unsigned := goodIn_ca (goodIn_r _ [10, 4, 11, 12, 13, 14, 15, 16, 17, 18, 19, 20, 21, 22, 23, 24, 25, 26, 27, 28, 29, 30, 31, 32, 33, 34, 35, 36, 37, 38, 39, 40, 41, 42, 43, 44, 45, 46, 52, 53, 54, 55, 56, 57, 58, 59, 60, 61, 62, 63, 64, 65, 66, 67, 68, 69, 70, 71, 72, 73, 78, 79, 80, 81, 82, 83, 84, 85, 86, 87, 88, 89, 90, 91, 92, 93, 94] (by decide +kernel) (by decide +kernel)) (goodIn_sub (fun _ h => List.mem_cons_of_mem _ (List.mem_append_right _ h)) (by decide +kernel))
set_option maxRecDepth 20000 in
theorem gX1_readRules_X1_unsigned : GoodIn wsX1_readRules (wsV RX1 186 RX1 yX1_unsigned wsX1_unsigned) := goodIn_app (goodIn_of _ (by decide +kernel)) ggX1_readRules_X1_unsigned
set_option maxRecDepth 20000 in
theorem ggX1_readRules_X1_signed : GoodIn wsX1_readRules wsX1_signed := goodIn_ca (goodIn_r _ [51, 4, 11, 12, 13, 14, 15, 16, 17, 18, 19, 20, 21, 22, 23, 24, 25, 26, 27, 28, 29, 30, 31, 32, 33, 34, 35, 36, 37, 38, 39, 40, 41, 42, 43, 44, 45, 46, 52, 53, 54, 55, 56, 57, 58, 59, 60, 61, 62, 63, 64, 65, 66, 67, 68, 69, 70, 71, 72, 73, 78, 79, 80, 81, 82, 83, 84, 85, 86, 87, 88, 89, 90, 91, 92, 93, 94] (by decide +kernel) (by decide +kernel)) (goodIn_sub (fun _ h => List.mem_cons_of_mem _ (List.mem_append_right _ h)) (by decide +kernel))
set_option maxRecDepth 20000 in
theorem gX1_readRules_X1_signed : GoodIn wsX1_readRules (wsV RX1 209 RX1 yX1_signed wsX1_signed) := goodIn_app (goodIn_of _ (by decide +kernel)) ggX1_readRules_X1_signed
theorem dX1_readRules_0 : decode cX1_readRules 0 = .ok (.aload_n 0, 1) := by decide +kernel
theorem dX1_readRules_1 : decode cX1_readRules 1 = .ok (.getfield 68, 3) := by decide +kernel
theorem dX1_readRules_4 : decode cX1_readRules 4 = .ok (.getfield 212, 3) := by decide +kernel
theorem dX1_readRules_7 : decode cX1_readRules 7 = .ok (.astore_n 2, 1) := by decide +kernel
theorem dX1_readRules_8 : decode cX1_readRules 8 = .ok (.aload_n 1, 1) := by decide +kernel
theorem dX1_readRules_9 : decode cX1_readRules 9 = .ok (.iconst 1, 1) := by decide +kernel
theorem dX1_readRules_10 : decode cX1_readRules 10 = .ok (.iaload, 1) := by decide +kernel
theorem dX1_readRules_11 : decode cX1_readRules 11 = .ok (.iconst 1, 1) := by decide +kernel
theorem dX1_readRules_12 : decode cX1_readRules 12 = .ok (.if_icmp .ne 16, 3) := by decide +kernel
theorem dX1_readRules_15 : decode cX1_readRules 15 = .ok (.aload_n 2, 1) := by decide +kernel
theorem dX1_readRules_16 : decode cX1_readRules 16 = .ok (.iconst 1, 1) := by decide +kernel
theorem dX1_readRules_17 : decode cX1_readRules 17 = .ok (.iaload, 1) := by decide +kernel
theorem dX1_readRules_18 : decode cX1_readRules 18 = .ok (.iconst 2, 1) := by decide +kernel
theorem dX1_readRules_19 : decode cX1_readRules 19 = .ok (.if_icmp .eq 9, 3) := by decide +kernel
theorem dX1_readRules_22 : decode cX1_readRules 22 = .ok (.aload_n 0, 1) := by decide +kernel
theorem dX1_readRules_23 : decode cX1_readRules 23 = .ok (.iconst 2, 1) := by decide +kernel
theorem dX1_readRules_24 : decode cX1_readRules 24 = .ok (.invokevirtual 186, 3) := by decide +kernel
theorem dX1_readRules_27 : decode cX1_readRules 27 = .ok (.pop, 1) := by decide +kernel
theorem dX1_readRules_28 : decode cX1_readRules 28 = .ok (.ldc2_w 256, 3) := by decide +kernel
theorem dX1_readRules_31 : decode cX1_readRules 31 = .ok (.lstore_n 3, 1) := by decide +kernel
theorem dX1_readRules_32 : decode cX1_readRules 32 = .ok (.aload_n 2, 1) := by decide +kernel
theorem dX1_readRules_33 : decode cX1_readRules 33 = .ok (.bipush 12, 2) := by decide +kernel
theorem dX1_readRules_35 : decode cX1_readRules 35 = .ok (.aload_n 1, 1) := by decide +kernel
theorem dX1_readRules_36 : decode cX1_readRules 36 = .ok (.bipush 7, 2) := by decide +kernel
theorem dX1_readRules_38 : decode cX1_readRules 38 = .ok (.iaload, 1) := by decide +kernel
theorem dX1_readRules_39 : decode cX1_readRules 39 = .ok (.bipush 26, 2) := by decide +kernel
theorem dX1_readRules_41 : decode cX1_readRules 41 = .ok (.iadd, 1) := by decide +kernel
theorem dX1_readRules_42 : decode cX1_readRules 42 = .ok (.aload_n 0, 1) := by decide +kernel
theorem dX1_readRules_43 : decode cX1_readRules 43 = .ok (.getfield 12, 3) := by decide +kernel
theorem dX1_readRules_46 : decode cX1_readRules 46 = .ok (.iconst 0, 1) := by decide +kernel
theorem dX1_readRules_47 : decode cX1_readRules 47 = .ok (.iconst 1, 1) := by decide +kernel
theorem dX1_readRules_48 : decode cX1_readRules 48 = .ok (.lload_n 3, 1) := by decide +kernel
theorem dX1_readRules_49 : decode cX1_readRules 49 = .ok (.lload_n 3, 1) := by decide +kernel
theorem dX1_readRules_50 : decode cX1_readRules 50 = .ok (.lneg, 1) := by decide +kernel
theorem dX1_readRules_51 : decode cX1_readRules 51 = .ok (.invokevirtual 179, 3) := by decide +kernel
theorem dX1_readRules_54 : decode cX1_readRules 54 = .ok (.iadd, 1) := by decide +kernel
theorem dX1_readRules_55 : decode cX1_readRules 55 = .ok (.iastore, 1) := by decide +kernel
theorem dX1_readRules_56 : decode cX1_readRules 56 = .ok (.aload_n 2, 1) := by decide +kernel
theorem dX1_readRules_57 : decode cX1_readRules 57 = .ok (.bipush 12, 2) := by decide +kernel
theorem dX1_readRules_59 : decode cX1_readRules 59 = .ok (.iaload, 1) := by decide +kernel
theorem dX1_readRules_60 : decode cX1_readRules 60 = .ok (.ifCond .lt 12, 3) := by decide +kernel
theorem dX1_readRules_63 : decode cX1_readRules 63 = .ok (.aload_n 2, 1) := by decide +kernel
theorem dX1_readRules_64 : decode cX1_readRules 64 = .ok (.bipush 12, 2) := by decide +kernel
theorem dX1_readRules_66 : decode cX1_readRules 66 = .ok (.iaload, 1) := by decide +kernel
theorem dX1_readRules_67 : decode cX1_readRules 67 = .ok (.bipush 51, 2) := by decide +kernel
theorem dX1_readRules_69 : decode cX1_readRules 69 = .ok (.if_icmp .le 18, 3) := by decide +kernel
theorem dX1_readRules_72 : decode cX1_readRules 72 = .ok (.aload_n 0, 1) := by decide +kernel
theorem dX1_readRules_73 : decode cX1_readRules 73 = .ok (.getfield 12, 3) := by decide +kernel
theorem dX1_readRules_76 : decode cX1_readRules 76 = .ok (.iconst 2, 1) := by decide +kernel
theorem dX1_readRules_77 : decode cX1_readRules 77 = .ok (.aload_n 0, 1) := by decide +kernel
theorem dX1_readRules_78 : decode cX1_readRules 78 = .ok (.getfield 12, 3) := by decide +kernel
theorem dX1_readRules_81 : decode cX1_readRules 81 = .ok (.getfield 194, 3) := by decide +kernel
theorem dX1_readRules_84 : decode cX1_readRules 84 = .ok (.invokevirtual 197, 3) := by decide +kernel
theorem dX1_readRules_87 : decode cX1_readRules 87 = .ok (.aload_n 1, 1) := by decide +kernel
theorem dX1_readRules_88 : decode cX1_readRules 88 = .ok (.bipush 9, 2) := by decide +kernel
theorem dX1_readRules_90 : decode cX1_readRules 90 = .ok (.iaload, 1) := by decide +kernel
theorem dX1_readRules_91 : decode cX1_readRules 91 = .ok (.iconst 1, 1) := by decide +kernel
theorem dX1_readRules_92 : decode cX1_readRules 92 = .ok (.if_icmp .ne 44, 3) := by decide +kernel
theorem dX1_readRules_95 : decode cX1_readRules 95 = .ok (.aload_n 2, 1) := by decide +kernel
theorem dX1_readRules_96 : decode cX1_readRules 96 = .ok (.bipush 13, 2) := by decide +kernel
theorem dX1_readRules_98 : decode cX1_readRules 98 = .ok (.aload_n 0, 1) := by decide +kernel
theorem dX1_readRules_99 : decode cX1_readRules 99 = .ok (.iconst 2, 1) := by decide +kernel
theorem dX1_readRules_100 : decode cX1_readRules 100 = .ok (.invokevirtual 186, 3) := by decide +kernel
theorem dX1_readRules_103 : decode cX1_readRules 103 = .ok (.iastore, 1) := by decide +kernel
theorem dX1_readRules_104 : decode cX1_readRules 104 = .ok (.aload_n 2, 1) := by decide +kernel
theorem dX1_readRules_105 : decode cX1_readRules 105 = .ok (.bipush 13, 2) := by decide +kernel
theorem dX1_readRules_107 : decode cX1_readRules 107 = .ok (.iaload, 1) := by decide +kernel
theorem dX1_readRules_108 : decode cX1_readRules 108 = .ok (.iconst 1, 1) := by decide +kernel
theorem dX1_readRules_109 : decode cX1_readRules 109 = .ok (.if_icmp .eq 27, 3) := by decide +kernel
theorem dX1_readRules_112 : decode cX1_readRules 112 = .ok (.aload_n 2, 1) := by decide +kernel
theorem dX1_readRules_113 : decode cX1_readRules 113 = .ok (.bipush 14, 2) := by decide +kernel
theorem dX1_readRules_115 : decode cX1_readRules 115 = .ok (.aload_n 0, 1) := by decide +kernel
theorem dX1_readRules_116 : decode cX1_readRules 116 = .ok (.bipush (-6), 2) := by decide +kernel
theorem dX1_readRules_118 : decode cX1_readRules 118 = .ok (.bipush 6, 2) := by decide +kernel
theorem dX1_readRules_120 : decode cX1_readRules 120 = .ok (.invokevirtual 209, 3) := by decide +kernel
theorem dX1_readRules_123 : decode cX1_readRules 123 = .ok (.iastore, 1) := by decide +kernel
theorem dX1_readRules_124 : decode cX1_readRules 124 = .ok (.aload_n 2, 1) := by decide +kernel
theorem dX1_readRules_125 : decode cX1_readRules 125 = .ok (.bipush 15, 2) := by decide +kernel
theorem dX1_readRules_127 : decode cX1_readRules 127 = .ok (.aload_n 0, 1) := by decide +kernel
theorem dX1_readRules_128 : decode cX1_readRules 128 = .ok (.bipush (-6), 2) := by decide +kernel
theorem dX1_readRules_130 : decode cX1_readRules 130 = .ok (.bipush 6, 2) := by decide +kernel
theorem dX1_readRules_132 : decode cX1_readRules 132 = .ok (.invokevirtual 209, 3) := by decide +kernel
theorem dX1_readRules_135 : decode cX1_readRules 135 = .ok (.iastore, 1) := by decide +kernel
theorem dX1_readRules_136 : decode cX1_readRules 136 = .ok (.return_, 1) := by decide +kernel
def FX1_readRules (G : GG) (M : DD) (a : Nat) (p0 : Option Nat) : Option (DD) :=
  dr G 3 ((M.2 a 10)) fun b2 =>
  dr G 13 p0 fun b3 =>
  chk (¬ (((1 : Int32)) < 0 ∨ G.2.2 b3 ≤ ((1 : Int32)).toNatClampNeg)) <|
  ltt (M.1 b3 ((1 : Int32)).toNatClampNeg) fun x4 =>
  bnd (if x4 = ((1 : Int32)) then (dr G 13 ((M.2 b2 0)) fun b37 =>
  chk (¬ (((1 : Int32)) < 0 ∨ G.2.2 b37 ≤ ((1 : Int32)).toNatClampNeg)) <|
  ltt (M.1 b37 ((1 : Int32)).toNatClampNeg) fun x38 =>
  bnd (if x38 = ((2 : Int32)) then (some (M)) else
  (bnd (FX1_unsigned G M a ((2 : Int32))) fun y41 =>
  some (y41.1))) fun (y39 : DD) =>
  some (y39)) else
  (some (M))) fun (y5 : DD) =>
  chk (¬ (((7 : Int32)) < 0 ∨ G.2.2 b3 ≤ ((7 : Int32)).toNatClampNeg)) <|
  ltt (y5.1 b3 ((7 : Int32)).toNatClampNeg) fun x6 =>
  ltt ((x6 + ((26 : Int32)))) fun x7 =>
  ltt (-((-4294967295 : Int64))) fun x8 =>
  dr G 5 ((y5.2 a 0)) fun b9 =>
  bnd (FX5_number G y5 b9 ((0 : Int32)) ((1 : Int32)) ((-4294967295 : Int64)) x8) fun y10 =>
  ltt ((x7 + y10.2)) fun x11 =>
  dr G 13 ((M.2 b2 0)) fun b12 =>
  chk (¬ (((12 : Int32)) < 0 ∨ G.2.2 b12 ≤ ((12 : Int32)).toNatClampNeg)) <|
  ltt (uI y10.1 b12 ((12 : Int32)).toNatClampNeg x11) fun M13 =>
  chk (¬ (((12 : Int32)) < 0 ∨ G.2.2 b12 ≤ ((12 : Int32)).toNatClampNeg)) <|
  ltt (M13.1 b12 ((12 : Int32)).toNatClampNeg) fun x14 =>
  bnd (if x14 < ((0 : Int32)) then (dr G 5 ((M13.2 a 0)) fun b34 =>
  ltt (M13.1 b34 4) fun x35 =>
  none) else
  (some (M13))) fun (y15 : DD) =>
  chk (¬ (((12 : Int32)) < 0 ∨ G.2.2 b12 ≤ ((12 : Int32)).toNatClampNeg)) <|
  ltt (y15.1 b12 ((12 : Int32)).toNatClampNeg) fun x16 =>
  bnd (if x16 ≤ ((51 : Int32)) then (some (y15)) else
  (dr G 5 ((y15.2 a 0)) fun b31 =>
  ltt (y15.1 b31 4) fun x32 =>
  none)) fun (y17 : DD) =>
  chk (¬ (((9 : Int32)) < 0 ∨ G.2.2 b3 ≤ ((9 : Int32)).toNatClampNeg)) <|
  ltt (y17.1 b3 ((9 : Int32)).toNatClampNeg) fun x18 =>
  bnd (if x18 = ((1 : Int32)) then (bnd (FX1_unsigned G y17 a ((2 : Int32))) fun y21 =>
  chk (¬ (((13 : Int32)) < 0 ∨ G.2.2 b12 ≤ ((13 : Int32)).toNatClampNeg)) <|
  ltt (uI y21.1 b12 ((13 : Int32)).toNatClampNeg y21.2) fun M22 =>
  chk (¬ (((13 : Int32)) < 0 ∨ G.2.2 b12 ≤ ((13 : Int32)).toNatClampNeg)) <|
  ltt (M22.1 b12 ((13 : Int32)).toNatClampNeg) fun x23 =>
  bnd (if x23 = ((1 : Int32)) then (some (M22)) else
  (bnd (FX1_signed G M22 a ((-6 : Int32)) ((6 : Int32))) fun y26 =>
  chk (¬ (((14 : Int32)) < 0 ∨ G.2.2 b12 ≤ ((14 : Int32)).toNatClampNeg)) <|
  ltt (uI y26.1 b12 ((14 : Int32)).toNatClampNeg y26.2) fun M27 =>
  bnd (FX1_signed G M27 a ((-6 : Int32)) ((6 : Int32))) fun y28 =>
  chk (¬ (((15 : Int32)) < 0 ∨ G.2.2 b12 ≤ ((15 : Int32)).toNatClampNeg)) <|
  ltt (uI y28.1 b12 ((15 : Int32)).toNatClampNeg y28.2) fun M29 =>
  some (M29))) fun (y24 : DD) =>
  some (y24)) else
  (some (y17))) fun (y19 : DD) =>
  some y19
set_option maxHeartbeats 4000000 in
set_option maxRecDepth 100000 in
theorem kX1_readRules (l : Launch) (D : va_G) (ct : CT) (ad : Nat → Nat) (Z : Nat → Nat) (G : GG) (M : DD) (sz : Nat) (a : Nat) (p0 : Option Nat) (y : DD) (hc : a < G.1) (hk : G.2.1 a = 1) (hF : FX1_readRules G M a p0 = some y) : Met l yX1_readRules wsX1_readRules ({ frames := 3, cells := 0, slots := 0, locals := 81 }) (va_Pc [.ref (ad a), va_re ad p0] (kB D ct ad Z G M sz)) (va_Qv (fun (_ : Unit) => True) (fun _ t => kE D ct ad G (wA ad G sz) y t) (wA ad G sz)) 0 0 (wA ad G sz) := by
  refine Met.ofW (cc := cX1_readRules) (maxL := 5) (ret := none) (by decide) rfl ?_
  intro p e s m args below meth c s₁ B hml hv
  obtain ⟨rfl, hsz, hP, hK, hD0, hZ, hN⟩ := hv
  have hx := B.exec
  have hb := B.bytes
  have hr := B.returns
  have hts := atoms_spec (ws := wsX1_readRules) B.pre
  have hown : s.vm.findClass RX1 = some m.cls := findClass_of_methodNamed B.named
  have hlocks := B.notSynchronized
  subst hsz
  have hD := wD_self (sz := s.heap.size) hD0
  have hA9 : ∀ q, s.heap.size ≤ q → wA ad G s.heap.size q := fun q h => Or.inr h
  generalize hAe : wA ad G s.heap.size = A at hD hA9 hZ ⊢
  have hS : va_S A s.heap s.heap [] := va_S.rf
  have hl := lv_entry ([.ref (ad a), va_re ad p0]) (n := 5) (by cases p0 <;> exact Nat.le_of_ble_eq_true rfl)
  rw [lg_entry_eq]
  generalize (lg_sl ([.ref (ad a), va_re ad p0]) ++ List.replicate (5 - (lg_sl ([.ref (ad a), va_re ad p0])).length) Slot.unset).toArray = ls at hl ⊢
  have hl : lv_has ls 5 [(0, .ref (ad a)), (1, va_re ad p0)] := by have e9 : lv_args 0 [.ref (ad a), va_re ad p0] = [(0, .ref (ad a)), (1, va_re ad p0)] := (by cases p0 <;> rfl); rw [e9] at hl; exact hl
  unfold FX1_readRules at hF
  refine lv_aload_n hx hb dX1_readRules_0 rfl (lv_at hl 0 rfl) ?_
  refine va_get (D := D) (ci := 1) (v := va_re ad (M.2 a 10)) (C := RX1) (T := TX1) (N := 22) hx hb hts (by decide +kernel) hown hK hP a (wld_o ct ad G M hc hk (by decide)) rfl 10 (by decide) (hts (.fieldLink RX1 68 "VideoSuite$Decoder" "head" "LVideoSuite$Header;") (by decide +kernel)) (fun _ h9 => h9) rfl dX1_readRules_1 ?_
  obtain ⟨b2, ho2, hc2, hk2, hF⟩ := dr_some hF
  refine W_st (st' := [.ref (ad b2)]) (by rw [va_some ho2]) ?_
  refine va_get (D := D) (ci := 3) (v := va_re ad (M.2 b2 0)) (C := RX3) (T := TX3) (N := 4) hx hb hts (by decide +kernel) hown hK hP b2 (wld_o ct ad G M hc2 hk2 (by decide)) rfl 0 (by decide) (hts (.fieldLink RX1 212 "VideoSuite$Header" "v" "[I") (by decide +kernel)) (fun _ h9 => h9) rfl dX1_readRules_4 ?_
  refine lv_astoreq_n (lv' := [(2, va_re ad (M.2 b2 0)), (0, .ref (ad a)), (1, va_re ad p0)]) hx hb dX1_readRules_7 rfl hl (by decide) (by generalize p0 = o9; cases o9 <;> rfl) (fun ls hl => ?_)
  refine lv_aloadq_n hx hb dX1_readRules_8 rfl (lv_at hl 2 rfl) ?_
  refine lv_iconst (v := (1 : Int32)) hx hb dX1_readRules_9 (by decide) ?_
  obtain ⟨b3, ho3, hc3, hk3, hF⟩ := dr_some hF
  refine W_st (st' := [.int (1 : Int32), .ref (ad b3)]) (by rw [va_some ho3]) ?_
  obtain ⟨hvc, hF⟩ := chk_some hF
  refine va_iald hx hb hK hP b3 1 (wld_i ct ad G M hc3 hk3) rfl hvc dX1_readRules_10 ?_
  obtain ⟨x4, ex4, hF⟩ := ltt_some hF
  refine lv_topi (fun zx4 ezx4 => ?_)
  obtain rfl : x4 = zx4 := ex4.trans ezx4.symm
  refine lv_iconst (v := (1 : Int32)) hx hb dX1_readRules_11 (by decide) ?_
  obtain ⟨y5, hy5, hF⟩ := bnd_some hF
  have J5 : ∀ (H : Heap) (locs : List Loc) (ls : Array Slot), va_P D classes (wld ct ad G y5) H → va_D A (wld ct ad G y5) → va_S A s.heap H locs → lv_has ls 5 [(2, va_re ad (M.2 b2 0)), (0, .ref (ad a)), (1, va_re ad p0)] → W p l e (headSpec wsX1_readRules ({ frames := 3, cells := 0, slots := 0, locals := 81 })).room s m ([.ref (ad a), va_re ad p0] : List Value).toArray below meth c H locs 0 0 (MQ below (va_Qv (fun (_ : Unit) => True) (fun _ t => kE D ct ad G A y t) A) ([.ref (ad a), va_re ad p0] : List Value).toArray s 0 0 A) (F0 m 28 ls []) := by
    intro H locs ls hP hD hS hl
    refine lv_ldc2 (v := (-4294967295 : Int64)) hx hb hown (hts (.constantLong RX1 256 (-4294967295 : Int64)) (by decide +kernel)) dX1_readRules_28 ?_
    refine lv_lstore_n (lv' := [(3, .long (-4294967295 : Int64)), (2, va_re ad (M.2 b2 0)), (0, .ref (ad a)), (1, va_re ad p0)]) hx hb dX1_readRules_31 rfl hl (by decide) (by generalize ((M.2 b2 0)) = o9; cases o9 <;> rfl) (fun ls hl => ?_)
    refine lv_aloadq_n hx hb dX1_readRules_32 rfl (lv_at hl 1 rfl) ?_
    refine lv_bipush (v := (12 : Int32)) hx hb dX1_readRules_33 (by decide) ?_
    refine lv_aloadq_n hx hb dX1_readRules_35 rfl (lv_at hl 3 rfl) ?_
    refine lv_bipush (v := (7 : Int32)) hx hb dX1_readRules_36 (by decide) ?_
    refine W_st (st' := [.int (7 : Int32), .ref (ad b3), .int (12 : Int32), va_re ad (M.2 b2 0)]) (by rw [va_some ho3]) ?_
    obtain ⟨hvc, hF⟩ := chk_some hF
    refine va_iald hx hb hK hP b3 1 (wld_i ct ad G y5 hc3 hk3) rfl hvc dX1_readRules_38 ?_
    obtain ⟨x6, ex6, hF⟩ := ltt_some hF
    refine lv_topi (fun zx6 ezx6 => ?_)
    obtain rfl : x6 = zx6 := ex6.trans ezx6.symm
    refine lv_bipush (v := (26 : Int32)) hx hb dX1_readRules_39 (by decide) ?_
    refine lv_iadd hx hb dX1_readRules_41 ?_
    obtain ⟨x7, ex7, hF⟩ := ltt_some hF
    refine lv_topi (fun zx7 ezx7 => ?_)
    obtain rfl : x7 = zx7 := ex7.trans ezx7.symm
    refine lv_aload_n hx hb dX1_readRules_42 rfl (lv_at hl 2 rfl) ?_
    refine va_get (D := D) (ci := 1) (v := va_re ad (y5.2 a 0)) (C := RX1) (T := TX1) (N := 22) hx hb hts (by decide +kernel) hown hK hP a (wld_o ct ad G y5 hc hk (by decide)) rfl 0 (by decide) (hts (.fieldLink RX1 12 "VideoSuite$Decoder" "reader" "LVideoSuite$Reader;") (by decide +kernel)) (fun _ h9 => h9) rfl dX1_readRules_43 ?_
    refine lv_iconst (v := (0 : Int32)) hx hb dX1_readRules_46 (by decide) ?_
    refine lv_iconst (v := (1 : Int32)) hx hb dX1_readRules_47 (by decide) ?_
    refine lv_lload_n hx hb dX1_readRules_48 rfl (lv_at hl 0 rfl) ?_
    refine lv_lload_n hx hb dX1_readRules_49 rfl (lv_at hl 0 rfl) ?_
    refine lv_lneg hx hb dX1_readRules_50 ?_
    obtain ⟨x8, ex8, hF⟩ := ltt_some hF
    refine lv_topl (fun zx8 ezx8 => ?_)
    obtain rfl : x8 = zx8 := ex8.trans ezx8.symm
    obtain ⟨b9, ho9, hc9, hk9, hF⟩ := dr_some hF
    refine W_st (st' := [.long x8, .long (-4294967295 : Int64), .int (1 : Int32), .int (0 : Int32), .ref (ad b9), .int x7, .int (12 : Int32), va_re ad (M.2 b2 0)]) (by rw [va_some ho9]) ?_
    obtain ⟨y10, hy10, hF⟩ := bnd_some hF
    have hf9 := wA_in hD hA9 hS
    refine va_calli (va_runV (As := [.int (0 : Int32), .int (1 : Int32), .long (-4294967295 : Int64), .long x8]) (rest := [.int x7, .int (12 : Int32), va_re ad (M.2 b2 0)]) ⟨hx, hb, hml, hown, hts⟩ (kX5_number l D ct ad Z G y5 H.size b9 ((0 : Int32)) ((1 : Int32)) ((-4294967295 : Int64)) x8 y10 hc9 hk9 hy10) (cwV 4 hts gX1_readRules_X5_number rfl rfl rfl (by decide +kernel) ⟨Nat.le_of_ble_eq_true rfl, Nat.le_of_ble_eq_true rfl⟩) ⟨fun a U g mk q => by obtain ⟨q0, q1, qP, qK, qD, qZ, qN⟩ := q; exact ⟨q0, q1, qP, va_K.moved (u := U) (U := U.calling g mk a) (Vm.Alike.refl U.vm) qK, qD, sF.moved (u := U) (U := U.calling g mk a) (Vm.Alike.refl U.vm) qZ, nF.same rfl qN⟩, va_recv hK hP (ci := 5) (q0 := b9) rfl (wld_o ct ad G y5 hc9 hk9 (by decide)), fun U hU hW => ⟨rfl, by rw [hU], by rw [hU]; exact hP, va_K.moved hW.alike hK, hD.weaken (fun _ _ _ _ => trivial), by rw [hU]; exact ((hZ.kept hS.2.1).narrow hf9).moved hW.alike, hN.warm hW⟩⟩ rfl rfl hl.1 rfl (lv_room (by simp only [List.map, va_re_cat]; exact Nat.le_of_ble_eq_true rfl)) dX1_readRules_51 ⟨(Nat.zero_le _), (Nat.zero_le _)⟩) hS (fun q _ h => hf9 q h) hf9 (fun r u t H locs ht hvm hw hB hz1 hk1 hS => ?_)
    obtain ⟨hP, hK9, hD9⟩ := hB
    rw [ht] at hP
    try dsimp only at hw
    subst hw
    have hD := hD9.weaken (fun _ q _ h => hf9 q.1 h)
    refine lv_iadd hx hb dX1_readRules_54 ?_
    obtain ⟨x11, ex11, hF⟩ := ltt_some hF
    refine lv_topi (fun zx11 ezx11 => ?_)
    obtain rfl : x11 = zx11 := ex11.trans ezx11.symm
    obtain ⟨b12, ho12, hc12, hk12, hF⟩ := dr_some hF
    refine W_st (st' := [.int x11, .int (12 : Int32), .ref (ad b12)]) (by rw [va_some ho12]) ?_
    obtain ⟨hvc, hF⟩ := chk_some hF
    refine va_iast hx hb hK hP hD hS b12 1 (wld_i ct ad G y10.1 hc12 hk12) rfl hvc dX1_readRules_55 (fun H locs hP hD hS => ?_)
    obtain ⟨M13, eM13, hF⟩ := ltt_some hF
    rw [set_i ct ad G y10.1 hc12 hk12, ← eM13] at hP hD
    refine lv_aloadq_n hx hb dX1_readRules_56 rfl (lv_at hl 1 rfl) ?_
    refine lv_bipush (v := (12 : Int32)) hx hb dX1_readRules_57 (by decide) ?_
    refine W_st (st' := [.int (12 : Int32), .ref (ad b12)]) (by rw [va_some ho12]) ?_
    obtain ⟨hvc, hF⟩ := chk_some hF
    refine va_iald hx hb hK hP b12 1 (wld_i ct ad G M13 hc12 hk12) rfl hvc dX1_readRules_59 ?_
    obtain ⟨x14, ex14, hF⟩ := ltt_some hF
    refine lv_topi (fun zx14 ezx14 => ?_)
    obtain rfl : x14 = zx14 := ex14.trans ezx14.symm
    obtain ⟨y15, hy15, hF⟩ := bnd_some hF
    have J15 : ∀ (H : Heap) (locs : List Loc) (ls : Array Slot), va_P D classes (wld ct ad G y15) H → va_D A (wld ct ad G y15) → va_S A s.heap H locs → lv_has ls 5 [(3, .long (-4294967295 : Int64)), (2, va_re ad (M.2 b2 0)), (0, .ref (ad a)), (1, va_re ad p0)] → W p l e (headSpec wsX1_readRules ({ frames := 3, cells := 0, slots := 0, locals := 81 })).room s m ([.ref (ad a), va_re ad p0] : List Value).toArray below meth c H locs 0 0 (MQ below (va_Qv (fun (_ : Unit) => True) (fun _ t => kE D ct ad G A y t) A) ([.ref (ad a), va_re ad p0] : List Value).toArray s 0 0 A) (F0 m 63 ls []) := by
      intro H locs ls hP hD hS hl
      refine lv_aloadq_n hx hb dX1_readRules_63 rfl (lv_at hl 1 rfl) ?_
      refine lv_bipush (v := (12 : Int32)) hx hb dX1_readRules_64 (by decide) ?_
      refine W_st (st' := [.int (12 : Int32), .ref (ad b12)]) (by rw [va_some ho12]) ?_
      obtain ⟨hvc, hF⟩ := chk_some hF
      refine va_iald hx hb hK hP b12 1 (wld_i ct ad G y15 hc12 hk12) rfl hvc dX1_readRules_66 ?_
      obtain ⟨x16, ex16, hF⟩ := ltt_some hF
      refine lv_topi (fun zx16 ezx16 => ?_)
      obtain rfl : x16 = zx16 := ex16.trans ezx16.symm
      refine lv_bipush (v := (51 : Int32)) hx hb dX1_readRules_67 (by decide) ?_
      obtain ⟨y17, hy17, hF⟩ := bnd_some hF
      have J17 : ∀ (H : Heap) (locs : List Loc) (ls : Array Slot), va_P D classes (wld ct ad G y17) H → va_D A (wld ct ad G y17) → va_S A s.heap H locs → lv_has ls 5 [(3, .long (-4294967295 : Int64)), (2, va_re ad (M.2 b2 0)), (0, .ref (ad a)), (1, va_re ad p0)] → W p l e (headSpec wsX1_readRules ({ frames := 3, cells := 0, slots := 0, locals := 81 })).room s m ([.ref (ad a), va_re ad p0] : List Value).toArray below meth c H locs 0 0 (MQ below (va_Qv (fun (_ : Unit) => True) (fun _ t => kE D ct ad G A y t) A) ([.ref (ad a), va_re ad p0] : List Value).toArray s 0 0 A) (F0 m 87 ls []) := by
        intro H locs ls hP hD hS hl
        refine lv_aloadq_n hx hb dX1_readRules_87 rfl (lv_at hl 3 rfl) ?_
        refine lv_bipush (v := (9 : Int32)) hx hb dX1_readRules_88 (by decide) ?_
        refine W_st (st' := [.int (9 : Int32), .ref (ad b3)]) (by rw [va_some ho3]) ?_
        obtain ⟨hvc, hF⟩ := chk_some hF
        refine va_iald hx hb hK hP b3 1 (wld_i ct ad G y17 hc3 hk3) rfl hvc dX1_readRules_90 ?_
        obtain ⟨x18, ex18, hF⟩ := ltt_some hF
        refine lv_topi (fun zx18 ezx18 => ?_)
        obtain rfl : x18 = zx18 := ex18.trans ezx18.symm
        refine lv_iconst (v := (1 : Int32)) hx hb dX1_readRules_91 (by decide) ?_
        obtain ⟨y19, hy19, hF⟩ := bnd_some hF
        have J19 : ∀ (H : Heap) (locs : List Loc) (ls : Array Slot), va_P D classes (wld ct ad G y19) H → va_D A (wld ct ad G y19) → va_S A s.heap H locs → lv_has ls 5 [(3, .long (-4294967295 : Int64)), (2, va_re ad (M.2 b2 0)), (0, .ref (ad a)), (1, va_re ad p0)] → W p l e (headSpec wsX1_readRules ({ frames := 3, cells := 0, slots := 0, locals := 81 })).room s m ([.ref (ad a), va_re ad p0] : List Value).toArray below meth c H locs 0 0 (MQ below (va_Qv (fun (_ : Unit) => True) (fun _ t => kE D ct ad G A y t) A) ([.ref (ad a), va_re ad p0] : List Value).toArray s 0 0 A) (F0 m 136 ls []) := by
          intro H locs ls hP hD hS hl
          obtain rfl := Option.some.inj hF
          exact W.vret hx hb hr (fun t ht hW => ⟨⟨(), rfl, trivial, ⟨by rw [ht]; exact hP, va_K.moved hW.alike hK, hD⟩⟩, hS.F ht⟩) hS.2.2 dX1_readRules_136
        clear hF
        have hF := hy19
        clear hy19
        refine lv_icmp_ne (tgt := 136) hx hb dX1_readRules_92 (by decide) (fun c20 => ?_) (fun c20 => ?_)
        · rw [if_neg c20] at hF
          obtain rfl := Option.some.inj hF
          exact J19 _ _ _ hP hD hS (lv_sub hl [0, 1, 2, 3] rfl)
        · rw [if_pos c20] at hF
          refine lv_aloadq_n hx hb dX1_readRules_95 rfl (lv_at hl 1 rfl) ?_
          refine lv_bipush (v := (13 : Int32)) hx hb dX1_readRules_96 (by decide) ?_
          refine lv_aload_n hx hb dX1_readRules_98 rfl (lv_at hl 2 rfl) ?_
          refine lv_iconst (v := (2 : Int32)) hx hb dX1_readRules_99 (by decide) ?_
          obtain ⟨y21, hy21, hF⟩ := bnd_some hF
          have hf9 := wA_in hD hA9 hS
          refine va_calli (va_runV (As := [.int (2 : Int32)]) (rest := [.int (13 : Int32), va_re ad (M.2 b2 0)]) ⟨hx, hb, hml, hown, hts⟩ (kX1_unsigned l D ct ad Z G y17 H.size a ((2 : Int32)) y21 hc hk hy21) (cwV 1 hts gX1_readRules_X1_unsigned rfl rfl rfl (by decide +kernel) ⟨Nat.le_of_ble_eq_true rfl, Nat.le_of_ble_eq_true rfl⟩) ⟨fun a U g mk q => by obtain ⟨q0, q1, qP, qK, qD, qZ, qN⟩ := q; exact ⟨q0, q1, qP, va_K.moved (u := U) (U := U.calling g mk a) (Vm.Alike.refl U.vm) qK, qD, sF.moved (u := U) (U := U.calling g mk a) (Vm.Alike.refl U.vm) qZ, nF.same rfl qN⟩, va_recv hK hP (ci := 1) (q0 := a) rfl (wld_o ct ad G y17 hc hk (by decide)), fun U hU hW => ⟨rfl, by rw [hU], by rw [hU]; exact hP, va_K.moved hW.alike hK, hD.weaken (fun _ _ _ _ => trivial), by rw [hU]; exact ((hZ.kept hS.2.1).narrow hf9).moved hW.alike, hN.warm hW⟩⟩ rfl rfl hl.1 rfl (lv_room (by simp only [List.map, va_re_cat]; exact Nat.le_of_ble_eq_true rfl)) dX1_readRules_100 ⟨(Nat.zero_le _), (Nat.zero_le _)⟩) hS (fun q _ h => hf9 q h) hf9 (fun r u t H locs ht hvm hw hB hz1 hk1 hS => ?_)
          obtain ⟨hP, hK9, hD9⟩ := hB
          rw [ht] at hP
          try dsimp only at hw
          subst hw
          have hD := hD9.weaken (fun _ q _ h => hf9 q.1 h)
          refine W_st (st' := [.int y21.2, .int (13 : Int32), .ref (ad b12)]) (by rw [va_some ho12]) ?_
          obtain ⟨hvc, hF⟩ := chk_some hF
          refine va_iast hx hb hK hP hD hS b12 1 (wld_i ct ad G y21.1 hc12 hk12) rfl hvc dX1_readRules_103 (fun H locs hP hD hS => ?_)
          obtain ⟨M22, eM22, hF⟩ := ltt_some hF
          rw [set_i ct ad G y21.1 hc12 hk12, ← eM22] at hP hD
          refine lv_aloadq_n hx hb dX1_readRules_104 rfl (lv_at hl 1 rfl) ?_
          refine lv_bipush (v := (13 : Int32)) hx hb dX1_readRules_105 (by decide) ?_
          refine W_st (st' := [.int (13 : Int32), .ref (ad b12)]) (by rw [va_some ho12]) ?_
          obtain ⟨hvc, hF⟩ := chk_some hF
          refine va_iald hx hb hK hP b12 1 (wld_i ct ad G M22 hc12 hk12) rfl hvc dX1_readRules_107 ?_
          obtain ⟨x23, ex23, hF⟩ := ltt_some hF
          refine lv_topi (fun zx23 ezx23 => ?_)
          obtain rfl : x23 = zx23 := ex23.trans ezx23.symm
          refine lv_iconst (v := (1 : Int32)) hx hb dX1_readRules_108 (by decide) ?_
          obtain ⟨y24, hy24, hF⟩ := bnd_some hF
          have J24 : ∀ (H : Heap) (locs : List Loc) (ls : Array Slot), va_P D classes (wld ct ad G y24) H → va_D A (wld ct ad G y24) → va_S A s.heap H locs → lv_has ls 5 [(3, .long (-4294967295 : Int64)), (2, va_re ad (M.2 b2 0)), (0, .ref (ad a)), (1, va_re ad p0)] → W p l e (headSpec wsX1_readRules ({ frames := 3, cells := 0, slots := 0, locals := 81 })).room s m ([.ref (ad a), va_re ad p0] : List Value).toArray below meth c H locs 0 0 (MQ below (va_Qv (fun (_ : Unit) => True) (fun _ t => kE D ct ad G A y t) A) ([.ref (ad a), va_re ad p0] : List Value).toArray s 0 0 A) (F0 m 136 ls []) := by
            intro H locs ls hP hD hS hl
            obtain rfl := Option.some.inj hF
            exact J19 _ _ _ hP hD hS (lv_sub hl [0, 1, 2, 3] rfl)
          clear hF
          have hF := hy24
          clear hy24
          refine lv_icmp_eq (tgt := 136) hx hb dX1_readRules_109 (by decide) (fun c25 => ?_) (fun c25 => ?_)
          · rw [if_pos c25] at hF
            obtain rfl := Option.some.inj hF
            exact J24 _ _ _ hP hD hS (lv_sub hl [0, 1, 2, 3] rfl)
          · rw [if_neg c25] at hF
            refine lv_aloadq_n hx hb dX1_readRules_112 rfl (lv_at hl 1 rfl) ?_
            refine lv_bipush (v := (14 : Int32)) hx hb dX1_readRules_113 (by decide) ?_
            refine lv_aload_n hx hb dX1_readRules_115 rfl (lv_at hl 2 rfl) ?_
            refine lv_bipush (v := (-6 : Int32)) hx hb dX1_readRules_116 (by decide) ?_
            refine lv_bipush (v := (6 : Int32)) hx hb dX1_readRules_118 (by decide) ?_
            obtain ⟨y26, hy26, hF⟩ := bnd_some hF
            have hf9 := wA_in hD hA9 hS
            refine va_calli (va_runV (As := [.int (-6 : Int32), .int (6 : Int32)]) (rest := [.int (14 : Int32), va_re ad (M.2 b2 0)]) ⟨hx, hb, hml, hown, hts⟩ (kX1_signed l D ct ad Z G M22 H.size a ((-6 : Int32)) ((6 : Int32)) y26 hc hk hy26) (cwV 2 hts gX1_readRules_X1_signed rfl rfl rfl (by decide +kernel) ⟨Nat.le_of_ble_eq_true rfl, Nat.le_of_ble_eq_true rfl⟩) ⟨fun a U g mk q => by obtain ⟨q0, q1, qP, qK, qD, qZ, qN⟩ := q; exact ⟨q0, q1, qP, va_K.moved (u := U) (U := U.calling g mk a) (Vm.Alike.refl U.vm) qK, qD, sF.moved (u := U) (U := U.calling g mk a) (Vm.Alike.refl U.vm) qZ, nF.same rfl qN⟩, va_recv hK hP (ci := 1) (q0 := a) rfl (wld_o ct ad G M22 hc hk (by decide)), fun U hU hW => ⟨rfl, by rw [hU], by rw [hU]; exact hP, va_K.moved hW.alike hK, hD.weaken (fun _ _ _ _ => trivial), by rw [hU]; exact ((hZ.kept hS.2.1).narrow hf9).moved hW.alike, hN.warm hW⟩⟩ rfl rfl hl.1 rfl (lv_room (by simp only [List.map, va_re_cat]; exact Nat.le_of_ble_eq_true rfl)) dX1_readRules_120 ⟨(Nat.zero_le _), (Nat.zero_le _)⟩) hS (fun q _ h => hf9 q h) hf9 (fun r u t H locs ht hvm hw hB hz1 hk1 hS => ?_)
            obtain ⟨hP, hK9, hD9⟩ := hB
            rw [ht] at hP
            try dsimp only at hw
            subst hw
            have hD := hD9.weaken (fun _ q _ h => hf9 q.1 h)
            refine W_st (st' := [.int y26.2, .int (14 : Int32), .ref (ad b12)]) (by rw [va_some ho12]) ?_
            obtain ⟨hvc, hF⟩ := chk_some hF
            refine va_iast hx hb hK hP hD hS b12 1 (wld_i ct ad G y26.1 hc12 hk12) rfl hvc dX1_readRules_123 (fun H locs hP hD hS => ?_)
            obtain ⟨M27, eM27, hF⟩ := ltt_some hF
            rw [set_i ct ad G y26.1 hc12 hk12, ← eM27] at hP hD
            refine lv_aloadq_n hx hb dX1_readRules_124 rfl (lv_at hl 1 rfl) ?_
            refine lv_bipush (v := (15 : Int32)) hx hb dX1_readRules_125 (by decide) ?_
            refine lv_aload_n hx hb dX1_readRules_127 rfl (lv_at hl 2 rfl) ?_
            refine lv_bipush (v := (-6 : Int32)) hx hb dX1_readRules_128 (by decide) ?_
            refine lv_bipush (v := (6 : Int32)) hx hb dX1_readRules_130 (by decide) ?_
            obtain ⟨y28, hy28, hF⟩ := bnd_some hF
            have hf9 := wA_in hD hA9 hS
            refine va_calli (va_runV (As := [.int (-6 : Int32), .int (6 : Int32)]) (rest := [.int (15 : Int32), va_re ad (M.2 b2 0)]) ⟨hx, hb, hml, hown, hts⟩ (kX1_signed l D ct ad Z G M27 H.size a ((-6 : Int32)) ((6 : Int32)) y28 hc hk hy28) (cwV 2 hts gX1_readRules_X1_signed rfl rfl rfl (by decide +kernel) ⟨Nat.le_of_ble_eq_true rfl, Nat.le_of_ble_eq_true rfl⟩) ⟨fun a U g mk q => by obtain ⟨q0, q1, qP, qK, qD, qZ, qN⟩ := q; exact ⟨q0, q1, qP, va_K.moved (u := U) (U := U.calling g mk a) (Vm.Alike.refl U.vm) qK, qD, sF.moved (u := U) (U := U.calling g mk a) (Vm.Alike.refl U.vm) qZ, nF.same rfl qN⟩, va_recv hK hP (ci := 1) (q0 := a) rfl (wld_o ct ad G M27 hc hk (by decide)), fun U hU hW => ⟨rfl, by rw [hU], by rw [hU]; exact hP, va_K.moved hW.alike hK, hD.weaken (fun _ _ _ _ => trivial), by rw [hU]; exact ((hZ.kept hS.2.1).narrow hf9).moved hW.alike, hN.warm hW⟩⟩ rfl rfl hl.1 rfl (lv_room (by simp only [List.map, va_re_cat]; exact Nat.le_of_ble_eq_true rfl)) dX1_readRules_132 ⟨(Nat.zero_le _), (Nat.zero_le _)⟩) hS (fun q _ h => hf9 q h) hf9 (fun r u t H locs ht hvm hw hB hz1 hk1 hS => ?_)
            obtain ⟨hP, hK9, hD9⟩ := hB
            rw [ht] at hP
            try dsimp only at hw
            subst hw
            have hD := hD9.weaken (fun _ q _ h => hf9 q.1 h)
            refine W_st (st' := [.int y28.2, .int (15 : Int32), .ref (ad b12)]) (by rw [va_some ho12]) ?_
            obtain ⟨hvc, hF⟩ := chk_some hF
            refine va_iast hx hb hK hP hD hS b12 1 (wld_i ct ad G y28.1 hc12 hk12) rfl hvc dX1_readRules_135 (fun H locs hP hD hS => ?_)
            obtain ⟨M29, eM29, hF⟩ := ltt_some hF
            rw [set_i ct ad G y28.1 hc12 hk12, ← eM29] at hP hD
            obtain rfl := Option.some.inj hF
            exact J24 _ _ _ hP hD hS (lv_sub hl [0, 1, 2, 3] rfl)
      clear hF
      have hF := hy17
      clear hy17
      refine lv_icmp_le (tgt := 87) hx hb dX1_readRules_69 (by decide) (fun c30 => ?_) (fun c30 => ?_)
      · rw [if_pos c30] at hF
        obtain rfl := Option.some.inj hF
        exact J17 _ _ _ hP hD hS (lv_sub hl [0, 1, 2, 3] rfl)
      · rw [if_neg c30] at hF
        refine lv_aload_n hx hb dX1_readRules_72 rfl (lv_at hl 2 rfl) ?_
        refine va_get (D := D) (ci := 1) (v := va_re ad (y15.2 a 0)) (C := RX1) (T := TX1) (N := 22) hx hb hts (by decide +kernel) hown hK hP a (wld_o ct ad G y15 hc hk (by decide)) rfl 0 (by decide) (hts (.fieldLink RX1 12 "VideoSuite$Decoder" "reader" "LVideoSuite$Reader;") (by decide +kernel)) (fun _ h9 => h9) rfl dX1_readRules_73 ?_
        refine lv_iconst (v := (2 : Int32)) hx hb dX1_readRules_76 (by decide) ?_
        refine lv_aload_n hx hb dX1_readRules_77 rfl (lv_at hl 2 rfl) ?_
        refine va_get (D := D) (ci := 1) (v := va_re ad (y15.2 a 0)) (C := RX1) (T := TX1) (N := 22) hx hb hts (by decide +kernel) hown hK hP a (wld_o ct ad G y15 hc hk (by decide)) rfl 0 (by decide) (hts (.fieldLink RX1 12 "VideoSuite$Decoder" "reader" "LVideoSuite$Reader;") (by decide +kernel)) (fun _ h9 => h9) rfl dX1_readRules_78 ?_
        obtain ⟨b31, ho31, hc31, hk31, hF⟩ := dr_some hF
        refine W_st (st' := [.ref (ad b31), .int (2 : Int32), .ref (ad b31)]) (by rw [va_some ho31]) ?_
        refine va_get (D := D) (ci := 5) (v := .int (y15.1 b31 4)) (C := RX5) (T := TX5) (N := 17) hx hb hts (by decide +kernel) hown hK hP b31 (wld_o ct ad G y15 hc31 hk31 (by decide)) rfl 4 (by decide) (hts (.fieldLink RX1 194 "VideoSuite$Reader" "begin" "I") (by decide +kernel)) (fun _ h9 => h9) rfl dX1_readRules_81 ?_
        obtain ⟨x32, ex32, hF⟩ := ltt_some hF
        refine lv_topi (fun zx32 ezx32 => ?_)
        obtain rfl : x32 = zx32 := ex32.trans ezx32.symm
        cases hF
    clear hF
    have hF := hy15
    clear hy15
    refine lv_if_lt (tgt := 72) hx hb dX1_readRules_60 (by decide) (fun c33 => ?_) (fun c33 => ?_)
    · rw [if_pos c33] at hF
      refine lv_aload_n hx hb dX1_readRules_72 rfl (lv_at hl 2 rfl) ?_
      refine va_get (D := D) (ci := 1) (v := va_re ad (M13.2 a 0)) (C := RX1) (T := TX1) (N := 22) hx hb hts (by decide +kernel) hown hK hP a (wld_o ct ad G M13 hc hk (by decide)) rfl 0 (by decide) (hts (.fieldLink RX1 12 "VideoSuite$Decoder" "reader" "LVideoSuite$Reader;") (by decide +kernel)) (fun _ h9 => h9) rfl dX1_readRules_73 ?_
      refine lv_iconst (v := (2 : Int32)) hx hb dX1_readRules_76 (by decide) ?_
      refine lv_aload_n hx hb dX1_readRules_77 rfl (lv_at hl 2 rfl) ?_
      refine va_get (D := D) (ci := 1) (v := va_re ad (M13.2 a 0)) (C := RX1) (T := TX1) (N := 22) hx hb hts (by decide +kernel) hown hK hP a (wld_o ct ad G M13 hc hk (by decide)) rfl 0 (by decide) (hts (.fieldLink RX1 12 "VideoSuite$Decoder" "reader" "LVideoSuite$Reader;") (by decide +kernel)) (fun _ h9 => h9) rfl dX1_readRules_78 ?_
      obtain ⟨b34, ho34, hc34, hk34, hF⟩ := dr_some hF
      refine W_st (st' := [.ref (ad b34), .int (2 : Int32), .ref (ad b34)]) (by rw [va_some ho34]) ?_
      refine va_get (D := D) (ci := 5) (v := .int (M13.1 b34 4)) (C := RX5) (T := TX5) (N := 17) hx hb hts (by decide +kernel) hown hK hP b34 (wld_o ct ad G M13 hc34 hk34 (by decide)) rfl 4 (by decide) (hts (.fieldLink RX1 194 "VideoSuite$Reader" "begin" "I") (by decide +kernel)) (fun _ h9 => h9) rfl dX1_readRules_81 ?_
      obtain ⟨x35, ex35, hF⟩ := ltt_some hF
      refine lv_topi (fun zx35 ezx35 => ?_)
      obtain rfl : x35 = zx35 := ex35.trans ezx35.symm
      cases hF
    · rw [if_neg c33] at hF
      obtain rfl := Option.some.inj hF
      exact J15 _ _ _ hP hD hS (lv_sub hl [0, 1, 2, 3] rfl)
  clear hF
  have hF := hy5
  clear hy5
  refine lv_icmp_ne (tgt := 28) hx hb dX1_readRules_12 (by decide) (fun c36 => ?_) (fun c36 => ?_)
  · rw [if_neg c36] at hF
    obtain rfl := Option.some.inj hF
    exact J5 _ _ _ hP hD hS (lv_sub hl [0, 1, 2] rfl)
  · rw [if_pos c36] at hF
    refine lv_aloadq_n hx hb dX1_readRules_15 rfl (lv_at hl 0 rfl) ?_
    refine lv_iconst (v := (1 : Int32)) hx hb dX1_readRules_16 (by decide) ?_
    obtain ⟨b37, ho37, hc37, hk37, hF⟩ := dr_some hF
    refine W_st (st' := [.int (1 : Int32), .ref (ad b37)]) (by rw [va_some ho37]) ?_
    obtain ⟨hvc, hF⟩ := chk_some hF
    refine va_iald hx hb hK hP b37 1 (wld_i ct ad G M hc37 hk37) rfl hvc dX1_readRules_17 ?_
    obtain ⟨x38, ex38, hF⟩ := ltt_some hF
    refine lv_topi (fun zx38 ezx38 => ?_)
    obtain rfl : x38 = zx38 := ex38.trans ezx38.symm
    refine lv_iconst (v := (2 : Int32)) hx hb dX1_readRules_18 (by decide) ?_
    obtain ⟨y39, hy39, hF⟩ := bnd_some hF
    have J39 : ∀ (H : Heap) (locs : List Loc) (ls : Array Slot), va_P D classes (wld ct ad G y39) H → va_D A (wld ct ad G y39) → va_S A s.heap H locs → lv_has ls 5 [(2, va_re ad (M.2 b2 0)), (0, .ref (ad a)), (1, va_re ad p0)] → W p l e (headSpec wsX1_readRules ({ frames := 3, cells := 0, slots := 0, locals := 81 })).room s m ([.ref (ad a), va_re ad p0] : List Value).toArray below meth c H locs 0 0 (MQ below (va_Qv (fun (_ : Unit) => True) (fun _ t => kE D ct ad G A y t) A) ([.ref (ad a), va_re ad p0] : List Value).toArray s 0 0 A) (F0 m 28 ls []) := by
      intro H locs ls hP hD hS hl
      obtain rfl := Option.some.inj hF
      exact J5 _ _ _ hP hD hS (lv_sub hl [0, 1, 2] rfl)
    clear hF
    have hF := hy39
    clear hy39
    refine lv_icmp_eq (tgt := 28) hx hb dX1_readRules_19 (by decide) (fun c40 => ?_) (fun c40 => ?_)
    · rw [if_pos c40] at hF
      obtain rfl := Option.some.inj hF
      exact J39 _ _ _ hP hD hS (lv_sub hl [0, 1, 2] rfl)
    · rw [if_neg c40] at hF
      refine lv_aload_n hx hb dX1_readRules_22 rfl (lv_at hl 1 rfl) ?_
      refine lv_iconst (v := (2 : Int32)) hx hb dX1_readRules_23 (by decide) ?_
      obtain ⟨y41, hy41, hF⟩ := bnd_some hF
      have hf9 := wA_in hD hA9 hS
      refine va_calli (va_runV (As := [.int (2 : Int32)]) (rest := []) ⟨hx, hb, hml, hown, hts⟩ (kX1_unsigned l D ct ad Z G M s.heap.size a ((2 : Int32)) y41 hc hk hy41) (cwV 1 hts gX1_readRules_X1_unsigned rfl rfl rfl (by decide +kernel) ⟨Nat.le_of_ble_eq_true rfl, Nat.le_of_ble_eq_true rfl⟩) ⟨fun a U g mk q => by obtain ⟨q0, q1, qP, qK, qD, qZ, qN⟩ := q; exact ⟨q0, q1, qP, va_K.moved (u := U) (U := U.calling g mk a) (Vm.Alike.refl U.vm) qK, qD, sF.moved (u := U) (U := U.calling g mk a) (Vm.Alike.refl U.vm) qZ, nF.same rfl qN⟩, va_recv hK hP (ci := 1) (q0 := a) rfl (wld_o ct ad G M hc hk (by decide)), fun U hU hW => ⟨rfl, by rw [hU], by rw [hU]; exact hP, va_K.moved hW.alike hK, hD.weaken (fun _ _ _ _ => trivial), by rw [hU]; exact ((hZ.kept hS.2.1).narrow hf9).moved hW.alike, hN.warm hW⟩⟩ rfl rfl hl.1 rfl (lv_room (Nat.le_of_ble_eq_true rfl)) dX1_readRules_24 ⟨(Nat.zero_le _), (Nat.zero_le _)⟩) hS (fun q _ h => hf9 q h) hf9 (fun r u t H locs ht hvm hw hB hz1 hk1 hS => ?_)
      obtain ⟨hP, hK9, hD9⟩ := hB
      rw [ht] at hP
      try dsimp only at hw
      subst hw
      have hD := hD9.weaken (fun _ q _ h => hf9 q.1 h)
      refine lv_pop hx hb dX1_readRules_27 rfl ?_
      obtain rfl := Option.some.inj hF
      exact J39 _ _ _ hP hD hS (lv_sub hl [0, 1, 2] rfl)
theorem ggX1_readSkipped_X9_skip : GoodIn wsX1_readSkipped wsX9_skip := goodIn_r _ [118, 17, 18, 119, 120, 121, 12, 122, 67, 68, 69, 70, 27, 71, 72, 73, 123, 124, 125, 126, 62, 24, 78, 79, 80, 81, 82, 83, 84, 85, 86, 87, 74, 75, 76, 77, 88, 89, 90, 91, 92, 93, 94, 95, 127, 128, 129, 130, 131, 132, 133, 134, 135, 136, 137, 138, 139, 140, 141, 142, 143, 144, 145, 146, 147, 148, 149, 150, 151, 152, 153, 154, 14, 23, 47, 40, 41, 31, 42, 155, 156, 157, 158, 181, 182, 183, 184, 185, 186, 187, 188, 189, 190, 191, 192, 193, 194, 195, 196, 197, 198, 199, 200, 205, 206, 207, 208, 209, 210, 211, 212, 213, 214, 215, 216, 217, 218, 219, 220, 221, 222] (by decide +kernel) (by decide +kernel)
set_option maxRecDepth 20000 in
theorem gX1_readSkipped_X9_skip : GoodIn wsX1_readSkipped (wsV RX1 388 RX9 yX9_skip wsX9_skip) := goodIn_app (goodIn_of _ (by decide +kernel)) ggX1_readSkipped_X9_skip
theorem ggX1_readSkipped_X9_direct : GoodIn wsX1_readSkipped wsX9_direct := goodIn_r _ [13, 14, 15, 16, 17, 18, 19, 20, 21, 12, 22, 23, 24, 25, 26, 27, 28, 29, 30, 31, 32, 33, 34, 35, 36, 37, 38, 39, 40, 41, 42, 43, 44, 45, 46, 47, 48, 49, 50, 51, 52, 53, 54, 55, 56, 57, 58, 59, 60, 61, 62, 63, 64, 65, 66, 67, 68, 69, 70, 71, 72, 73, 74, 75, 76, 77, 78, 79, 80, 81, 82, 83, 84, 85, 86, 87, 88, 89, 90, 91, 92, 93, 94, 95, 96, 97, 98, 181, 182, 183, 184, 185, 186, 187, 188, 189, 190, 191, 192, 193, 194, 195, 196, 197, 198, 199, 200, 201, 202, 203, 204, 205, 206, 207, 208, 209, 210, 211, 212, 213, 214, 215, 216, 217, 218, 219, 220, 221, 222] (by decide +kernel) (by decide +kernel)
set_option maxRecDepth 20000 in
theorem gX1_readSkipped_X9_direct : GoodIn wsX1_readSkipped (wsV RX1 380 RX9 yX9_direct wsX9_direct) := goodIn_app (goodIn_of _ (by decide +kernel)) ggX1_readSkipped_X9_direct
set_option maxRecDepth 20000 in
theorem dX1_readSkipped_0 : decode cX1_readSkipped 0 = .ok (.aload_n 0, 1) := by decide +kernel
theorem dX1_readSkipped_1 : decode cX1_readSkipped 1 = .ok (.iload_n 1, 1) := by decide +kernel
theorem dX1_readSkipped_2 : decode cX1_readSkipped 2 = .ok (.putfield 130, 3) := by decide +kernel
theorem dX1_readSkipped_5 : decode cX1_readSkipped 5 = .ok (.aload_n 0, 1) := by decide +kernel
theorem dX1_readSkipped_6 : decode cX1_readSkipped 6 = .ok (.getfield 28, 3) := by decide +kernel
theorem dX1_readSkipped_9 : decode cX1_readSkipped 9 = .ok (.getfield 355, 3) := by decide +kernel
theorem dX1_readSkipped_12 : decode cX1_readSkipped 12 = .ok (.bipush 8, 2) := by decide +kernel
theorem dX1_readSkipped_14 : decode cX1_readSkipped 14 = .ok (.iload_n 1, 1) := by decide +kernel
theorem dX1_readSkipped_15 : decode cX1_readSkipped 15 = .ok (.imul, 1) := by decide +kernel
theorem dX1_readSkipped_16 : decode cX1_readSkipped 16 = .ok (.iconst 0, 1) := by decide +kernel
theorem dX1_readSkipped_17 : decode cX1_readSkipped 17 = .ok (.iadd, 1) := by decide +kernel
theorem dX1_readSkipped_18 : decode cX1_readSkipped 18 = .ok (.iconst 3, 1) := by decide +kernel
theorem dX1_readSkipped_19 : decode cX1_readSkipped 19 = .ok (.iastore, 1) := by decide +kernel
theorem dX1_readSkipped_20 : decode cX1_readSkipped 20 = .ok (.aload_n 0, 1) := by decide +kernel
theorem dX1_readSkipped_21 : decode cX1_readSkipped 21 = .ok (.getfield 28, 3) := by decide +kernel
theorem dX1_readSkipped_24 : decode cX1_readSkipped 24 = .ok (.getfield 355, 3) := by decide +kernel
theorem dX1_readSkipped_27 : decode cX1_readSkipped 27 = .ok (.bipush 8, 2) := by decide +kernel
theorem dX1_readSkipped_29 : decode cX1_readSkipped 29 = .ok (.iload_n 1, 1) := by decide +kernel
theorem dX1_readSkipped_30 : decode cX1_readSkipped 30 = .ok (.imul, 1) := by decide +kernel
theorem dX1_readSkipped_31 : decode cX1_readSkipped 31 = .ok (.iconst 2, 1) := by decide +kernel
theorem dX1_readSkipped_32 : decode cX1_readSkipped 32 = .ok (.iadd, 1) := by decide +kernel
theorem dX1_readSkipped_33 : decode cX1_readSkipped 33 = .ok (.aload_n 0, 1) := by decide +kernel
theorem dX1_readSkipped_34 : decode cX1_readSkipped 34 = .ok (.getfield 328, 3) := by decide +kernel
theorem dX1_readSkipped_37 : decode cX1_readSkipped 37 = .ok (.iastore, 1) := by decide +kernel
theorem dX1_readSkipped_38 : decode cX1_readSkipped 38 = .ok (.aload_n 0, 1) := by decide +kernel
theorem dX1_readSkipped_39 : decode cX1_readSkipped 39 = .ok (.getfield 72, 3) := by decide +kernel
theorem dX1_readSkipped_42 : decode cX1_readSkipped 42 = .ok (.getfield 212, 3) := by decide +kernel
theorem dX1_readSkipped_45 : decode cX1_readSkipped 45 = .ok (.iconst 1, 1) := by decide +kernel
theorem dX1_readSkipped_46 : decode cX1_readSkipped 46 = .ok (.iaload, 1) := by decide +kernel
theorem dX1_readSkipped_47 : decode cX1_readSkipped 47 = .ok (.iconst 1, 1) := by decide +kernel
theorem dX1_readSkipped_48 : decode cX1_readSkipped 48 = .ok (.if_icmp .ne 25, 3) := by decide +kernel
theorem dX1_readSkipped_51 : decode cX1_readSkipped 51 = .ok (.aload_n 0, 1) := by decide +kernel
theorem dX1_readSkipped_52 : decode cX1_readSkipped 52 = .ok (.getfield 28, 3) := by decide +kernel
theorem dX1_readSkipped_55 : decode cX1_readSkipped 55 = .ok (.iload_n 1, 1) := by decide +kernel
theorem dX1_readSkipped_56 : decode cX1_readSkipped 56 = .ok (.bipush 15, 2) := by decide +kernel
theorem dX1_readSkipped_58 : decode cX1_readSkipped 58 = .ok (.invokevirtual 380, 3) := by decide +kernel
theorem dX1_readSkipped_61 : decode cX1_readSkipped 61 = .ok (.ifCond .ne 11, 3) := by decide +kernel
theorem dX1_readSkipped_64 : decode cX1_readSkipped 64 = .ok (.aload_n 0, 1) := by decide +kernel
theorem dX1_readSkipped_65 : decode cX1_readSkipped 65 = .ok (.getfield 12, 3) := by decide +kernel
theorem dX1_readSkipped_68 : decode cX1_readSkipped 68 = .ok (.iconst 4, 1) := by decide +kernel
theorem dX1_readSkipped_69 : decode cX1_readSkipped 69 = .ok (.invokevirtual 325, 3) := by decide +kernel
theorem dX1_readSkipped_72 : decode cX1_readSkipped 72 = .ok (.return_, 1) := by decide +kernel
theorem dX1_readSkipped_73 : decode cX1_readSkipped 73 = .ok (.aload_n 0, 1) := by decide +kernel
theorem dX1_readSkipped_74 : decode cX1_readSkipped 74 = .ok (.getfield 28, 3) := by decide +kernel
theorem dX1_readSkipped_77 : decode cX1_readSkipped 77 = .ok (.getfield 384, 3) := by decide +kernel
theorem dX1_readSkipped_80 : decode cX1_readSkipped 80 = .ok (.iconst 0, 1) := by decide +kernel
theorem dX1_readSkipped_81 : decode cX1_readSkipped 81 = .ok (.aaload, 1) := by decide +kernel
theorem dX1_readSkipped_82 : decode cX1_readSkipped 82 = .ok (.ifnonnull 11, 3) := by decide +kernel
theorem dX1_readSkipped_85 : decode cX1_readSkipped 85 = .ok (.aload_n 0, 1) := by decide +kernel
theorem dX1_readSkipped_86 : decode cX1_readSkipped 86 = .ok (.getfield 12, 3) := by decide +kernel
theorem dX1_readSkipped_89 : decode cX1_readSkipped 89 = .ok (.iconst 4, 1) := by decide +kernel
theorem dX1_readSkipped_90 : decode cX1_readSkipped 90 = .ok (.invokevirtual 325, 3) := by decide +kernel
theorem dX1_readSkipped_93 : decode cX1_readSkipped 93 = .ok (.aload_n 0, 1) := by decide +kernel
theorem dX1_readSkipped_94 : decode cX1_readSkipped 94 = .ok (.getfield 28, 3) := by decide +kernel
theorem dX1_readSkipped_97 : decode cX1_readSkipped 97 = .ok (.iload_n 1, 1) := by decide +kernel
theorem dX1_readSkipped_98 : decode cX1_readSkipped 98 = .ok (.invokevirtual 388, 3) := by decide +kernel
theorem dX1_readSkipped_101 : decode cX1_readSkipped 101 = .ok (.return_, 1) := by decide +kernel
def FX1_readSkipped (G : GG) (M : DD) (a : Nat) (p0 : Int32) : Option (DD) :=
  ltt (uI M a 21 p0) fun M1 =>
  dr G 9 ((M1.2 a 2)) fun b2 =>
  ltt ((((8 : Int32)) * p0)) fun x3 =>
  ltt ((x3 + ((0 : Int32)))) fun x4 =>
  dr G 13 ((M1.2 b2 6)) fun b5 =>
  chk (¬ (x4 < 0 ∨ G.2.2 b5 ≤ x4.toNatClampNeg)) <|
  ltt (uI M1 b5 x4.toNatClampNeg ((3 : Int32))) fun M6 =>
  dr G 9 ((M6.2 a 2)) fun b7 =>
  ltt ((((8 : Int32)) * p0)) fun x8 =>
  ltt ((x8 + ((2 : Int32)))) fun x9 =>
  ltt (M6.1 a 20) fun x10 =>
  dr G 13 ((M6.2 b7 6)) fun b11 =>
  chk (¬ (x9 < 0 ∨ G.2.2 b11 ≤ x9.toNatClampNeg)) <|
  ltt (uI M6 b11 x9.toNatClampNeg x10) fun M12 =>
  dr G 3 ((M12.2 a 11)) fun b13 =>
  dr G 13 ((M12.2 b13 0)) fun b14 =>
  chk (¬ (((1 : Int32)) < 0 ∨ G.2.2 b14 ≤ ((1 : Int32)).toNatClampNeg)) <|
  ltt (M12.1 b14 ((1 : Int32)).toNatClampNeg) fun x15 =>
  if x15 = ((1 : Int32)) then (dr G 9 ((M12.2 a 2)) fun b23 =>
  bnd (FX9_direct G M12 b23 p0 ((15 : Int32))) fun y24 =>
  bnd (if y24.2 = ((0 : Int32)) then (none) else
  (some (y24.1))) fun (y25 : DD) =>
  some y25) else
  (dr G 9 ((M12.2 a 2)) fun b17 =>
  dr G 14 ((M12.2 b17 3)) fun b18 =>
  chk (¬ (((0 : Int32)) < 0 ∨ G.2.2 b18 ≤ ((0 : Int32)).toNatClampNeg)) <|
  bnd (if ((M12.2 b18 ((0 : Int32)).toNatClampNeg)) = none then (none) else
  (some (M12))) fun (y19 : DD) =>
  dr G 9 ((y19.2 a 2)) fun b20 =>
  bnd (FX9_skip G y19 b20 p0) fun y21 =>
  some y21)
set_option maxHeartbeats 4000000 in
set_option maxRecDepth 100000 in
theorem kX1_readSkipped (l : Launch) (D : va_G) (ct : CT) (ad : Nat → Nat) (Z : Nat → Nat) (G : GG) (M : DD) (sz : Nat) (a : Nat) (p0 : Int32) (y : DD) (hc : a < G.1) (hk : G.2.1 a = 1) (hF : FX1_readSkipped G M a p0 = some y) : Met l yX1_readSkipped wsX1_readSkipped ({ frames := 4, cells := 0, slots := 0, locals := 113 }) (va_Pc [.ref (ad a), .int p0] (kB D ct ad Z G M sz)) (va_Qv (fun (_ : Unit) => True) (fun _ t => kE D ct ad G (wA ad G sz) y t) (wA ad G sz)) 0 0 (wA ad G sz) := by
  refine Met.ofW (cc := cX1_readSkipped) (maxL := 2) (ret := none) (by decide) rfl ?_
  intro p e s m args below meth c s₁ B hml hv
  obtain ⟨rfl, hsz, hP, hK, hD0, hZ, hN⟩ := hv
  have hx := B.exec
  have hb := B.bytes
  have hr := B.returns
  have hts := atoms_spec (ws := wsX1_readSkipped) B.pre
  have hown : s.vm.findClass RX1 = some m.cls := findClass_of_methodNamed B.named
  have hlocks := B.notSynchronized
  subst hsz
  have hD := wD_self (sz := s.heap.size) hD0
  have hA9 : ∀ q, s.heap.size ≤ q → wA ad G s.heap.size q := fun q h => Or.inr h
  generalize hAe : wA ad G s.heap.size = A at hD hA9 hZ ⊢
  have hS : va_S A s.heap s.heap [] := va_S.rf
  have hl := lv_entry ([.ref (ad a), .int p0]) (n := 2) (Nat.le_of_ble_eq_true rfl)
  rw [lg_entry_eq]
  generalize (lg_sl ([.ref (ad a), .int p0]) ++ List.replicate (2 - (lg_sl ([.ref (ad a), .int p0])).length) Slot.unset).toArray = ls at hl ⊢
  have hl : lv_has ls 2 [(0, .ref (ad a)), (1, .int p0)] := hl
  unfold FX1_readSkipped at hF
  refine lv_aload_n hx hb dX1_readSkipped_0 rfl (lv_at hl 0 rfl) ?_
  refine lv_iload_n hx hb dX1_readSkipped_1 rfl (lv_at hl 1 rfl) ?_
  refine va_put (D := D) (ci := 1) (v := .int p0) (ty := .int) (C := RX1) (T := TX1) (N := 22) hx hb hts (by decide +kernel) tyX1 tyX1_ok nmX1 hown hK hP hD hS a (wld_o ct ad G M hc hk (by decide)) rfl 21 (by decide) (hts (.fieldLink RX1 130 "VideoSuite$Decoder" "current" "I") (by decide +kernel)) (fun _ h9 => h9) rfl (by decide +kernel) rfl rfl (Nat.le_of_ble_eq_true rfl) dX1_readSkipped_2 (fun H locs hP hD hS => ?_)
  obtain ⟨M1, eM1, hF⟩ := ltt_some hF
  rw [set_oI ct ad G M hc hk (by decide) (by rfl), ← eM1] at hP hD
  refine lv_aload_n hx hb dX1_readSkipped_5 rfl (lv_at hl 0 rfl) ?_
  refine va_get (D := D) (ci := 1) (v := va_re ad (M1.2 a 2)) (C := RX1) (T := TX1) (N := 22) hx hb hts (by decide +kernel) hown hK hP a (wld_o ct ad G M1 hc hk (by decide)) rfl 2 (by decide) (hts (.fieldLink RX1 28 "VideoSuite$Decoder" "work" "LVideoSuite$Work;") (by decide +kernel)) (fun _ h9 => h9) rfl dX1_readSkipped_6 ?_
  obtain ⟨b2, ho2, hc2, hk2, hF⟩ := dr_some hF
  refine W_st (st' := [.ref (ad b2)]) (by rw [va_some ho2]) ?_
  refine va_get (D := D) (ci := 9) (v := va_re ad (M1.2 b2 6)) (C := RX9) (T := TX9) (N := 20) hx hb hts (by decide +kernel) hown hK hP b2 (wld_o ct ad G M1 hc2 hk2 (by decide)) rfl 6 (by decide) (hts (.fieldLink RX1 355 "VideoSuite$Work" "info" "[I") (by decide +kernel)) (fun _ h9 => h9) rfl dX1_readSkipped_9 ?_
  refine lv_bipush (v := (8 : Int32)) hx hb dX1_readSkipped_12 (by decide) ?_
  refine lv_iload_n hx hb dX1_readSkipped_14 rfl (lv_at hl 1 rfl) ?_
  refine lv_imul hx hb dX1_readSkipped_15 ?_
  obtain ⟨x3, ex3, hF⟩ := ltt_some hF
  refine lv_topi (fun zx3 ezx3 => ?_)
  obtain rfl : x3 = zx3 := ex3.trans ezx3.symm
  refine lv_iconst (v := (0 : Int32)) hx hb dX1_readSkipped_16 (by decide) ?_
  refine lv_iadd hx hb dX1_readSkipped_17 ?_
  obtain ⟨x4, ex4, hF⟩ := ltt_some hF
  refine lv_topi (fun zx4 ezx4 => ?_)
  obtain rfl : x4 = zx4 := ex4.trans ezx4.symm
  refine lv_iconst (v := (3 : Int32)) hx hb dX1_readSkipped_18 (by decide) ?_
  obtain ⟨b5, ho5, hc5, hk5, hF⟩ := dr_some hF
  refine W_st (st' := [.int (3 : Int32), .int x4, .ref (ad b5)]) (by rw [va_some ho5]) ?_
  obtain ⟨hvc, hF⟩ := chk_some hF
  refine va_iast hx hb hK hP hD hS b5 1 (wld_i ct ad G M1 hc5 hk5) rfl hvc dX1_readSkipped_19 (fun H locs hP hD hS => ?_)
  obtain ⟨M6, eM6, hF⟩ := ltt_some hF
  rw [set_i ct ad G M1 hc5 hk5, ← eM6] at hP hD
  refine lv_aload_n hx hb dX1_readSkipped_20 rfl (lv_at hl 0 rfl) ?_
  refine va_get (D := D) (ci := 1) (v := va_re ad (M6.2 a 2)) (C := RX1) (T := TX1) (N := 22) hx hb hts (by decide +kernel) hown hK hP a (wld_o ct ad G M6 hc hk (by decide)) rfl 2 (by decide) (hts (.fieldLink RX1 28 "VideoSuite$Decoder" "work" "LVideoSuite$Work;") (by decide +kernel)) (fun _ h9 => h9) rfl dX1_readSkipped_21 ?_
  obtain ⟨b7, ho7, hc7, hk7, hF⟩ := dr_some hF
  refine W_st (st' := [.ref (ad b7)]) (by rw [va_some ho7]) ?_
  refine va_get (D := D) (ci := 9) (v := va_re ad (M6.2 b7 6)) (C := RX9) (T := TX9) (N := 20) hx hb hts (by decide +kernel) hown hK hP b7 (wld_o ct ad G M6 hc7 hk7 (by decide)) rfl 6 (by decide) (hts (.fieldLink RX1 355 "VideoSuite$Work" "info" "[I") (by decide +kernel)) (fun _ h9 => h9) rfl dX1_readSkipped_24 ?_
  refine lv_bipush (v := (8 : Int32)) hx hb dX1_readSkipped_27 (by decide) ?_
  refine lv_iload_n hx hb dX1_readSkipped_29 rfl (lv_at hl 1 rfl) ?_
  refine lv_imul hx hb dX1_readSkipped_30 ?_
  obtain ⟨x8, ex8, hF⟩ := ltt_some hF
  refine lv_topi (fun zx8 ezx8 => ?_)
  obtain rfl : x8 = zx8 := ex8.trans ezx8.symm
  refine lv_iconst (v := (2 : Int32)) hx hb dX1_readSkipped_31 (by decide) ?_
  refine lv_iadd hx hb dX1_readSkipped_32 ?_
  obtain ⟨x9, ex9, hF⟩ := ltt_some hF
  refine lv_topi (fun zx9 ezx9 => ?_)
  obtain rfl : x9 = zx9 := ex9.trans ezx9.symm
  refine lv_aload_n hx hb dX1_readSkipped_33 rfl (lv_at hl 0 rfl) ?_
  refine va_get (D := D) (ci := 1) (v := .int (M6.1 a 20)) (C := RX1) (T := TX1) (N := 22) hx hb hts (by decide +kernel) hown hK hP a (wld_o ct ad G M6 hc hk (by decide)) rfl 20 (by decide) (hts (.fieldLink RX1 328 "VideoSuite$Decoder" "step" "I") (by decide +kernel)) (fun _ h9 => h9) rfl dX1_readSkipped_34 ?_
  obtain ⟨x10, ex10, hF⟩ := ltt_some hF
  refine lv_topi (fun zx10 ezx10 => ?_)
  obtain rfl : x10 = zx10 := ex10.trans ezx10.symm
  obtain ⟨b11, ho11, hc11, hk11, hF⟩ := dr_some hF
  refine W_st (st' := [.int x10, .int x9, .ref (ad b11)]) (by rw [va_some ho11]) ?_
  obtain ⟨hvc, hF⟩ := chk_some hF
  refine va_iast hx hb hK hP hD hS b11 1 (wld_i ct ad G M6 hc11 hk11) rfl hvc dX1_readSkipped_37 (fun H locs hP hD hS => ?_)
  obtain ⟨M12, eM12, hF⟩ := ltt_some hF
  rw [set_i ct ad G M6 hc11 hk11, ← eM12] at hP hD
  refine lv_aload_n hx hb dX1_readSkipped_38 rfl (lv_at hl 0 rfl) ?_
  refine va_get (D := D) (ci := 1) (v := va_re ad (M12.2 a 11)) (C := RX1) (T := TX1) (N := 22) hx hb hts (by decide +kernel) hown hK hP a (wld_o ct ad G M12 hc hk (by decide)) rfl 11 (by decide) (hts (.fieldLink RX1 72 "VideoSuite$Decoder" "latest" "LVideoSuite$Header;") (by decide +kernel)) (fun _ h9 => h9) rfl dX1_readSkipped_39 ?_
  obtain ⟨b13, ho13, hc13, hk13, hF⟩ := dr_some hF
  refine W_st (st' := [.ref (ad b13)]) (by rw [va_some ho13]) ?_
  refine va_get (D := D) (ci := 3) (v := va_re ad (M12.2 b13 0)) (C := RX3) (T := TX3) (N := 4) hx hb hts (by decide +kernel) hown hK hP b13 (wld_o ct ad G M12 hc13 hk13 (by decide)) rfl 0 (by decide) (hts (.fieldLink RX1 212 "VideoSuite$Header" "v" "[I") (by decide +kernel)) (fun _ h9 => h9) rfl dX1_readSkipped_42 ?_
  refine lv_iconst (v := (1 : Int32)) hx hb dX1_readSkipped_45 (by decide) ?_
  obtain ⟨b14, ho14, hc14, hk14, hF⟩ := dr_some hF
  refine W_st (st' := [.int (1 : Int32), .ref (ad b14)]) (by rw [va_some ho14]) ?_
  obtain ⟨hvc, hF⟩ := chk_some hF
  refine va_iald hx hb hK hP b14 1 (wld_i ct ad G M12 hc14 hk14) rfl hvc dX1_readSkipped_46 ?_
  obtain ⟨x15, ex15, hF⟩ := ltt_some hF
  refine lv_topi (fun zx15 ezx15 => ?_)
  obtain rfl : x15 = zx15 := ex15.trans ezx15.symm
  refine lv_iconst (v := (1 : Int32)) hx hb dX1_readSkipped_47 (by decide) ?_
  refine lv_icmp_ne (tgt := 73) hx hb dX1_readSkipped_48 (by decide) (fun c16 => ?_) (fun c16 => ?_)
  · rw [if_neg c16] at hF
    refine lv_aload_n hx hb dX1_readSkipped_73 rfl (lv_at hl 0 rfl) ?_
    refine va_get (D := D) (ci := 1) (v := va_re ad (M12.2 a 2)) (C := RX1) (T := TX1) (N := 22) hx hb hts (by decide +kernel) hown hK hP a (wld_o ct ad G M12 hc hk (by decide)) rfl 2 (by decide) (hts (.fieldLink RX1 28 "VideoSuite$Decoder" "work" "LVideoSuite$Work;") (by decide +kernel)) (fun _ h9 => h9) rfl dX1_readSkipped_74 ?_
    obtain ⟨b17, ho17, hc17, hk17, hF⟩ := dr_some hF
    refine W_st (st' := [.ref (ad b17)]) (by rw [va_some ho17]) ?_
    refine va_get (D := D) (ci := 9) (v := va_re ad (M12.2 b17 3)) (C := RX9) (T := TX9) (N := 20) hx hb hts (by decide +kernel) hown hK hP b17 (wld_o ct ad G M12 hc17 hk17 (by decide)) rfl 3 (by decide) (hts (.fieldLink RX1 384 "VideoSuite$Work" "lists" "[LVideoSuite$Picture;") (by decide +kernel)) (fun _ h9 => h9) rfl dX1_readSkipped_77 ?_
    refine lv_iconst (v := (0 : Int32)) hx hb dX1_readSkipped_80 (by decide) ?_
    obtain ⟨b18, ho18, hc18, hk18, hF⟩ := dr_some hF
    refine W_st (st' := [.int (0 : Int32), .ref (ad b18)]) (by rw [va_some ho18]) ?_
    obtain ⟨hvc, hF⟩ := chk_some hF
    refine ld_q hx hb hK hP hc18 hk18 hvc dX1_readSkipped_81 ?_
    obtain ⟨y19, hy19, hF⟩ := bnd_some hF
    have J19 : ∀ (H : Heap) (locs : List Loc) (ls : Array Slot), va_P D classes (wld ct ad G y19) H → va_D A (wld ct ad G y19) → va_S A s.heap H locs → lv_has ls 2 [(0, .ref (ad a)), (1, .int p0)] → W p l e (headSpec wsX1_readSkipped ({ frames := 4, cells := 0, slots := 0, locals := 113 })).room s m ([.ref (ad a), .int p0] : List Value).toArray below meth c H locs 0 0 (MQ below (va_Qv (fun (_ : Unit) => True) (fun _ t => kE D ct ad G A y t) A) ([.ref (ad a), .int p0] : List Value).toArray s 0 0 A) (F0 m 93 ls []) := by
      intro H locs ls hP hD hS hl
      refine lv_aload_n hx hb dX1_readSkipped_93 rfl (lv_at hl 0 rfl) ?_
      refine va_get (D := D) (ci := 1) (v := va_re ad (y19.2 a 2)) (C := RX1) (T := TX1) (N := 22) hx hb hts (by decide +kernel) hown hK hP a (wld_o ct ad G y19 hc hk (by decide)) rfl 2 (by decide) (hts (.fieldLink RX1 28 "VideoSuite$Decoder" "work" "LVideoSuite$Work;") (by decide +kernel)) (fun _ h9 => h9) rfl dX1_readSkipped_94 ?_
      refine lv_iload_n hx hb dX1_readSkipped_97 rfl (lv_at hl 1 rfl) ?_
      obtain ⟨b20, ho20, hc20, hk20, hF⟩ := dr_some hF
      refine W_st (st' := [.int p0, .ref (ad b20)]) (by rw [va_some ho20]) ?_
      obtain ⟨y21, hy21, hF⟩ := bnd_some hF
      have hf9 := wA_in hD hA9 hS
      refine va_callv (va_runV (As := [.int p0]) (rest := []) ⟨hx, hb, hml, hown, hts⟩ (kX9_skip l D ct ad Z G y19 H.size b20 p0 y21 hc20 hk20 hy21) (cwV 1 hts gX1_readSkipped_X9_skip rfl rfl rfl (by decide +kernel) ⟨Nat.le_of_ble_eq_true rfl, Nat.le_of_ble_eq_true rfl⟩) ⟨fun a U g mk q => by obtain ⟨q0, q1, qP, qK, qD, qZ, qN⟩ := q; exact ⟨q0, q1, qP, va_K.moved (u := U) (U := U.calling g mk a) (Vm.Alike.refl U.vm) qK, qD, sF.moved (u := U) (U := U.calling g mk a) (Vm.Alike.refl U.vm) qZ, nF.same rfl qN⟩, va_recv hK hP (ci := 9) (q0 := b20) rfl (wld_o ct ad G y19 hc20 hk20 (by decide)), fun U hU hW => ⟨rfl, by rw [hU], by rw [hU]; exact hP, va_K.moved hW.alike hK, hD.weaken (fun _ _ _ _ => trivial), by rw [hU]; exact ((hZ.kept hS.2.1).narrow hf9).moved hW.alike, hN.warm hW⟩⟩ rfl rfl hl.1 rfl (lv_room (Nat.le_of_ble_eq_true rfl)) dX1_readSkipped_98 ⟨(Nat.zero_le _), (Nat.zero_le _)⟩) hS (fun q _ h => hf9 q h) hf9 (fun u t H locs ht hvm hw hB hz1 hk1 hS => ?_)
      obtain ⟨hP, hK9, hD9⟩ := hB
      rw [ht] at hP
      have hD := hD9.weaken (fun _ q _ h => hf9 q.1 h)
      obtain rfl := Option.some.inj hF
      exact W.vret hx hb hr (fun t ht hW => ⟨⟨(), rfl, trivial, ⟨by rw [ht]; exact hP, va_K.moved hW.alike hK, hD⟩⟩, hS.F ht⟩) hS.2.2 dX1_readSkipped_101
    clear hF
    have hF := hy19
    clear hy19
    refine lv_ifnonnullq (tgt := 93) hx hb dX1_readSkipped_82 (by decide) (fun c22 => ?_) (fun c22 => ?_)
    · rw [if_neg c22] at hF
      obtain rfl := Option.some.inj hF
      exact J19 _ _ _ hP hD hS (lv_sub hl [0, 1] rfl)
    · rw [if_pos c22] at hF
      refine lv_aload_n hx hb dX1_readSkipped_85 rfl (lv_at hl 0 rfl) ?_
      refine va_get (D := D) (ci := 1) (v := va_re ad (M12.2 a 0)) (C := RX1) (T := TX1) (N := 22) hx hb hts (by decide +kernel) hown hK hP a (wld_o ct ad G M12 hc hk (by decide)) rfl 0 (by decide) (hts (.fieldLink RX1 12 "VideoSuite$Decoder" "reader" "LVideoSuite$Reader;") (by decide +kernel)) (fun _ h9 => h9) rfl dX1_readSkipped_86 ?_
      refine lv_iconst (v := (4 : Int32)) hx hb dX1_readSkipped_89 (by decide) ?_
      cases hF
  · rw [if_pos c16] at hF
    refine lv_aload_n hx hb dX1_readSkipped_51 rfl (lv_at hl 0 rfl) ?_
    refine va_get (D := D) (ci := 1) (v := va_re ad (M12.2 a 2)) (C := RX1) (T := TX1) (N := 22) hx hb hts (by decide +kernel) hown hK hP a (wld_o ct ad G M12 hc hk (by decide)) rfl 2 (by decide) (hts (.fieldLink RX1 28 "VideoSuite$Decoder" "work" "LVideoSuite$Work;") (by decide +kernel)) (fun _ h9 => h9) rfl dX1_readSkipped_52 ?_
    refine lv_iload_n hx hb dX1_readSkipped_55 rfl (lv_at hl 1 rfl) ?_
    refine lv_bipush (v := (15 : Int32)) hx hb dX1_readSkipped_56 (by decide) ?_
    obtain ⟨b23, ho23, hc23, hk23, hF⟩ := dr_some hF
    refine W_st (st' := [.int (15 : Int32), .int p0, .ref (ad b23)]) (by rw [va_some ho23]) ?_
    obtain ⟨y24, hy24, hF⟩ := bnd_some hF
    have hf9 := wA_in hD hA9 hS
    refine va_calli (va_runV (As := [.int p0, .int (15 : Int32)]) (rest := []) ⟨hx, hb, hml, hown, hts⟩ (kX9_direct l D ct ad Z G M12 H.size b23 p0 ((15 : Int32)) y24 hc23 hk23 hy24) (cwV 2 hts gX1_readSkipped_X9_direct rfl rfl rfl (by decide +kernel) ⟨Nat.le_of_ble_eq_true rfl, Nat.le_of_ble_eq_true rfl⟩) ⟨fun a U g mk q => by obtain ⟨q0, q1, qP, qK, qD, qZ, qN⟩ := q; exact ⟨q0, q1, qP, va_K.moved (u := U) (U := U.calling g mk a) (Vm.Alike.refl U.vm) qK, qD, sF.moved (u := U) (U := U.calling g mk a) (Vm.Alike.refl U.vm) qZ, nF.same rfl qN⟩, va_recv hK hP (ci := 9) (q0 := b23) rfl (wld_o ct ad G M12 hc23 hk23 (by decide)), fun U hU hW => ⟨rfl, by rw [hU], by rw [hU]; exact hP, va_K.moved hW.alike hK, hD.weaken (fun _ _ _ _ => trivial), by rw [hU]; exact ((hZ.kept hS.2.1).narrow hf9).moved hW.alike, hN.warm hW⟩⟩ rfl rfl hl.1 rfl (lv_room (Nat.le_of_ble_eq_true rfl)) dX1_readSkipped_58 ⟨(Nat.zero_le _), (Nat.zero_le _)⟩) hS (fun q _ h => hf9 q h) hf9 (fun r u t H locs ht hvm hw hB hz1 hk1 hS => ?_)
    obtain ⟨hP, hK9, hD9⟩ := hB
    rw [ht] at hP
    try dsimp only at hw
    subst hw
    have hD := hD9.weaken (fun _ q _ h => hf9 q.1 h)
    obtain ⟨y25, hy25, hF⟩ := bnd_some hF
    have J25 : ∀ (H : Heap) (locs : List Loc) (ls : Array Slot), va_P D classes (wld ct ad G y25) H → va_D A (wld ct ad G y25) → va_S A s.heap H locs → lv_has ls 2 [(0, .ref (ad a)), (1, .int p0)] → W p l e (headSpec wsX1_readSkipped ({ frames := 4, cells := 0, slots := 0, locals := 113 })).room s m ([.ref (ad a), .int p0] : List Value).toArray below meth c H locs 0 0 (MQ below (va_Qv (fun (_ : Unit) => True) (fun _ t => kE D ct ad G A y t) A) ([.ref (ad a), .int p0] : List Value).toArray s 0 0 A) (F0 m 72 ls []) := by
      intro H locs ls hP hD hS hl
      obtain rfl := Option.some.inj hF
      exact W.vret hx hb hr (fun t ht hW => ⟨⟨(), rfl, trivial, ⟨by rw [ht]; exact hP, va_K.moved hW.alike hK, hD⟩⟩, hS.F ht⟩) hS.2.2 dX1_readSkipped_72
    clear hF
    have hF := hy25
    clear hy25
    refine lv_if_ne (tgt := 72) hx hb dX1_readSkipped_61 (by decide) (fun c26 => ?_) (fun c26 => ?_)
    · rw [if_neg c26] at hF
      obtain rfl := Option.some.inj hF
      exact J25 _ _ _ hP hD hS (lv_sub hl [0, 1] rfl)
    · rw [if_pos c26] at hF
      refine lv_aload_n hx hb dX1_readSkipped_64 rfl (lv_at hl 0 rfl) ?_
      refine va_get (D := D) (ci := 1) (v := va_re ad (y24.1.2 a 0)) (C := RX1) (T := TX1) (N := 22) hx hb hts (by decide +kernel) hown hK hP a (wld_o ct ad G y24.1 hc hk (by decide)) rfl 0 (by decide) (hts (.fieldLink RX1 12 "VideoSuite$Decoder" "reader" "LVideoSuite$Reader;") (by decide +kernel)) (fun _ h9 => h9) rfl dX1_readSkipped_65 ?_
      refine lv_iconst (v := (4 : Int32)) hx hb dX1_readSkipped_68 (by decide) ?_
      cases hF
