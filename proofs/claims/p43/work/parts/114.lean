set_option maxRecDepth 20000 in
theorem gX2_mend_X4_blocks : GoodIn wuX2_mend (wsV RX2 21 RX4 yX4_blocks wuX4_blocks) := gu_V mw_910 mw_911 mw_912 mw_185 mw_913
set_option maxRecDepth 20000 in
theorem dX2_mend_0 : decode cX2_mend 0 = .ok (.iconst 0, 1) := by decide +kernel
theorem dX2_mend_1 : decode cX2_mend 1 = .ok (.istore 4, 2) := by decide +kernel
theorem dX2_mend_3 : decode cX2_mend 3 = .ok (.iconst 0, 1) := by decide +kernel
theorem dX2_mend_4 : decode cX2_mend 4 = .ok (.istore 5, 2) := by decide +kernel
theorem dX2_mend_6 : decode cX2_mend 6 = .ok (.iload 5, 2) := by decide +kernel
theorem dX2_mend_8 : decode cX2_mend 8 = .ok (.aload_n 1, 1) := by decide +kernel
theorem dX2_mend_9 : decode cX2_mend 9 = .ok (.getfield 15, 3) := by decide +kernel
theorem dX2_mend_12 : decode cX2_mend 12 = .ok (.invokevirtual 21, 3) := by decide +kernel
theorem dX2_mend_15 : decode cX2_mend 15 = .ok (.if_icmp .ge 121, 3) := by decide +kernel
theorem dX2_mend_18 : decode cX2_mend 18 = .ok (.aload_n 1, 1) := by decide +kernel
theorem dX2_mend_19 : decode cX2_mend 19 = .ok (.getfield 27, 3) := by decide +kernel
theorem dX2_mend_22 : decode cX2_mend 22 = .ok (.bipush 8, 2) := by decide +kernel
theorem dX2_mend_24 : decode cX2_mend 24 = .ok (.iload 5, 2) := by decide +kernel
theorem dX2_mend_26 : decode cX2_mend 26 = .ok (.imul, 1) := by decide +kernel
theorem dX2_mend_27 : decode cX2_mend 27 = .ok (.iconst 0, 1) := by decide +kernel
theorem dX2_mend_28 : decode cX2_mend 28 = .ok (.iadd, 1) := by decide +kernel
theorem dX2_mend_29 : decode cX2_mend 29 = .ok (.iaload, 1) := by decide +kernel
theorem dX2_mend_30 : decode cX2_mend 30 = .ok (.iconst (-1), 1) := by decide +kernel
theorem dX2_mend_31 : decode cX2_mend 31 = .ok (.if_icmp .eq 6, 3) := by decide +kernel
theorem dX2_mend_34 : decode cX2_mend 34 = .ok (.goto 96, 3) := by decide +kernel
theorem dX2_mend_37 : decode cX2_mend 37 = .ok (.aload_n 1, 1) := by decide +kernel
theorem dX2_mend_38 : decode cX2_mend 38 = .ok (.getfield 27, 3) := by decide +kernel
theorem dX2_mend_41 : decode cX2_mend 41 = .ok (.bipush 8, 2) := by decide +kernel
theorem dX2_mend_43 : decode cX2_mend 43 = .ok (.iload 5, 2) := by decide +kernel
theorem dX2_mend_45 : decode cX2_mend 45 = .ok (.imul, 1) := by decide +kernel
theorem dX2_mend_46 : decode cX2_mend 46 = .ok (.iconst 0, 1) := by decide +kernel
theorem dX2_mend_47 : decode cX2_mend 47 = .ok (.iadd, 1) := by decide +kernel
theorem dX2_mend_48 : decode cX2_mend 48 = .ok (.iconst 4, 1) := by decide +kernel
theorem dX2_mend_49 : decode cX2_mend 49 = .ok (.iastore, 1) := by decide +kernel
theorem dX2_mend_50 : decode cX2_mend 50 = .ok (.iinc 4 1, 3) := by decide +kernel
theorem dX2_mend_53 : decode cX2_mend 53 = .ok (.aload_n 0, 1) := by decide +kernel
theorem dX2_mend_54 : decode cX2_mend 54 = .ok (.iconst 0, 1) := by decide +kernel
theorem dX2_mend_55 : decode cX2_mend 55 = .ok (.putfield 30, 3) := by decide +kernel
theorem dX2_mend_58 : decode cX2_mend 58 = .ok (.aload_n 0, 1) := by decide +kernel
theorem dX2_mend_59 : decode cX2_mend 59 = .ok (.iconst 0, 1) := by decide +kernel
theorem dX2_mend_60 : decode cX2_mend 60 = .ok (.putfield 34, 3) := by decide +kernel
theorem dX2_mend_63 : decode cX2_mend 63 = .ok (.iload_n 3, 1) := by decide +kernel
theorem dX2_mend_64 : decode cX2_mend 64 = .ok (.iconst 3, 1) := by decide +kernel
theorem dX2_mend_65 : decode cX2_mend 65 = .ok (.if_icmp .ne 10, 3) := by decide +kernel
theorem dX2_mend_68 : decode cX2_mend 68 = .ok (.aload_n 0, 1) := by decide +kernel
theorem dX2_mend_69 : decode cX2_mend 69 = .ok (.aload_n 1, 1) := by decide +kernel
theorem dX2_mend_70 : decode cX2_mend 70 = .ok (.iload 5, 2) := by decide +kernel
theorem dX2_mend_72 : decode cX2_mend 72 = .ok (.invokevirtual 37, 3) := by decide +kernel
theorem dX2_mend_75 : decode cX2_mend 75 = .ok (.iconst 0, 1) := by decide +kernel
theorem dX2_mend_76 : decode cX2_mend 76 = .ok (.istore 6, 2) := by decide +kernel
theorem dX2_mend_78 : decode cX2_mend 78 = .ok (.iload 6, 2) := by decide +kernel
theorem dX2_mend_80 : decode cX2_mend 80 = .ok (.iconst 3, 1) := by decide +kernel
theorem dX2_mend_81 : decode cX2_mend 81 = .ok (.if_icmp .ge 49, 3) := by decide +kernel
theorem dX2_mend_84 : decode cX2_mend 84 = .ok (.iload_n 3, 1) := by decide +kernel
theorem dX2_mend_85 : decode cX2_mend 85 = .ok (.iconst 2, 1) := by decide +kernel
theorem dX2_mend_86 : decode cX2_mend 86 = .ok (.if_icmp .ne 17, 3) := by decide +kernel
theorem dX2_mend_89 : decode cX2_mend 89 = .ok (.aload_n 1, 1) := by decide +kernel
theorem dX2_mend_90 : decode cX2_mend 90 = .ok (.getfield 15, 3) := by decide +kernel
theorem dX2_mend_93 : decode cX2_mend 93 = .ok (.iload 5, 2) := by decide +kernel
theorem dX2_mend_95 : decode cX2_mend 95 = .ok (.iload 6, 2) := by decide +kernel
theorem dX2_mend_97 : decode cX2_mend 97 = .ok (.invokestatic 41, 3) := by decide +kernel
theorem dX2_mend_100 : decode cX2_mend 100 = .ok (.goto 24, 3) := by decide +kernel
theorem dX2_mend_103 : decode cX2_mend 103 = .ok (.aload_n 0, 1) := by decide +kernel
theorem dX2_mend_104 : decode cX2_mend 104 = .ok (.aload_n 1, 1) := by decide +kernel
theorem dX2_mend_105 : decode cX2_mend 105 = .ok (.getfield 15, 3) := by decide +kernel
theorem dX2_mend_108 : decode cX2_mend 108 = .ok (.iload 5, 2) := by decide +kernel
theorem dX2_mend_110 : decode cX2_mend 110 = .ok (.iload 6, 2) := by decide +kernel
theorem dX2_mend_112 : decode cX2_mend 112 = .ok (.iload_n 3, 1) := by decide +kernel
theorem dX2_mend_113 : decode cX2_mend 113 = .ok (.ifCond .ne 7, 3) := by decide +kernel
theorem dX2_mend_116 : decode cX2_mend 116 = .ok (.aconst_null, 1) := by decide +kernel
theorem dX2_mend_117 : decode cX2_mend 117 = .ok (.goto 4, 3) := by decide +kernel
theorem dX2_mend_120 : decode cX2_mend 120 = .ok (.aload_n 2, 1) := by decide +kernel
theorem dX2_mend_121 : decode cX2_mend 121 = .ok (.invokevirtual 45, 3) := by decide +kernel
theorem dX2_mend_124 : decode cX2_mend 124 = .ok (.iinc 6 1, 3) := by decide +kernel
theorem dX2_mend_127 : decode cX2_mend 127 = .ok (.goto (-49), 3) := by decide +kernel
theorem dX2_mend_130 : decode cX2_mend 130 = .ok (.iinc 5 1, 3) := by decide +kernel
theorem dX2_mend_133 : decode cX2_mend 133 = .ok (.goto (-127), 3) := by decide +kernel
theorem dX2_mend_136 : decode cX2_mend 136 = .ok (.iload 4, 2) := by decide +kernel
theorem dX2_mend_138 : decode cX2_mend 138 = .ok (.ireturn, 1) := by decide +kernel
def FX2_mend (G : GG) (M : DD) (a : Nat) (p0 : Option Nat) (p1 : Option Nat) (p2 : Int32) : Option (DD × Int32) :=
  bnd (itr (fun (s2 : Int32 × Int32 × DD) => ((dr G 9 p0 fun b5 =>
  dr G 4 ((s2.2.2.2 b5 0)) fun b6 =>
  bnd (FX4_blocks G s2.2.2 b6) fun y7 =>
  if y7.2 ≤ s2.2.1 then (some (.inr (s2.1, s2.2.1, y7.1))) else
  (ltt ((((8 : Int32)) * s2.2.1)) fun x9 =>
  ltt ((x9 + ((0 : Int32)))) fun x10 =>
  dr G 13 ((y7.1.2 b5 6)) fun b11 =>
  chk (¬ (x10 < 0 ∨ G.2.2 b11 ≤ x10.toNatClampNeg)) <|
  ltt (y7.1.1 b11 x10.toNatClampNeg) fun x12 =>
  bnd (if x12 = ((-1 : Int32)) then (ltt ((((8 : Int32)) * s2.2.1)) fun x16 =>
  ltt ((x16 + ((0 : Int32)))) fun x17 =>
  chk (¬ (x17 < 0 ∨ G.2.2 b11 ≤ x17.toNatClampNeg)) <|
  ltt (uI y7.1 b11 x17.toNatClampNeg ((4 : Int32))) fun M18 =>
  ltt (s2.1 + (1 : Int32)) fun x19 =>
  ltt (uI M18 a 5 ((0 : Int32))) fun M20 =>
  ltt (uI M20 a 6 ((0 : Int32))) fun M21 =>
  bnd (if p2 = ((3 : Int32)) then (none) else
  (some (M21))) fun (y22 : DD) =>
  bnd (itr (fun (s24 : DD) => ((if ((3 : Int32)) ≤ ((0 : Int32)) then (some (.inr (s24))) else
  (if p2 = ((2 : Int32)) then (none) else
  (bnd (if p2 = ((0 : Int32)) then (some (none)) else
  (some (p1))) fun (y29 : Option Nat) =>
  none))) : Option ((DD) ⊕ (DD)))) 1000000 (y22)) fun (y23 : DD) =>
  some (x19, y23)) else
  (some (s2.1, y7.1))) fun (y13 : Int32 × DD) =>
  ltt (s2.2.1 + (1 : Int32)) fun x14 =>
  some (.inl (y13.1, x14, y13.2)))) : Option ((Int32 × Int32 × DD) ⊕ (Int32 × Int32 × DD)))) 1000000 ((0 : Int32), (0 : Int32), M)) fun (y1 : Int32 × Int32 × DD) =>
  some (y1.2.2, y1.1)
set_option maxHeartbeats 4000000 in
set_option maxRecDepth 100000 in
theorem kX2_mend (l : Launch) (D : va_G) (ct : CT) (ad : Nat → Nat) (Z : Nat → Nat) (G : GG) (M : DD) (sz : Nat) (a : Nat) (p0 : Option Nat) (p1 : Option Nat) (p2 : Int32) (y : DD × Int32) (hc : a < G.1) (hk : G.2.1 a = 2) (hF : FX2_mend G M a p0 p1 p2 = some y) : Met l yX2_mend wuX2_mend ({ frames := 1, cells := 0, slots := 0, locals := 20 }) (va_Pc [.ref (ad a), va_re ad p0, va_re ad p1, .int p2] (kB D ct ad Z G M sz)) (va_Qi (fun (q : Int32) (_ : Unit) => q = y.2) (fun _ t => kE D ct ad G (wA ad G sz) y.1 t) (wA ad G sz)) 0 0 (wA ad G sz) := by
  refine Met.ofW (cc := cX2_mend) (maxL := 7) (ret := (some .int)) (by decide) rfl ?_
  intro p e s m args below meth c s₁ B hml hv
  obtain ⟨rfl, hsz, hP, hK, hD0, hZ, hN⟩ := hv
  have hx := B.exec
  have hb := B.bytes
  have hr := B.returns
  have hts := atoms_spec (ws := wuX2_mend) B.pre
  have hown : s.vm.findClass RX2 = some m.cls := findClass_of_methodNamed B.named
  have hlocks := B.notSynchronized
  subst hsz
  have hD := wD_self (sz := s.heap.size) hD0
  have hA9 : ∀ q, s.heap.size ≤ q → wA ad G s.heap.size q := fun q h => Or.inr h
  generalize hAe : wA ad G s.heap.size = A at hD hA9 hZ ⊢
  have hS : va_S A s.heap s.heap [] := va_S.rf
  have hl := lv_entry ([.ref (ad a), va_re ad p0, va_re ad p1, .int p2]) (n := 7) (by cases p0 <;> cases p1 <;> exact Nat.le_of_ble_eq_true rfl)
  rw [lg_entry_eq]
  generalize (lg_sl ([.ref (ad a), va_re ad p0, va_re ad p1, .int p2]) ++ List.replicate (7 - (lg_sl ([.ref (ad a), va_re ad p0, va_re ad p1, .int p2])).length) Slot.unset).toArray = ls at hl ⊢
  have hl : lv_has ls 7 [(0, .ref (ad a)), (1, va_re ad p0), (2, va_re ad p1), (3, .int p2)] := by have e9 : lv_args 0 [.ref (ad a), va_re ad p0, va_re ad p1, .int p2] = [(0, .ref (ad a)), (1, va_re ad p0), (2, va_re ad p1), (3, .int p2)] := (by cases p0 <;> cases p1 <;> rfl); rw [e9] at hl; exact hl
  unfold FX2_mend at hF
  refine lv_iconst (v := (0 : Int32)) hx hb dX2_mend_0 (by decide) ?_
  refine lv_istore (lv' := [(4, .int (0 : Int32)), (0, .ref (ad a)), (1, va_re ad p0), (2, va_re ad p1), (3, .int p2)]) hx hb dX2_mend_1 hl (by decide) rfl (fun ls hl => ?_)
  refine lv_iconst (v := (0 : Int32)) hx hb dX2_mend_3 (by decide) ?_
  refine lv_istore (lv' := [(5, .int (0 : Int32)), (4, .int (0 : Int32)), (0, .ref (ad a)), (1, va_re ad p0), (2, va_re ad p1), (3, .int p2)]) hx hb dX2_mend_4 hl (by decide) rfl (fun ls hl => ?_)
  obtain ⟨y1, hy1, hF⟩ := bnd_some hF
  have K1 : ∀ (H : Heap) (locs : List Loc) (ls : Array Slot), va_P D classes (wld ct ad G y1.2.2) H → va_D A (wld ct ad G y1.2.2) → va_S A s.heap H locs → lv_has ls 7 [(5, .int y1.2.1), (4, .int y1.1), (0, .ref (ad a)), (1, va_re ad p0), (2, va_re ad p1), (3, .int p2)] → W p l e (headSpec wuX2_mend ({ frames := 1, cells := 0, slots := 0, locals := 20 })).room s m ([.ref (ad a), va_re ad p0, va_re ad p1, .int p2] : List Value).toArray below meth c H locs 0 0 (MQ below (va_Qi (fun (q : Int32) (_ : Unit) => q = y.2) (fun _ t => kE D ct ad G A y.1 t) A) ([.ref (ad a), va_re ad p0, va_re ad p1, .int p2] : List Value).toArray s 0 0 A) (F0 m 136 ls []) := by
    intro H locs ls hP hD hS hl
    refine lv_iload hx hb dX2_mend_136 (lv_at hl 1 rfl) ?_
    obtain rfl := Option.some.inj hF
    exact W.iret (v := y1.1) hx hb hr (fun t ht hW => ⟨⟨_, (), rfl, rfl, ⟨by rw [ht]; exact hP, va_K.moved hW.alike hK, hD⟩⟩, hS.F ht⟩) hS.2.2 dX2_mend_138
  clear hF
  refine itr_rule (fun (s2 : Int32 × Int32 × DD) => ∀ (H : Heap) (locs : List Loc) (ls : Array Slot), va_P D classes (wld ct ad G s2.2.2) H → va_D A (wld ct ad G s2.2.2) → va_S A s.heap H locs → lv_has ls 7 [(5, .int s2.2.1), (4, .int s2.1), (0, .ref (ad a)), (1, va_re ad p0), (2, va_re ad p1), (3, .int p2)] → W p l e (headSpec wuX2_mend ({ frames := 1, cells := 0, slots := 0, locals := 20 })).room s m ([.ref (ad a), va_re ad p0, va_re ad p1, .int p2] : List Value).toArray below meth c H locs 0 0 (MQ below (va_Qi (fun (q : Int32) (_ : Unit) => q = y.2) (fun _ t => kE D ct ad G A y.1 t) A) ([.ref (ad a), va_re ad p0, va_re ad p1, .int p2] : List Value).toArray s 0 0 A) (F0 m 6 ls [])) ?_ _ _ hy1 _ _ _ hP hD hS (lv_sub hl [0, 1, 2, 3, 4, 5] rfl)
  rintro s2 ⟨z4, hF, hwz4⟩ H locs ls hP hD hS hl
  try dsimp only at hF
  refine lv_iload hx hb dX2_mend_6 (lv_at hl 0 rfl) ?_
  refine lv_aloadq_n hx hb dX2_mend_8 rfl (lv_at hl 3 rfl) ?_
  obtain ⟨b5, ho5, hc5, hk5, hF⟩ := dr_some hF
  refine W_st (st' := [.ref (ad b5), .int s2.2.1]) (by rw [va_some ho5]) ?_
  refine va_get (D := D) (ci := 9) (v := va_re ad (s2.2.2.2 b5 0)) (C := RX9) (T := TX9) (N := 20) hx hb hts (mus hf_X9) hown hK hP b5 (wld_o ct ad G s2.2.2 hc5 hk5 (by decide)) rfl 0 (by decide) (hts (.fieldLink RX2 15 "VideoSuite$Work" "pic" "LVideoSuite$Picture;") (mu mw_419)) (fun _ h9 => h9) rfl dX2_mend_9 ?_
  obtain ⟨b6, ho6, hc6, hk6, hF⟩ := dr_some hF
  refine W_st (st' := [.ref (ad b6), .int s2.2.1]) (by rw [va_some ho6]) ?_
  obtain ⟨y7, hy7, hF⟩ := bnd_some hF
  have hf9 := wA_in hD hA9 hS
  refine va_calli (va_runV (As := []) (rest := [.int s2.2.1]) ⟨hx, hb, hml, hown, hts⟩ (kX4_blocks l D ct ad Z G s2.2.2 H.size b6 y7 hc6 hk6 hy7) (cwV 0 hts gX2_mend_X4_blocks rfl rfl rfl (by decide +kernel) ⟨Nat.le_of_ble_eq_true rfl, Nat.le_of_ble_eq_true rfl⟩) ⟨fun a U g mk q => by obtain ⟨q0, q1, qP, qK, qD, qZ, qN⟩ := q; exact ⟨q0, q1, qP, va_K.moved (u := U) (U := U.calling g mk a) (Vm.Alike.refl U.vm) qK, qD, sF.moved (u := U) (U := U.calling g mk a) (Vm.Alike.refl U.vm) qZ, nF.same rfl qN⟩, va_recv hK hP (ci := 4) (q0 := b6) rfl (wld_o ct ad G s2.2.2 hc6 hk6 (by decide)), fun U hU hW => ⟨rfl, by rw [hU], by rw [hU]; exact hP, va_K.moved hW.alike hK, hD.weaken (fun _ _ _ _ => trivial), by rw [hU]; exact ((hZ.kept hS.2.1).narrow hf9).moved hW.alike, hN.warm hW⟩⟩ rfl rfl hl.1 rfl (lv_room (Nat.le_of_ble_eq_true rfl)) dX2_mend_12 ⟨(Nat.zero_le _), (Nat.zero_le _)⟩) hS (fun q _ h => hf9 q h) hf9 (fun r u t H locs ht hvm hw hB hz1 hk1 hS => ?_)
  obtain ⟨hP, hK9, hD9⟩ := hB
  rw [ht] at hP
  try dsimp only at hw
  subst hw
  have hD := hD9.weaken (fun _ q _ h => hf9 q.1 h)
  refine lv_icmp_ge (tgt := 136) hx hb dX2_mend_15 (by decide) (fun c8 => ?_) (fun c8 => ?_)
  · rw [if_pos c8] at hF
    obtain rfl := Option.some.inj hF
    subst hwz4
    exact K1 _ _ _ hP hD hS (lv_sub hl [0, 1, 2, 3, 4, 5] rfl)
  · rw [if_neg c8] at hF
    refine lv_aloadq_n hx hb dX2_mend_18 rfl (lv_at hl 3 rfl) ?_
    refine W_st (st' := [.ref (ad b5)]) (by rw [va_some ho5]) ?_
    refine va_get (D := D) (ci := 9) (v := va_re ad (y7.1.2 b5 6)) (C := RX9) (T := TX9) (N := 20) hx hb hts (mus hf_X9) hown hK hP b5 (wld_o ct ad G y7.1 hc5 hk5 (by decide)) rfl 6 (by decide) (hts (.fieldLink RX2 27 "VideoSuite$Work" "info" "[I") (mu mw_443)) (fun _ h9 => h9) rfl dX2_mend_19 ?_
    refine lv_bipush (v := (8 : Int32)) hx hb dX2_mend_22 (by decide) ?_
    refine lv_iload hx hb dX2_mend_24 (lv_at hl 0 rfl) ?_
    refine lv_imul hx hb dX2_mend_26 ?_
    obtain ⟨x9, ex9, hF⟩ := ltt_some hF
    refine lv_topi (fun zx9 ezx9 => ?_)
    obtain rfl : x9 = zx9 := ex9.trans ezx9.symm
    refine lv_iconst (v := (0 : Int32)) hx hb dX2_mend_27 (by decide) ?_
    refine lv_iadd hx hb dX2_mend_28 ?_
    obtain ⟨x10, ex10, hF⟩ := ltt_some hF
    refine lv_topi (fun zx10 ezx10 => ?_)
    obtain rfl : x10 = zx10 := ex10.trans ezx10.symm
    obtain ⟨b11, ho11, hc11, hk11, hF⟩ := dr_some hF
    refine W_st (st' := [.int x10, .ref (ad b11)]) (by rw [va_some ho11]) ?_
    obtain ⟨hvc, hF⟩ := chk_some hF
    refine va_iald hx hb hK hP b11 1 (wld_i ct ad G y7.1 hc11 hk11) rfl hvc dX2_mend_29 ?_
    obtain ⟨x12, ex12, hF⟩ := ltt_some hF
    refine lv_topi (fun zx12 ezx12 => ?_)
    obtain rfl : x12 = zx12 := ex12.trans ezx12.symm
    refine lv_iconst (v := (-1 : Int32)) hx hb dX2_mend_30 (by decide) ?_
    obtain ⟨y13, hy13, hF⟩ := bnd_some hF
    have J13 : ∀ (H : Heap) (locs : List Loc) (ls : Array Slot), va_P D classes (wld ct ad G y13.2) H → va_D A (wld ct ad G y13.2) → va_S A s.heap H locs → lv_has ls 7 [(5, .int s2.2.1), (4, .int y13.1), (0, .ref (ad a)), (1, va_re ad p0), (2, va_re ad p1), (3, .int p2)] → W p l e (headSpec wuX2_mend ({ frames := 1, cells := 0, slots := 0, locals := 20 })).room s m ([.ref (ad a), va_re ad p0, va_re ad p1, .int p2] : List Value).toArray below meth c H locs 0 0 (MQ below (va_Qi (fun (q : Int32) (_ : Unit) => q = y.2) (fun _ t => kE D ct ad G A y.1 t) A) ([.ref (ad a), va_re ad p0, va_re ad p1, .int p2] : List Value).toArray s 0 0 A) (F0 m 130 ls []) := by
      intro H locs ls hP hD hS hl
      obtain ⟨x14, ex14, hF⟩ := ltt_some hF
      refine lv_iinc (v := x14) (lv' := [(5, .int x14), (4, .int y13.1), (0, .ref (ad a)), (1, va_re ad p0), (2, va_re ad p1), (3, .int p2)]) hx hb dX2_mend_130 hl (k := 0) rfl (by rw [ex14]; rfl) (by decide) rfl (fun ls hl => ?_)
      refine lv_goto (tgt := 6) hx hb dX2_mend_133 (by decide) ?_
      obtain rfl := Option.some.inj hF
      exact hwz4 _ _ _ hP hD hS (lv_sub hl [0, 1, 2, 3, 4, 5] rfl)
    clear hF
    have hF := hy13
    clear hy13
    refine lv_icmp_eq (tgt := 37) hx hb dX2_mend_31 (by decide) (fun c15 => ?_) (fun c15 => ?_)
    · rw [if_pos c15] at hF
      refine lv_aloadq_n hx hb dX2_mend_37 rfl (lv_at hl 3 rfl) ?_
      refine W_st (st' := [.ref (ad b5)]) (by rw [va_some ho5]) ?_
      refine va_get (D := D) (ci := 9) (v := va_re ad (y7.1.2 b5 6)) (C := RX9) (T := TX9) (N := 20) hx hb hts (mus hf_X9) hown hK hP b5 (wld_o ct ad G y7.1 hc5 hk5 (by decide)) rfl 6 (by decide) (hts (.fieldLink RX2 27 "VideoSuite$Work" "info" "[I") (mu mw_443)) (fun _ h9 => h9) rfl dX2_mend_38 ?_
      refine lv_bipush (v := (8 : Int32)) hx hb dX2_mend_41 (by decide) ?_
      refine lv_iload hx hb dX2_mend_43 (lv_at hl 0 rfl) ?_
      refine lv_imul hx hb dX2_mend_45 ?_
      obtain ⟨x16, ex16, hF⟩ := ltt_some hF
      refine lv_topi (fun zx16 ezx16 => ?_)
      obtain rfl : x16 = zx16 := ex16.trans ezx16.symm
      refine lv_iconst (v := (0 : Int32)) hx hb dX2_mend_46 (by decide) ?_
      refine lv_iadd hx hb dX2_mend_47 ?_
      obtain ⟨x17, ex17, hF⟩ := ltt_some hF
      refine lv_topi (fun zx17 ezx17 => ?_)
      obtain rfl : x17 = zx17 := ex17.trans ezx17.symm
      refine lv_iconst (v := (4 : Int32)) hx hb dX2_mend_48 (by decide) ?_
      refine W_st (st' := [.int (4 : Int32), .int x17, .ref (ad b11)]) (by rw [va_some ho11]) ?_
      obtain ⟨hvc, hF⟩ := chk_some hF
      refine va_iast hx hb hK hP hD hS b11 1 (wld_i ct ad G y7.1 hc11 hk11) rfl hvc dX2_mend_49 (fun H locs hP hD hS => ?_)
      obtain ⟨M18, eM18, hF⟩ := ltt_some hF
      rw [set_i ct ad G y7.1 hc11 hk11, ← eM18] at hP hD
      obtain ⟨x19, ex19, hF⟩ := ltt_some hF
      refine lv_iinc (v := x19) (lv' := [(4, .int x19), (5, .int s2.2.1), (0, .ref (ad a)), (1, va_re ad p0), (2, va_re ad p1), (3, .int p2)]) hx hb dX2_mend_50 hl (k := 1) rfl (by rw [ex19]; rfl) (by decide) rfl (fun ls hl => ?_)
      refine lv_aload_n hx hb dX2_mend_53 rfl (lv_at hl 2 rfl) ?_
      refine lv_iconst (v := (0 : Int32)) hx hb dX2_mend_54 (by decide) ?_
      refine va_put (D := D) (ci := 2) (v := .int (0 : Int32)) (ty := .int) (C := RX2) (T := TX2) (N := 7) hx hb hts (mus hf_X2) tyX2 tyX2_ok nmX2 hown hK hP hD hS a (wld_o ct ad G M18 hc hk (by decide)) rfl 5 (by decide) (hts (.fieldLink RX2 30 "VideoSuite$Edges" "mendX" "I") (mu mw_591)) (fun _ h9 => h9) rfl (by decide +kernel) rfl rfl (Nat.le_of_ble_eq_true rfl) dX2_mend_55 (fun H locs hP hD hS => ?_)
      obtain ⟨M20, eM20, hF⟩ := ltt_some hF
      rw [set_oI ct ad G M18 hc hk (by decide) (by rfl), ← eM20] at hP hD
      refine lv_aload_n hx hb dX2_mend_58 rfl (lv_at hl 2 rfl) ?_
      refine lv_iconst (v := (0 : Int32)) hx hb dX2_mend_59 (by decide) ?_
      refine va_put (D := D) (ci := 2) (v := .int (0 : Int32)) (ty := .int) (C := RX2) (T := TX2) (N := 7) hx hb hts (mus hf_X2) tyX2 tyX2_ok nmX2 hown hK hP hD hS a (wld_o ct ad G M20 hc hk (by decide)) rfl 6 (by decide) (hts (.fieldLink RX2 34 "VideoSuite$Edges" "mendY" "I") (mu mw_592)) (fun _ h9 => h9) rfl (by decide +kernel) rfl rfl (Nat.le_of_ble_eq_true rfl) dX2_mend_60 (fun H locs hP hD hS => ?_)
      obtain ⟨M21, eM21, hF⟩ := ltt_some hF
      rw [set_oI ct ad G M20 hc hk (by decide) (by rfl), ← eM21] at hP hD
      refine lv_iload_n hx hb dX2_mend_63 rfl (lv_at hl 5 rfl) ?_
      refine lv_iconst (v := (3 : Int32)) hx hb dX2_mend_64 (by decide) ?_
      obtain ⟨y22, hy22, hF⟩ := bnd_some hF
      have J22 : ∀ (H : Heap) (locs : List Loc) (ls : Array Slot), va_P D classes (wld ct ad G y22) H → va_D A (wld ct ad G y22) → va_S A s.heap H locs → lv_has ls 7 [(4, .int x19), (5, .int s2.2.1), (0, .ref (ad a)), (1, va_re ad p0), (2, va_re ad p1), (3, .int p2)] → W p l e (headSpec wuX2_mend ({ frames := 1, cells := 0, slots := 0, locals := 20 })).room s m ([.ref (ad a), va_re ad p0, va_re ad p1, .int p2] : List Value).toArray below meth c H locs 0 0 (MQ below (va_Qi (fun (q : Int32) (_ : Unit) => q = y.2) (fun _ t => kE D ct ad G A y.1 t) A) ([.ref (ad a), va_re ad p0, va_re ad p1, .int p2] : List Value).toArray s 0 0 A) (F0 m 75 ls []) := by
        intro H locs ls hP hD hS hl
        refine lv_iconst (v := (0 : Int32)) hx hb dX2_mend_75 (by decide) ?_
        refine lv_istore (lv' := [(6, .int (0 : Int32)), (4, .int x19), (5, .int s2.2.1), (0, .ref (ad a)), (1, va_re ad p0), (2, va_re ad p1), (3, .int p2)]) hx hb dX2_mend_76 hl (by decide) rfl (fun ls hl => ?_)
        obtain ⟨y23, hy23, hF⟩ := bnd_some hF
        have K23 : ∀ (H : Heap) (locs : List Loc) (ls : Array Slot), va_P D classes (wld ct ad G y23) H → va_D A (wld ct ad G y23) → va_S A s.heap H locs → lv_has ls 7 [(6, .int (0 : Int32)), (4, .int x19), (5, .int s2.2.1), (0, .ref (ad a)), (1, va_re ad p0), (2, va_re ad p1), (3, .int p2)] → W p l e (headSpec wuX2_mend ({ frames := 1, cells := 0, slots := 0, locals := 20 })).room s m ([.ref (ad a), va_re ad p0, va_re ad p1, .int p2] : List Value).toArray below meth c H locs 0 0 (MQ below (va_Qi (fun (q : Int32) (_ : Unit) => q = y.2) (fun _ t => kE D ct ad G A y.1 t) A) ([.ref (ad a), va_re ad p0, va_re ad p1, .int p2] : List Value).toArray s 0 0 A) (F0 m 130 ls []) := by
          intro H locs ls hP hD hS hl
          obtain rfl := Option.some.inj hF
          exact J13 _ _ _ hP hD hS (lv_sub hl [2, 1, 3, 4, 5, 6] rfl)
        clear hF
        refine itr_rule (fun (s24 : DD) => ∀ (H : Heap) (locs : List Loc) (ls : Array Slot), va_P D classes (wld ct ad G s24) H → va_D A (wld ct ad G s24) → va_S A s.heap H locs → lv_has ls 7 [(6, .int (0 : Int32)), (4, .int x19), (5, .int s2.2.1), (0, .ref (ad a)), (1, va_re ad p0), (2, va_re ad p1), (3, .int p2)] → W p l e (headSpec wuX2_mend ({ frames := 1, cells := 0, slots := 0, locals := 20 })).room s m ([.ref (ad a), va_re ad p0, va_re ad p1, .int p2] : List Value).toArray below meth c H locs 0 0 (MQ below (va_Qi (fun (q : Int32) (_ : Unit) => q = y.2) (fun _ t => kE D ct ad G A y.1 t) A) ([.ref (ad a), va_re ad p0, va_re ad p1, .int p2] : List Value).toArray s 0 0 A) (F0 m 78 ls [])) ?_ _ _ hy23 _ _ _ hP hD hS (lv_sub hl [0, 1, 2, 3, 4, 5, 6] rfl)
        rintro s24 ⟨z26, hF, hwz26⟩ H locs ls hP hD hS hl
        try dsimp only at hF
        refine lv_iload hx hb dX2_mend_78 (lv_at hl 0 rfl) ?_
        refine lv_iconst (v := (3 : Int32)) hx hb dX2_mend_80 (by decide) ?_
        refine lv_icmp_ge (tgt := 130) hx hb dX2_mend_81 (by decide) (fun c27 => ?_) (fun c27 => ?_)
        · rw [if_pos c27] at hF
          obtain rfl := Option.some.inj hF
          subst hwz26
          exact K23 _ _ _ hP hD hS (lv_sub hl [0, 1, 2, 3, 4, 5, 6] rfl)
        · rw [if_neg c27] at hF
          refine lv_iload_n hx hb dX2_mend_84 rfl (lv_at hl 6 rfl) ?_
          refine lv_iconst (v := (2 : Int32)) hx hb dX2_mend_85 (by decide) ?_
          refine lv_icmp_ne (tgt := 103) hx hb dX2_mend_86 (by decide) (fun c28 => ?_) (fun c28 => ?_)
          · rw [if_neg c28] at hF
            refine lv_aload_n hx hb dX2_mend_103 rfl (lv_at hl 3 rfl) ?_
            refine lv_aloadq_n hx hb dX2_mend_104 rfl (lv_at hl 4 rfl) ?_
            refine W_st (st' := [.ref (ad b5), .ref (ad a)]) (by rw [va_some ho5]) ?_
            refine va_get (D := D) (ci := 9) (v := va_re ad (s24.2 b5 0)) (C := RX9) (T := TX9) (N := 20) hx hb hts (mus hf_X9) hown hK hP b5 (wld_o ct ad G s24 hc5 hk5 (by decide)) rfl 0 (by decide) (hts (.fieldLink RX2 15 "VideoSuite$Work" "pic" "LVideoSuite$Picture;") (mu mw_419)) (fun _ h9 => h9) rfl dX2_mend_105 ?_
            refine lv_iload hx hb dX2_mend_108 (lv_at hl 2 rfl) ?_
            refine lv_iload hx hb dX2_mend_110 (lv_at hl 0 rfl) ?_
            refine lv_iload_n hx hb dX2_mend_112 rfl (lv_at hl 6 rfl) ?_
            obtain ⟨y29, hy29, hF⟩ := bnd_some hF
            have J29 : ∀ (H : Heap) (locs : List Loc) (ls : Array Slot), va_P D classes (wld ct ad G s24) H → va_D A (wld ct ad G s24) → va_S A s.heap H locs → lv_has ls 7 [(6, .int (0 : Int32)), (4, .int x19), (5, .int s2.2.1), (0, .ref (ad a)), (1, va_re ad p0), (2, va_re ad p1), (3, .int p2)] → W p l e (headSpec wuX2_mend ({ frames := 1, cells := 0, slots := 0, locals := 20 })).room s m ([.ref (ad a), va_re ad p0, va_re ad p1, .int p2] : List Value).toArray below meth c H locs 0 0 (MQ below (va_Qi (fun (q : Int32) (_ : Unit) => q = y.2) (fun _ t => kE D ct ad G A y.1 t) A) ([.ref (ad a), va_re ad p0, va_re ad p1, .int p2] : List Value).toArray s 0 0 A) (F0 m 121 ls [va_re ad y29, .int (0 : Int32), .int s2.2.1, va_re ad (s24.2 b5 0), .ref (ad a)]) := by
              intro H locs ls hP hD hS hl
              cases hF
            clear hF
            have hF := hy29
            clear hy29
            refine lv_if_ne (tgt := 120) hx hb dX2_mend_113 (by decide) (fun c30 => ?_) (fun c30 => ?_)
            · rw [if_neg c30] at hF
              refine lv_aloadq_n hx hb dX2_mend_120 rfl (lv_at hl 5 rfl) ?_
              obtain rfl := Option.some.inj hF
              exact J29 _ _ _ hP hD hS (lv_sub hl [0, 1, 2, 3, 4, 5, 6] rfl)
            · rw [if_pos c30] at hF
              refine lv_nullq (ad := ad) hx hb dX2_mend_116 ?_
              refine lv_goto (tgt := 121) hx hb dX2_mend_117 (by decide) ?_
              obtain rfl := Option.some.inj hF
              exact J29 _ _ _ hP hD hS (lv_sub hl [0, 1, 2, 3, 4, 5, 6] rfl)
          · rw [if_pos c28] at hF
            refine lv_aloadq_n hx hb dX2_mend_89 rfl (lv_at hl 4 rfl) ?_
            refine W_st (st' := [.ref (ad b5)]) (by rw [va_some ho5]) ?_
            refine va_get (D := D) (ci := 9) (v := va_re ad (s24.2 b5 0)) (C := RX9) (T := TX9) (N := 20) hx hb hts (mus hf_X9) hown hK hP b5 (wld_o ct ad G s24 hc5 hk5 (by decide)) rfl 0 (by decide) (hts (.fieldLink RX2 15 "VideoSuite$Work" "pic" "LVideoSuite$Picture;") (mu mw_419)) (fun _ h9 => h9) rfl dX2_mend_90 ?_
            refine lv_iload hx hb dX2_mend_93 (lv_at hl 2 rfl) ?_
            refine lv_iload hx hb dX2_mend_95 (lv_at hl 0 rfl) ?_
            cases hF
      clear hF
      have hF := hy22
      clear hy22
      refine lv_icmp_ne (tgt := 75) hx hb dX2_mend_65 (by decide) (fun c31 => ?_) (fun c31 => ?_)
      · rw [if_neg c31] at hF
        obtain rfl := Option.some.inj hF
        exact J22 _ _ _ hP hD hS (lv_sub hl [0, 1, 2, 3, 4, 5] rfl)
      · rw [if_pos c31] at hF
        refine lv_aload_n hx hb dX2_mend_68 rfl (lv_at hl 2 rfl) ?_
        refine lv_aloadq_n hx hb dX2_mend_69 rfl (lv_at hl 3 rfl) ?_
        refine lv_iload hx hb dX2_mend_70 (lv_at hl 1 rfl) ?_
        cases hF
    · rw [if_neg c15] at hF
      refine lv_goto (tgt := 130) hx hb dX2_mend_34 (by decide) ?_
      obtain rfl := Option.some.inj hF
      exact J13 _ _ _ hP hD hS (lv_sub hl [0, 1, 2, 3, 4, 5] rfl)
set_option maxRecDepth 20000 in
theorem gX2_setThresholds_X11_clamp_n113 : GoodIn wuX2_setThresholds wuX11_clamp := gu_P mw_939
set_option maxRecDepth 20000 in
theorem gX2_setThresholds_X6_colourStep : GoodIn wuX2_setThresholds (va_wsS RX2 107 yX6_colourStep wuX6_colourStep) := gu_S mw_974 mw_975 mw_172 mw_976
set_option maxRecDepth 20000 in
theorem dX2_setThresholds_0 : decode cX2_setThresholds 0 = .ok (.aload_n 1, 1) := by decide +kernel
theorem dX2_setThresholds_1 : decode cX2_setThresholds 1 = .ok (.getfield 27, 3) := by decide +kernel
theorem dX2_setThresholds_4 : decode cX2_setThresholds 4 = .ok (.bipush 8, 2) := by decide +kernel
theorem dX2_setThresholds_6 : decode cX2_setThresholds 6 = .ok (.iload_n 2, 1) := by decide +kernel
theorem dX2_setThresholds_7 : decode cX2_setThresholds 7 = .ok (.imul, 1) := by decide +kernel
theorem dX2_setThresholds_8 : decode cX2_setThresholds 8 = .ok (.iconst 2, 1) := by decide +kernel
theorem dX2_setThresholds_9 : decode cX2_setThresholds 9 = .ok (.iadd, 1) := by decide +kernel
theorem dX2_setThresholds_10 : decode cX2_setThresholds 10 = .ok (.iaload, 1) := by decide +kernel
theorem dX2_setThresholds_11 : decode cX2_setThresholds 11 = .ok (.istore 5, 2) := by decide +kernel
theorem dX2_setThresholds_13 : decode cX2_setThresholds 13 = .ok (.aload_n 1, 1) := by decide +kernel
theorem dX2_setThresholds_14 : decode cX2_setThresholds 14 = .ok (.getfield 27, 3) := by decide +kernel
theorem dX2_setThresholds_17 : decode cX2_setThresholds 17 = .ok (.bipush 8, 2) := by decide +kernel
theorem dX2_setThresholds_19 : decode cX2_setThresholds 19 = .ok (.iload_n 3, 1) := by decide +kernel
theorem dX2_setThresholds_20 : decode cX2_setThresholds 20 = .ok (.imul, 1) := by decide +kernel
theorem dX2_setThresholds_21 : decode cX2_setThresholds 21 = .ok (.iconst 2, 1) := by decide +kernel
theorem dX2_setThresholds_22 : decode cX2_setThresholds 22 = .ok (.iadd, 1) := by decide +kernel
theorem dX2_setThresholds_23 : decode cX2_setThresholds 23 = .ok (.iaload, 1) := by decide +kernel
theorem dX2_setThresholds_24 : decode cX2_setThresholds 24 = .ok (.istore 6, 2) := by decide +kernel
theorem dX2_setThresholds_26 : decode cX2_setThresholds 26 = .ok (.iload 4, 2) := by decide +kernel
theorem dX2_setThresholds_28 : decode cX2_setThresholds 28 = .ok (.ifCond .le 31, 3) := by decide +kernel
theorem dX2_setThresholds_31 : decode cX2_setThresholds 31 = .ok (.iload 5, 2) := by decide +kernel
theorem dX2_setThresholds_33 : decode cX2_setThresholds 33 = .ok (.aload_n 1, 1) := by decide +kernel
theorem dX2_setThresholds_34 : decode cX2_setThresholds 34 = .ok (.getfield 104, 3) := by decide +kernel
theorem dX2_setThresholds_37 : decode cX2_setThresholds 37 = .ok (.bipush 8, 2) := by decide +kernel
theorem dX2_setThresholds_39 : decode cX2_setThresholds 39 = .ok (.iaload, 1) := by decide +kernel
theorem dX2_setThresholds_40 : decode cX2_setThresholds 40 = .ok (.invokestatic 107, 3) := by decide +kernel
theorem dX2_setThresholds_43 : decode cX2_setThresholds 43 = .ok (.istore 5, 2) := by decide +kernel
theorem dX2_setThresholds_45 : decode cX2_setThresholds 45 = .ok (.iload 6, 2) := by decide +kernel
theorem dX2_setThresholds_47 : decode cX2_setThresholds 47 = .ok (.aload_n 1, 1) := by decide +kernel
theorem dX2_setThresholds_48 : decode cX2_setThresholds 48 = .ok (.getfield 104, 3) := by decide +kernel
theorem dX2_setThresholds_51 : decode cX2_setThresholds 51 = .ok (.bipush 8, 2) := by decide +kernel
theorem dX2_setThresholds_53 : decode cX2_setThresholds 53 = .ok (.iaload, 1) := by decide +kernel
theorem dX2_setThresholds_54 : decode cX2_setThresholds 54 = .ok (.invokestatic 107, 3) := by decide +kernel
theorem dX2_setThresholds_57 : decode cX2_setThresholds 57 = .ok (.istore 6, 2) := by decide +kernel
theorem dX2_setThresholds_59 : decode cX2_setThresholds 59 = .ok (.iload 5, 2) := by decide +kernel
theorem dX2_setThresholds_61 : decode cX2_setThresholds 61 = .ok (.iload 6, 2) := by decide +kernel
theorem dX2_setThresholds_63 : decode cX2_setThresholds 63 = .ok (.iadd, 1) := by decide +kernel
theorem dX2_setThresholds_64 : decode cX2_setThresholds 64 = .ok (.iconst 1, 1) := by decide +kernel
theorem dX2_setThresholds_65 : decode cX2_setThresholds 65 = .ok (.iadd, 1) := by decide +kernel
theorem dX2_setThresholds_66 : decode cX2_setThresholds 66 = .ok (.iconst 1, 1) := by decide +kernel
theorem dX2_setThresholds_67 : decode cX2_setThresholds 67 = .ok (.ishr, 1) := by decide +kernel
theorem dX2_setThresholds_68 : decode cX2_setThresholds 68 = .ok (.istore 7, 2) := by decide +kernel
theorem dX2_setThresholds_70 : decode cX2_setThresholds 70 = .ok (.aload_n 0, 1) := by decide +kernel
theorem dX2_setThresholds_71 : decode cX2_setThresholds 71 = .ok (.iconst 0, 1) := by decide +kernel
theorem dX2_setThresholds_72 : decode cX2_setThresholds 72 = .ok (.bipush 51, 2) := by decide +kernel
theorem dX2_setThresholds_74 : decode cX2_setThresholds 74 = .ok (.iload 7, 2) := by decide +kernel
theorem dX2_setThresholds_76 : decode cX2_setThresholds 76 = .ok (.iconst 2, 1) := by decide +kernel
theorem dX2_setThresholds_77 : decode cX2_setThresholds 77 = .ok (.aload_n 1, 1) := by decide +kernel
theorem dX2_setThresholds_78 : decode cX2_setThresholds 78 = .ok (.getfield 75, 3) := by decide +kernel
theorem dX2_setThresholds_81 : decode cX2_setThresholds 81 = .ok (.iconst 3, 1) := by decide +kernel
theorem dX2_setThresholds_82 : decode cX2_setThresholds 82 = .ok (.iload_n 3, 1) := by decide +kernel
theorem dX2_setThresholds_83 : decode cX2_setThresholds 83 = .ok (.imul, 1) := by decide +kernel
theorem dX2_setThresholds_84 : decode cX2_setThresholds 84 = .ok (.iconst 1, 1) := by decide +kernel
theorem dX2_setThresholds_85 : decode cX2_setThresholds 85 = .ok (.iadd, 1) := by decide +kernel
theorem dX2_setThresholds_86 : decode cX2_setThresholds 86 = .ok (.iaload, 1) := by decide +kernel
theorem dX2_setThresholds_87 : decode cX2_setThresholds 87 = .ok (.imul, 1) := by decide +kernel
theorem dX2_setThresholds_88 : decode cX2_setThresholds 88 = .ok (.iadd, 1) := by decide +kernel
theorem dX2_setThresholds_89 : decode cX2_setThresholds 89 = .ok (.invokestatic 113, 3) := by decide +kernel
theorem dX2_setThresholds_92 : decode cX2_setThresholds 92 = .ok (.putfield 116, 3) := by decide +kernel
theorem dX2_setThresholds_95 : decode cX2_setThresholds 95 = .ok (.iconst 0, 1) := by decide +kernel
theorem dX2_setThresholds_96 : decode cX2_setThresholds 96 = .ok (.bipush 51, 2) := by decide +kernel
theorem dX2_setThresholds_98 : decode cX2_setThresholds 98 = .ok (.iload 7, 2) := by decide +kernel
theorem dX2_setThresholds_100 : decode cX2_setThresholds 100 = .ok (.iconst 2, 1) := by decide +kernel
theorem dX2_setThresholds_101 : decode cX2_setThresholds 101 = .ok (.aload_n 1, 1) := by decide +kernel
theorem dX2_setThresholds_102 : decode cX2_setThresholds 102 = .ok (.getfield 75, 3) := by decide +kernel
theorem dX2_setThresholds_105 : decode cX2_setThresholds 105 = .ok (.iconst 3, 1) := by decide +kernel
theorem dX2_setThresholds_106 : decode cX2_setThresholds 106 = .ok (.iload_n 3, 1) := by decide +kernel
theorem dX2_setThresholds_107 : decode cX2_setThresholds 107 = .ok (.imul, 1) := by decide +kernel
theorem dX2_setThresholds_108 : decode cX2_setThresholds 108 = .ok (.iconst 2, 1) := by decide +kernel
theorem dX2_setThresholds_109 : decode cX2_setThresholds 109 = .ok (.iadd, 1) := by decide +kernel
theorem dX2_setThresholds_110 : decode cX2_setThresholds 110 = .ok (.iaload, 1) := by decide +kernel
theorem dX2_setThresholds_111 : decode cX2_setThresholds 111 = .ok (.imul, 1) := by decide +kernel
theorem dX2_setThresholds_112 : decode cX2_setThresholds 112 = .ok (.iadd, 1) := by decide +kernel
theorem dX2_setThresholds_113 : decode cX2_setThresholds 113 = .ok (.invokestatic 113, 3) := by decide +kernel
theorem dX2_setThresholds_116 : decode cX2_setThresholds 116 = .ok (.istore 8, 2) := by decide +kernel
theorem dX2_setThresholds_118 : decode cX2_setThresholds 118 = .ok (.aload_n 0, 1) := by decide +kernel
theorem dX2_setThresholds_119 : decode cX2_setThresholds 119 = .ok (.aload_n 0, 1) := by decide +kernel
theorem dX2_setThresholds_120 : decode cX2_setThresholds 120 = .ok (.getfield 116, 3) := by decide +kernel
theorem dX2_setThresholds_123 : decode cX2_setThresholds 123 = .ok (.bipush 16, 2) := by decide +kernel
theorem dX2_setThresholds_125 : decode cX2_setThresholds 125 = .ok (.if_icmp .ge 7, 3) := by decide +kernel
theorem dX2_setThresholds_128 : decode cX2_setThresholds 128 = .ok (.iconst 0, 1) := by decide +kernel
theorem dX2_setThresholds_129 : decode cX2_setThresholds 129 = .ok (.goto 14, 3) := by decide +kernel
theorem dX2_setThresholds_132 : decode cX2_setThresholds 132 = .ok (.getstatic 119, 3) := by decide +kernel
theorem dX2_setThresholds_135 : decode cX2_setThresholds 135 = .ok (.aload_n 0, 1) := by decide +kernel
theorem dX2_setThresholds_136 : decode cX2_setThresholds 136 = .ok (.getfield 116, 3) := by decide +kernel
theorem dX2_setThresholds_139 : decode cX2_setThresholds 139 = .ok (.bipush 16, 2) := by decide +kernel
theorem dX2_setThresholds_141 : decode cX2_setThresholds 141 = .ok (.isub, 1) := by decide +kernel
theorem dX2_setThresholds_142 : decode cX2_setThresholds 142 = .ok (.iaload, 1) := by decide +kernel
theorem dX2_setThresholds_143 : decode cX2_setThresholds 143 = .ok (.putfield 122, 3) := by decide +kernel
theorem dX2_setThresholds_146 : decode cX2_setThresholds 146 = .ok (.aload_n 0, 1) := by decide +kernel
theorem dX2_setThresholds_147 : decode cX2_setThresholds 147 = .ok (.iload 8, 2) := by decide +kernel
theorem dX2_setThresholds_149 : decode cX2_setThresholds 149 = .ok (.bipush 16, 2) := by decide +kernel
theorem dX2_setThresholds_151 : decode cX2_setThresholds 151 = .ok (.if_icmp .ge 7, 3) := by decide +kernel
theorem dX2_setThresholds_154 : decode cX2_setThresholds 154 = .ok (.iconst 0, 1) := by decide +kernel
theorem dX2_setThresholds_155 : decode cX2_setThresholds 155 = .ok (.goto 12, 3) := by decide +kernel
theorem dX2_setThresholds_158 : decode cX2_setThresholds 158 = .ok (.getstatic 125, 3) := by decide +kernel
theorem dX2_setThresholds_161 : decode cX2_setThresholds 161 = .ok (.iload 8, 2) := by decide +kernel
theorem dX2_setThresholds_163 : decode cX2_setThresholds 163 = .ok (.bipush 16, 2) := by decide +kernel
theorem dX2_setThresholds_165 : decode cX2_setThresholds 165 = .ok (.isub, 1) := by decide +kernel
theorem dX2_setThresholds_166 : decode cX2_setThresholds 166 = .ok (.iaload, 1) := by decide +kernel
theorem dX2_setThresholds_167 : decode cX2_setThresholds 167 = .ok (.putfield 128, 3) := by decide +kernel
theorem dX2_setThresholds_170 : decode cX2_setThresholds 170 = .ok (.return_, 1) := by decide +kernel
def FX2_setThresholds (G : GG) (M : DD) (a : Nat) (p0 : Option Nat) (p1 : Int32) (p2 : Int32) (p3 : Int32) : Option (DD) :=
  dr G 9 p0 fun b2 =>
  ltt ((((8 : Int32)) * p1)) fun x3 =>
  ltt ((x3 + ((2 : Int32)))) fun x4 =>
  dr G 13 ((M.2 b2 6)) fun b5 =>
  chk (¬ (x4 < 0 ∨ G.2.2 b5 ≤ x4.toNatClampNeg)) <|
  ltt (M.1 b5 x4.toNatClampNeg) fun x6 =>
  ltt ((((8 : Int32)) * p2)) fun x7 =>
  ltt ((x7 + ((2 : Int32)))) fun x8 =>
  chk (¬ (x8 < 0 ∨ G.2.2 b5 ≤ x8.toNatClampNeg)) <|
  ltt (M.1 b5 x8.toNatClampNeg) fun x9 =>
  bnd (if p3 ≤ ((0 : Int32)) then (some (x6, x9, M)) else
  (dr G 13 ((M.2 b2 2)) fun b42 =>
  chk (¬ (((8 : Int32)) < 0 ∨ G.2.2 b42 ≤ ((8 : Int32)).toNatClampNeg)) <|
  ltt (M.1 b42 ((8 : Int32)).toNatClampNeg) fun x43 =>
  bnd (FX6_colourStep G M x6 x43) fun y44 =>
  dr G 13 ((y44.1.2 b2 2)) fun b45 =>
  chk (¬ (((8 : Int32)) < 0 ∨ G.2.2 b45 ≤ ((8 : Int32)).toNatClampNeg)) <|
  ltt (y44.1.1 b45 ((8 : Int32)).toNatClampNeg) fun x46 =>
  bnd (FX6_colourStep G y44.1 x9 x46) fun y47 =>
  some (y44.2, y47.2, y47.1))) fun (y10 : Int32 × Int32 × DD) =>
  ltt ((y10.1 + y10.2.1)) fun x11 =>
  ltt ((x11 + ((1 : Int32)))) fun x12 =>
  ltt ((x12 >>> (((1 : Int32)) &&& 31))) fun x13 =>
  ltt ((((3 : Int32)) * p2)) fun x14 =>
  ltt ((x14 + ((1 : Int32)))) fun x15 =>
  dr G 13 ((y10.2.2.2 b2 10)) fun b16 =>
  chk (¬ (x15 < 0 ∨ G.2.2 b16 ≤ x15.toNatClampNeg)) <|
  ltt (y10.2.2.1 b16 x15.toNatClampNeg) fun x17 =>
  ltt ((((2 : Int32)) * x17)) fun x18 =>
  ltt ((x13 + x18)) fun x19 =>
  bnd (FX11_clamp G y10.2.2 ((0 : Int32)) ((51 : Int32)) x19) fun y20 =>
  ltt (uI y20.1 a 4 y20.2) fun M21 =>
  ltt ((((3 : Int32)) * p2)) fun x22 =>
  ltt ((x22 + ((2 : Int32)))) fun x23 =>
  dr G 13 ((M21.2 b2 10)) fun b24 =>
  chk (¬ (x23 < 0 ∨ G.2.2 b24 ≤ x23.toNatClampNeg)) <|
  ltt (M21.1 b24 x23.toNatClampNeg) fun x25 =>
  ltt ((((2 : Int32)) * x25)) fun x26 =>
  ltt ((x13 + x26)) fun x27 =>
  bnd (FX11_clamp G M21 ((0 : Int32)) ((51 : Int32)) x27) fun y28 =>
  ltt (y28.1.1 a 4) fun x29 =>
  bnd (if ((16 : Int32)) ≤ x29 then (ltt (y28.1.1 a 4) fun x38 =>
  ltt ((x38 - ((16 : Int32)))) fun x39 =>
  chk (¬ (x39 < 0 ∨ 36 ≤ x39.toNatClampNeg)) <|
  ltt ((sT 3).getD x39.toNatClampNeg 0) fun x40 =>
  some (x40)) else
  (some ((0 : Int32)))) fun (y30 : Int32) =>
  ltt (uI y28.1 a 2 y30) fun M31 =>
  bnd (if ((16 : Int32)) ≤ y28.2 then (ltt ((y28.2 - ((16 : Int32)))) fun x35 =>
  chk (¬ (x35 < 0 ∨ 36 ≤ x35.toNatClampNeg)) <|
  ltt ((sT 4).getD x35.toNatClampNeg 0) fun x36 =>
  some (x36)) else
  (some ((0 : Int32)))) fun (y32 : Int32) =>
  ltt (uI M31 a 3 y32) fun M33 =>
  some M33
set_option maxHeartbeats 4000000 in
set_option maxRecDepth 100000 in
theorem kX2_setThresholds (l : Launch) (D : va_G) (ct : CT) (ad : Nat → Nat) (Z : Nat → Nat) (G : GG) (M : DD) (sz : Nat) (a : Nat) (p0 : Option Nat) (p1 : Int32) (p2 : Int32) (p3 : Int32) (y : DD) (hc : a < G.1) (hk : G.2.1 a = 2) (hF : FX2_setThresholds G M a p0 p1 p2 p3 = some y) : Met l yX2_setThresholds wuX2_setThresholds ({ frames := 2, cells := 0, slots := 0, locals := 44 }) (va_Pc [.ref (ad a), va_re ad p0, .int p1, .int p2, .int p3] (kB D ct ad Z G M sz)) (va_Qv (fun (_ : Unit) => True) (fun _ t => kE D ct ad G (wA ad G sz) y t) (wA ad G sz)) 0 0 (wA ad G sz) := by
  refine Met.ofW (cc := cX2_setThresholds) (maxL := 9) (ret := none) (by decide) rfl ?_
  intro p e s m args below meth c s₁ B hml hv
  obtain ⟨rfl, hsz, hP, hK, hD0, hZ, hN⟩ := hv
  have hx := B.exec
  have hb := B.bytes
  have hr := B.returns
  have hts := atoms_spec (ws := wuX2_setThresholds) B.pre
  have hown : s.vm.findClass RX2 = some m.cls := findClass_of_methodNamed B.named
  have hlocks := B.notSynchronized
  subst hsz
  have hD := wD_self (sz := s.heap.size) hD0
  have hA9 : ∀ q, s.heap.size ≤ q → wA ad G s.heap.size q := fun q h => Or.inr h
  generalize hAe : wA ad G s.heap.size = A at hD hA9 hZ ⊢
  have hS : va_S A s.heap s.heap [] := va_S.rf
  have hl := lv_entry ([.ref (ad a), va_re ad p0, .int p1, .int p2, .int p3]) (n := 9) (by cases p0 <;> exact Nat.le_of_ble_eq_true rfl)
  rw [lg_entry_eq]
  generalize (lg_sl ([.ref (ad a), va_re ad p0, .int p1, .int p2, .int p3]) ++ List.replicate (9 - (lg_sl ([.ref (ad a), va_re ad p0, .int p1, .int p2, .int p3])).length) Slot.unset).toArray = ls at hl ⊢
  have hl : lv_has ls 9 [(0, .ref (ad a)), (1, va_re ad p0), (2, .int p1), (3, .int p2), (4, .int p3)] := by have e9 : lv_args 0 [.ref (ad a), va_re ad p0, .int p1, .int p2, .int p3] = [(0, .ref (ad a)), (1, va_re ad p0), (2, .int p1), (3, .int p2), (4, .int p3)] := (by cases p0 <;> rfl); rw [e9] at hl; exact hl
  unfold FX2_setThresholds at hF
  refine lv_aloadq_n hx hb dX2_setThresholds_0 rfl (lv_at hl 1 rfl) ?_
  obtain ⟨b2, ho2, hc2, hk2, hF⟩ := dr_some hF
  refine W_st (st' := [.ref (ad b2)]) (by rw [va_some ho2]) ?_
  refine va_get (D := D) (ci := 9) (v := va_re ad (M.2 b2 6)) (C := RX9) (T := TX9) (N := 20) hx hb hts (mus hf_X9) hown hK hP b2 (wld_o ct ad G M hc2 hk2 (by decide)) rfl 6 (by decide) (hts (.fieldLink RX2 27 "VideoSuite$Work" "info" "[I") (mu mw_443)) (fun _ h9 => h9) rfl dX2_setThresholds_1 ?_
  refine lv_bipush (v := (8 : Int32)) hx hb dX2_setThresholds_4 (by decide) ?_
  refine lv_iload_n hx hb dX2_setThresholds_6 rfl (lv_at hl 2 rfl) ?_
  refine lv_imul hx hb dX2_setThresholds_7 ?_
  obtain ⟨x3, ex3, hF⟩ := ltt_some hF
  refine lv_topi (fun zx3 ezx3 => ?_)
  obtain rfl : x3 = zx3 := ex3.trans ezx3.symm
  refine lv_iconst (v := (2 : Int32)) hx hb dX2_setThresholds_8 (by decide) ?_
  refine lv_iadd hx hb dX2_setThresholds_9 ?_
  obtain ⟨x4, ex4, hF⟩ := ltt_some hF
  refine lv_topi (fun zx4 ezx4 => ?_)
  obtain rfl : x4 = zx4 := ex4.trans ezx4.symm
  obtain ⟨b5, ho5, hc5, hk5, hF⟩ := dr_some hF
  refine W_st (st' := [.int x4, .ref (ad b5)]) (by rw [va_some ho5]) ?_
  obtain ⟨hvc, hF⟩ := chk_some hF
  refine va_iald hx hb hK hP b5 1 (wld_i ct ad G M hc5 hk5) rfl hvc dX2_setThresholds_10 ?_
  obtain ⟨x6, ex6, hF⟩ := ltt_some hF
  refine lv_topi (fun zx6 ezx6 => ?_)
  obtain rfl : x6 = zx6 := ex6.trans ezx6.symm
  refine lv_istore (lv' := [(5, .int x6), (0, .ref (ad a)), (1, va_re ad p0), (2, .int p1), (3, .int p2), (4, .int p3)]) hx hb dX2_setThresholds_11 hl (by decide) rfl (fun ls hl => ?_)
  refine lv_aloadq_n hx hb dX2_setThresholds_13 rfl (lv_at hl 2 rfl) ?_
  refine W_st (st' := [.ref (ad b2)]) (by rw [va_some ho2]) ?_
  refine va_get (D := D) (ci := 9) (v := va_re ad (M.2 b2 6)) (C := RX9) (T := TX9) (N := 20) hx hb hts (mus hf_X9) hown hK hP b2 (wld_o ct ad G M hc2 hk2 (by decide)) rfl 6 (by decide) (hts (.fieldLink RX2 27 "VideoSuite$Work" "info" "[I") (mu mw_443)) (fun _ h9 => h9) rfl dX2_setThresholds_14 ?_
  refine lv_bipush (v := (8 : Int32)) hx hb dX2_setThresholds_17 (by decide) ?_
  refine lv_iload_n hx hb dX2_setThresholds_19 rfl (lv_at hl 4 rfl) ?_
  refine lv_imul hx hb dX2_setThresholds_20 ?_
  obtain ⟨x7, ex7, hF⟩ := ltt_some hF
  refine lv_topi (fun zx7 ezx7 => ?_)
  obtain rfl : x7 = zx7 := ex7.trans ezx7.symm
  refine lv_iconst (v := (2 : Int32)) hx hb dX2_setThresholds_21 (by decide) ?_
  refine lv_iadd hx hb dX2_setThresholds_22 ?_
  obtain ⟨x8, ex8, hF⟩ := ltt_some hF
  refine lv_topi (fun zx8 ezx8 => ?_)
  obtain rfl : x8 = zx8 := ex8.trans ezx8.symm
  refine W_st (st' := [.int x8, .ref (ad b5)]) (by rw [va_some ho5]) ?_
  obtain ⟨hvc, hF⟩ := chk_some hF
  refine va_iald hx hb hK hP b5 1 (wld_i ct ad G M hc5 hk5) rfl hvc dX2_setThresholds_23 ?_
  obtain ⟨x9, ex9, hF⟩ := ltt_some hF
  refine lv_topi (fun zx9 ezx9 => ?_)
  obtain rfl : x9 = zx9 := ex9.trans ezx9.symm
  refine lv_istore (lv' := [(6, .int x9), (5, .int x6), (0, .ref (ad a)), (1, va_re ad p0), (2, .int p1), (3, .int p2), (4, .int p3)]) hx hb dX2_setThresholds_24 hl (by decide) rfl (fun ls hl => ?_)
  refine lv_iload hx hb dX2_setThresholds_26 (lv_at hl 6 rfl) ?_
  obtain ⟨y10, hy10, hF⟩ := bnd_some hF
  have J10 : ∀ (H : Heap) (locs : List Loc) (ls : Array Slot), va_P D classes (wld ct ad G y10.2.2) H → va_D A (wld ct ad G y10.2.2) → va_S A s.heap H locs → lv_has ls 9 [(6, .int y10.2.1), (5, .int y10.1), (0, .ref (ad a)), (1, va_re ad p0), (2, .int p1), (3, .int p2), (4, .int p3)] → W p l e (headSpec wuX2_setThresholds ({ frames := 2, cells := 0, slots := 0, locals := 44 })).room s m ([.ref (ad a), va_re ad p0, .int p1, .int p2, .int p3] : List Value).toArray below meth c H locs 0 0 (MQ below (va_Qv (fun (_ : Unit) => True) (fun _ t => kE D ct ad G A y t) A) ([.ref (ad a), va_re ad p0, .int p1, .int p2, .int p3] : List Value).toArray s 0 0 A) (F0 m 59 ls []) := by
    intro H locs ls hP hD hS hl
    refine lv_iload hx hb dX2_setThresholds_59 (lv_at hl 1 rfl) ?_
    refine lv_iload hx hb dX2_setThresholds_61 (lv_at hl 0 rfl) ?_
    refine lv_iadd hx hb dX2_setThresholds_63 ?_
    obtain ⟨x11, ex11, hF⟩ := ltt_some hF
    refine lv_topi (fun zx11 ezx11 => ?_)
    obtain rfl : x11 = zx11 := ex11.trans ezx11.symm
    refine lv_iconst (v := (1 : Int32)) hx hb dX2_setThresholds_64 (by decide) ?_
    refine lv_iadd hx hb dX2_setThresholds_65 ?_
    obtain ⟨x12, ex12, hF⟩ := ltt_some hF
    refine lv_topi (fun zx12 ezx12 => ?_)
    obtain rfl : x12 = zx12 := ex12.trans ezx12.symm
    refine lv_iconst (v := (1 : Int32)) hx hb dX2_setThresholds_66 (by decide) ?_
    refine lv_ishr hx hb dX2_setThresholds_67 ?_
    obtain ⟨x13, ex13, hF⟩ := ltt_some hF
    refine lv_topi (fun zx13 ezx13 => ?_)
    obtain rfl : x13 = zx13 := ex13.trans ezx13.symm
    refine lv_istore (lv' := [(7, .int x13), (6, .int y10.2.1), (5, .int y10.1), (0, .ref (ad a)), (1, va_re ad p0), (2, .int p1), (3, .int p2), (4, .int p3)]) hx hb dX2_setThresholds_68 hl (by decide) rfl (fun ls hl => ?_)
    refine lv_aload_n hx hb dX2_setThresholds_70 rfl (lv_at hl 3 rfl) ?_
    refine lv_iconst (v := (0 : Int32)) hx hb dX2_setThresholds_71 (by decide) ?_
    refine lv_bipush (v := (51 : Int32)) hx hb dX2_setThresholds_72 (by decide) ?_
    refine lv_iload hx hb dX2_setThresholds_74 (lv_at hl 0 rfl) ?_
    refine lv_iconst (v := (2 : Int32)) hx hb dX2_setThresholds_76 (by decide) ?_
    refine lv_aloadq_n hx hb dX2_setThresholds_77 rfl (lv_at hl 4 rfl) ?_
    refine W_st (st' := [.ref (ad b2), .int (2 : Int32), .int x13, .int (51 : Int32), .int (0 : Int32), .ref (ad a)]) (by rw [va_some ho2]) ?_
    refine va_get (D := D) (ci := 9) (v := va_re ad (y10.2.2.2 b2 10)) (C := RX9) (T := TX9) (N := 20) hx hb hts (mus hf_X9) hown hK hP b2 (wld_o ct ad G y10.2.2 hc2 hk2 (by decide)) rfl 10 (by decide) (hts (.fieldLink RX2 75 "VideoSuite$Work" "rule" "[I") (mu mw_459)) (fun _ h9 => h9) rfl dX2_setThresholds_78 ?_
    refine lv_iconst (v := (3 : Int32)) hx hb dX2_setThresholds_81 (by decide) ?_
    refine lv_iload_n hx hb dX2_setThresholds_82 rfl (lv_at hl 6 rfl) ?_
    refine lv_imul hx hb dX2_setThresholds_83 ?_
    obtain ⟨x14, ex14, hF⟩ := ltt_some hF
    refine lv_topi (fun zx14 ezx14 => ?_)
    obtain rfl : x14 = zx14 := ex14.trans ezx14.symm
    refine lv_iconst (v := (1 : Int32)) hx hb dX2_setThresholds_84 (by decide) ?_
    refine lv_iadd hx hb dX2_setThresholds_85 ?_
    obtain ⟨x15, ex15, hF⟩ := ltt_some hF
    refine lv_topi (fun zx15 ezx15 => ?_)
    obtain rfl : x15 = zx15 := ex15.trans ezx15.symm
    obtain ⟨b16, ho16, hc16, hk16, hF⟩ := dr_some hF
    refine W_st (st' := [.int x15, .ref (ad b16), .int (2 : Int32), .int x13, .int (51 : Int32), .int (0 : Int32), .ref (ad a)]) (by rw [va_some ho16]) ?_
    obtain ⟨hvc, hF⟩ := chk_some hF
    refine va_iald hx hb hK hP b16 1 (wld_i ct ad G y10.2.2 hc16 hk16) rfl hvc dX2_setThresholds_86 ?_
    obtain ⟨x17, ex17, hF⟩ := ltt_some hF
    refine lv_topi (fun zx17 ezx17 => ?_)
    obtain rfl : x17 = zx17 := ex17.trans ezx17.symm
    refine lv_imul hx hb dX2_setThresholds_87 ?_
    obtain ⟨x18, ex18, hF⟩ := ltt_some hF
    refine lv_topi (fun zx18 ezx18 => ?_)
    obtain rfl : x18 = zx18 := ex18.trans ezx18.symm
    refine lv_iadd hx hb dX2_setThresholds_88 ?_
    obtain ⟨x19, ex19, hF⟩ := ltt_some hF
    refine lv_topi (fun zx19 ezx19 => ?_)
    obtain rfl : x19 = zx19 := ex19.trans ezx19.symm
    obtain ⟨y20, hy20, hF⟩ := bnd_some hF
    have hf9 := wA_in hD hA9 hS
    refine va_calli (va_runSN (As := [.int (0 : Int32), .int (51 : Int32), .int x19]) (rest := [.ref (ad a)]) ⟨hx, hb, hml, hown, hts⟩ (kX11_clamp l D ct ad Z G y10.2.2 H.size ((0 : Int32)) ((51 : Int32)) x19 y20 hy20) ⟨va_cnB 3 hts gX2_setThresholds_X11_clamp_n113 rfl rfl rfl (hN.1 (RX2, 113, yX11_clamp, RX11) (List.mem_of_getElem? (i := 16) rfl)) (hts (.initialized RX11) (mu mw_166)) (by decide +kernel) ⟨Nat.le_of_ble_eq_true rfl, Nat.le_of_ble_eq_true rfl⟩, hts (.static yX11_clamp) (mu mw_938), trivial⟩ ⟨fun a U g mk q => by obtain ⟨q0, q1, qP, qK, qD, qZ, qN⟩ := q; exact ⟨q0, q1, qP, va_K.moved (u := U) (U := U.calling g mk a) (Vm.Alike.refl U.vm) qK, qD, sF.moved (u := U) (U := U.calling g mk a) (Vm.Alike.refl U.vm) qZ, nF.same rfl qN⟩, fun U hU hW => ⟨rfl, by rw [hU], by rw [hU]; exact hP, va_K.moved hW.alike hK, hD.weaken (fun _ _ _ _ => trivial), by rw [hU]; exact ((hZ.kept hS.2.1).narrow hf9).moved hW.alike, hN.warm hW⟩⟩ rfl rfl hl.1 rfl (lv_room (Nat.le_of_ble_eq_true rfl)) dX2_setThresholds_89 ⟨(Nat.zero_le _), (Nat.zero_le _)⟩) hS (fun q _ h => hf9 q h) hf9 (fun r u t H locs ht hvm hw hB hz1 hk1 hS => ?_)
    obtain ⟨hP, hK9, hD9⟩ := hB
    rw [ht] at hP
    try dsimp only at hw
    subst hw
    have hD := hD9.weaken (fun _ q _ h => hf9 q.1 h)
    refine va_put (D := D) (ci := 2) (v := .int y20.2) (ty := .int) (C := RX2) (T := TX2) (N := 7) hx hb hts (mus hf_X2) tyX2 tyX2_ok nmX2 hown hK hP hD hS a (wld_o ct ad G y20.1 hc hk (by decide)) rfl 4 (by decide) (hts (.fieldLink RX2 116 "VideoSuite$Edges" "indexA" "I") (mu mw_590)) (fun _ h9 => h9) rfl (by decide +kernel) rfl rfl (Nat.le_of_ble_eq_true rfl) dX2_setThresholds_92 (fun H locs hP hD hS => ?_)
    obtain ⟨M21, eM21, hF⟩ := ltt_some hF
    rw [set_oI ct ad G y20.1 hc hk (by decide) (by rfl), ← eM21] at hP hD
    refine lv_iconst (v := (0 : Int32)) hx hb dX2_setThresholds_95 (by decide) ?_
    refine lv_bipush (v := (51 : Int32)) hx hb dX2_setThresholds_96 (by decide) ?_
    refine lv_iload hx hb dX2_setThresholds_98 (lv_at hl 0 rfl) ?_
    refine lv_iconst (v := (2 : Int32)) hx hb dX2_setThresholds_100 (by decide) ?_
    refine lv_aloadq_n hx hb dX2_setThresholds_101 rfl (lv_at hl 4 rfl) ?_
    refine W_st (st' := [.ref (ad b2), .int (2 : Int32), .int x13, .int (51 : Int32), .int (0 : Int32)]) (by rw [va_some ho2]) ?_
    refine va_get (D := D) (ci := 9) (v := va_re ad (M21.2 b2 10)) (C := RX9) (T := TX9) (N := 20) hx hb hts (mus hf_X9) hown hK hP b2 (wld_o ct ad G M21 hc2 hk2 (by decide)) rfl 10 (by decide) (hts (.fieldLink RX2 75 "VideoSuite$Work" "rule" "[I") (mu mw_459)) (fun _ h9 => h9) rfl dX2_setThresholds_102 ?_
    refine lv_iconst (v := (3 : Int32)) hx hb dX2_setThresholds_105 (by decide) ?_
    refine lv_iload_n hx hb dX2_setThresholds_106 rfl (lv_at hl 6 rfl) ?_
    refine lv_imul hx hb dX2_setThresholds_107 ?_
    obtain ⟨x22, ex22, hF⟩ := ltt_some hF
    refine lv_topi (fun zx22 ezx22 => ?_)
    obtain rfl : x22 = zx22 := ex22.trans ezx22.symm
    refine lv_iconst (v := (2 : Int32)) hx hb dX2_setThresholds_108 (by decide) ?_
    refine lv_iadd hx hb dX2_setThresholds_109 ?_
    obtain ⟨x23, ex23, hF⟩ := ltt_some hF
    refine lv_topi (fun zx23 ezx23 => ?_)
    obtain rfl : x23 = zx23 := ex23.trans ezx23.symm
    obtain ⟨b24, ho24, hc24, hk24, hF⟩ := dr_some hF
    refine W_st (st' := [.int x23, .ref (ad b24), .int (2 : Int32), .int x13, .int (51 : Int32), .int (0 : Int32)]) (by rw [va_some ho24]) ?_
    obtain ⟨hvc, hF⟩ := chk_some hF
    refine va_iald hx hb hK hP b24 1 (wld_i ct ad G M21 hc24 hk24) rfl hvc dX2_setThresholds_110 ?_
    obtain ⟨x25, ex25, hF⟩ := ltt_some hF
    refine lv_topi (fun zx25 ezx25 => ?_)
    obtain rfl : x25 = zx25 := ex25.trans ezx25.symm
    refine lv_imul hx hb dX2_setThresholds_111 ?_
    obtain ⟨x26, ex26, hF⟩ := ltt_some hF
    refine lv_topi (fun zx26 ezx26 => ?_)
    obtain rfl : x26 = zx26 := ex26.trans ezx26.symm
    refine lv_iadd hx hb dX2_setThresholds_112 ?_
    obtain ⟨x27, ex27, hF⟩ := ltt_some hF
    refine lv_topi (fun zx27 ezx27 => ?_)
    obtain rfl : x27 = zx27 := ex27.trans ezx27.symm
    obtain ⟨y28, hy28, hF⟩ := bnd_some hF
    have hf9 := wA_in hD hA9 hS
    refine va_calli (va_runSN (As := [.int (0 : Int32), .int (51 : Int32), .int x27]) (rest := []) ⟨hx, hb, hml, hown, hts⟩ (kX11_clamp l D ct ad Z G M21 H.size ((0 : Int32)) ((51 : Int32)) x27 y28 hy28) ⟨va_cnB 3 hts gX2_setThresholds_X11_clamp_n113 rfl rfl rfl (hN.1 (RX2, 113, yX11_clamp, RX11) (List.mem_of_getElem? (i := 16) rfl)) (hts (.initialized RX11) (mu mw_166)) (by decide +kernel) ⟨Nat.le_of_ble_eq_true rfl, Nat.le_of_ble_eq_true rfl⟩, hts (.static yX11_clamp) (mu mw_938), trivial⟩ ⟨fun a U g mk q => by obtain ⟨q0, q1, qP, qK, qD, qZ, qN⟩ := q; exact ⟨q0, q1, qP, va_K.moved (u := U) (U := U.calling g mk a) (Vm.Alike.refl U.vm) qK, qD, sF.moved (u := U) (U := U.calling g mk a) (Vm.Alike.refl U.vm) qZ, nF.same rfl qN⟩, fun U hU hW => ⟨rfl, by rw [hU], by rw [hU]; exact hP, va_K.moved hW.alike hK, hD.weaken (fun _ _ _ _ => trivial), by rw [hU]; exact ((hZ.kept hS.2.1).narrow hf9).moved hW.alike, hN.warm hW⟩⟩ rfl rfl hl.1 rfl (lv_room (Nat.le_of_ble_eq_true rfl)) dX2_setThresholds_113 ⟨(Nat.zero_le _), (Nat.zero_le _)⟩) hS (fun q _ h => hf9 q h) hf9 (fun r u t H locs ht hvm hw hB hz1 hk1 hS => ?_)
    obtain ⟨hP, hK9, hD9⟩ := hB
    rw [ht] at hP
    try dsimp only at hw
    subst hw
    have hD := hD9.weaken (fun _ q _ h => hf9 q.1 h)
    refine lv_istore (lv' := [(8, .int y28.2), (7, .int x13), (6, .int y10.2.1), (5, .int y10.1), (0, .ref (ad a)), (1, va_re ad p0), (2, .int p1), (3, .int p2), (4, .int p3)]) hx hb dX2_setThresholds_116 hl (by decide) rfl (fun ls hl => ?_)
    refine lv_aload_n hx hb dX2_setThresholds_118 rfl (lv_at hl 4 rfl) ?_
    refine lv_aload_n hx hb dX2_setThresholds_119 rfl (lv_at hl 4 rfl) ?_
    refine va_get (D := D) (ci := 2) (v := .int (y28.1.1 a 4)) (C := RX2) (T := TX2) (N := 7) hx hb hts (mus hf_X2) hown hK hP a (wld_o ct ad G y28.1 hc hk (by decide)) rfl 4 (by decide) (hts (.fieldLink RX2 116 "VideoSuite$Edges" "indexA" "I") (mu mw_590)) (fun _ h9 => h9) rfl dX2_setThresholds_120 ?_
    obtain ⟨x29, ex29, hF⟩ := ltt_some hF
    refine lv_topi (fun zx29 ezx29 => ?_)
    obtain rfl : x29 = zx29 := ex29.trans ezx29.symm
    refine lv_bipush (v := (16 : Int32)) hx hb dX2_setThresholds_123 (by decide) ?_
    obtain ⟨y30, hy30, hF⟩ := bnd_some hF
    have J30 : ∀ (H : Heap) (locs : List Loc) (ls : Array Slot), va_P D classes (wld ct ad G y28.1) H → va_D A (wld ct ad G y28.1) → va_S A s.heap H locs → lv_has ls 9 [(8, .int y28.2), (7, .int x13), (6, .int y10.2.1), (5, .int y10.1), (0, .ref (ad a)), (1, va_re ad p0), (2, .int p1), (3, .int p2), (4, .int p3)] → W p l e (headSpec wuX2_setThresholds ({ frames := 2, cells := 0, slots := 0, locals := 44 })).room s m ([.ref (ad a), va_re ad p0, .int p1, .int p2, .int p3] : List Value).toArray below meth c H locs 0 0 (MQ below (va_Qv (fun (_ : Unit) => True) (fun _ t => kE D ct ad G A y t) A) ([.ref (ad a), va_re ad p0, .int p1, .int p2, .int p3] : List Value).toArray s 0 0 A) (F0 m 143 ls [.int y30, .ref (ad a)]) := by
      intro H locs ls hP hD hS hl
      refine va_put (D := D) (ci := 2) (v := .int y30) (ty := .int) (C := RX2) (T := TX2) (N := 7) hx hb hts (mus hf_X2) tyX2 tyX2_ok nmX2 hown hK hP hD hS a (wld_o ct ad G y28.1 hc hk (by decide)) rfl 2 (by decide) (hts (.fieldLink RX2 122 "VideoSuite$Edges" "alpha" "I") (mu mw_588)) (fun _ h9 => h9) rfl (by decide +kernel) rfl rfl (Nat.le_of_ble_eq_true rfl) dX2_setThresholds_143 (fun H locs hP hD hS => ?_)
      obtain ⟨M31, eM31, hF⟩ := ltt_some hF
      rw [set_oI ct ad G y28.1 hc hk (by decide) (by rfl), ← eM31] at hP hD
      refine lv_aload_n hx hb dX2_setThresholds_146 rfl (lv_at hl 4 rfl) ?_
      refine lv_iload hx hb dX2_setThresholds_147 (lv_at hl 0 rfl) ?_
      refine lv_bipush (v := (16 : Int32)) hx hb dX2_setThresholds_149 (by decide) ?_
      obtain ⟨y32, hy32, hF⟩ := bnd_some hF
      have J32 : ∀ (H : Heap) (locs : List Loc) (ls : Array Slot), va_P D classes (wld ct ad G M31) H → va_D A (wld ct ad G M31) → va_S A s.heap H locs → lv_has ls 9 [(8, .int y28.2), (7, .int x13), (6, .int y10.2.1), (5, .int y10.1), (0, .ref (ad a)), (1, va_re ad p0), (2, .int p1), (3, .int p2), (4, .int p3)] → W p l e (headSpec wuX2_setThresholds ({ frames := 2, cells := 0, slots := 0, locals := 44 })).room s m ([.ref (ad a), va_re ad p0, .int p1, .int p2, .int p3] : List Value).toArray below meth c H locs 0 0 (MQ below (va_Qv (fun (_ : Unit) => True) (fun _ t => kE D ct ad G A y t) A) ([.ref (ad a), va_re ad p0, .int p1, .int p2, .int p3] : List Value).toArray s 0 0 A) (F0 m 167 ls [.int y32, .ref (ad a)]) := by
        intro H locs ls hP hD hS hl
        refine va_put (D := D) (ci := 2) (v := .int y32) (ty := .int) (C := RX2) (T := TX2) (N := 7) hx hb hts (mus hf_X2) tyX2 tyX2_ok nmX2 hown hK hP hD hS a (wld_o ct ad G M31 hc hk (by decide)) rfl 3 (by decide) (hts (.fieldLink RX2 128 "VideoSuite$Edges" "beta" "I") (mu mw_589)) (fun _ h9 => h9) rfl (by decide +kernel) rfl rfl (Nat.le_of_ble_eq_true rfl) dX2_setThresholds_167 (fun H locs hP hD hS => ?_)
        obtain ⟨M33, eM33, hF⟩ := ltt_some hF
        rw [set_oI ct ad G M31 hc hk (by decide) (by rfl), ← eM33] at hP hD
        obtain rfl := Option.some.inj hF
        exact W.vret hx hb hr (fun t ht hW => ⟨⟨(), rfl, trivial, ⟨by rw [ht]; exact hP, va_K.moved hW.alike hK, hD⟩⟩, hS.F ht⟩) hS.2.2 dX2_setThresholds_170
      clear hF
      have hF := hy32
      clear hy32
      refine lv_icmp_ge (tgt := 158) hx hb dX2_setThresholds_151 (by decide) (fun c34 => ?_) (fun c34 => ?_)
      · rw [if_pos c34] at hF
        refine va_gets hx hb (hZ.1 4 (by decide)).1 hS hown (hts (.fieldLink RX2 125 "VideoSuite$Edges" "BETA" "[I") (mu mw_983)) (fun _ h => h) dX2_setThresholds_158 ?_
        refine lv_iload hx hb dX2_setThresholds_161 (lv_at hl 0 rfl) ?_
        refine lv_bipush (v := (16 : Int32)) hx hb dX2_setThresholds_163 (by decide) ?_
        refine lv_isub hx hb dX2_setThresholds_165 ?_
        obtain ⟨x35, ex35, hF⟩ := ltt_some hF
        refine lv_topi (fun zx35 ezx35 => ?_)
        obtain rfl : x35 = zx35 := ex35.trans ezx35.symm
        obtain ⟨hvc, hF⟩ := chk_some hF
        refine va_ti (v := .int ((sT 4).getD x35.toNatClampNeg 0)) hx hb (hZ.1 4 (by decide)).2 hS hvc rfl dX2_setThresholds_166 ?_
        obtain ⟨x36, ex36, hF⟩ := ltt_some hF
        refine lv_topi (fun zx36 ezx36 => ?_)
        obtain rfl : x36 = zx36 := ex36.trans ezx36.symm
        obtain rfl := Option.some.inj hF
        exact J32 _ _ _ hP hD hS (lv_sub hl [0, 1, 2, 3, 4, 5, 6, 7, 8] rfl)
      · rw [if_neg c34] at hF
        refine lv_iconst (v := (0 : Int32)) hx hb dX2_setThresholds_154 (by decide) ?_
        refine lv_goto (tgt := 167) hx hb dX2_setThresholds_155 (by decide) ?_
        obtain rfl := Option.some.inj hF
        exact J32 _ _ _ hP hD hS (lv_sub hl [0, 1, 2, 3, 4, 5, 6, 7, 8] rfl)
    clear hF
    have hF := hy30
    clear hy30
    refine lv_icmp_ge (tgt := 132) hx hb dX2_setThresholds_125 (by decide) (fun c37 => ?_) (fun c37 => ?_)
    · rw [if_pos c37] at hF
      refine va_gets hx hb (hZ.1 3 (by decide)).1 hS hown (hts (.fieldLink RX2 119 "VideoSuite$Edges" "ALPHA" "[I") (mu mw_981)) (fun _ h => h) dX2_setThresholds_132 ?_
      refine lv_aload_n hx hb dX2_setThresholds_135 rfl (lv_at hl 4 rfl) ?_
      refine va_get (D := D) (ci := 2) (v := .int (y28.1.1 a 4)) (C := RX2) (T := TX2) (N := 7) hx hb hts (mus hf_X2) hown hK hP a (wld_o ct ad G y28.1 hc hk (by decide)) rfl 4 (by decide) (hts (.fieldLink RX2 116 "VideoSuite$Edges" "indexA" "I") (mu mw_590)) (fun _ h9 => h9) rfl dX2_setThresholds_136 ?_
      obtain ⟨x38, ex38, hF⟩ := ltt_some hF
      refine lv_topi (fun zx38 ezx38 => ?_)
      obtain rfl : x38 = zx38 := ex38.trans ezx38.symm
      refine lv_bipush (v := (16 : Int32)) hx hb dX2_setThresholds_139 (by decide) ?_
      refine lv_isub hx hb dX2_setThresholds_141 ?_
      obtain ⟨x39, ex39, hF⟩ := ltt_some hF
      refine lv_topi (fun zx39 ezx39 => ?_)
      obtain rfl : x39 = zx39 := ex39.trans ezx39.symm
      obtain ⟨hvc, hF⟩ := chk_some hF
      refine va_ti (v := .int ((sT 3).getD x39.toNatClampNeg 0)) hx hb (hZ.1 3 (by decide)).2 hS hvc rfl dX2_setThresholds_142 ?_
      obtain ⟨x40, ex40, hF⟩ := ltt_some hF
      refine lv_topi (fun zx40 ezx40 => ?_)
      obtain rfl : x40 = zx40 := ex40.trans ezx40.symm
      obtain rfl := Option.some.inj hF
      exact J30 _ _ _ hP hD hS (lv_sub hl [0, 1, 2, 3, 4, 5, 6, 7, 8] rfl)
    · rw [if_neg c37] at hF
      refine lv_iconst (v := (0 : Int32)) hx hb dX2_setThresholds_128 (by decide) ?_
      refine lv_goto (tgt := 143) hx hb dX2_setThresholds_129 (by decide) ?_
      obtain rfl := Option.some.inj hF
      exact J30 _ _ _ hP hD hS (lv_sub hl [0, 1, 2, 3, 4, 5, 6, 7, 8] rfl)
  clear hF
  have hF := hy10
  clear hy10
  refine lv_if_le (tgt := 59) hx hb dX2_setThresholds_28 (by decide) (fun c41 => ?_) (fun c41 => ?_)
  · rw [if_pos c41] at hF
    obtain rfl := Option.some.inj hF
    exact J10 _ _ _ hP hD hS (lv_sub hl [0, 1, 2, 3, 4, 5, 6] rfl)
  · rw [if_neg c41] at hF
    refine lv_iload hx hb dX2_setThresholds_31 (lv_at hl 1 rfl) ?_
    refine lv_aloadq_n hx hb dX2_setThresholds_33 rfl (lv_at hl 3 rfl) ?_
    refine W_st (st' := [.ref (ad b2), .int x6]) (by rw [va_some ho2]) ?_
    refine va_get (D := D) (ci := 9) (v := va_re ad (M.2 b2 2)) (C := RX9) (T := TX9) (N := 20) hx hb hts (mus hf_X9) hown hK hP b2 (wld_o ct ad G M hc2 hk2 (by decide)) rfl 2 (by decide) (hts (.fieldLink RX2 104 "VideoSuite$Work" "par" "[I") (mu mw_431)) (fun _ h9 => h9) rfl dX2_setThresholds_34 ?_
    refine lv_bipush (v := (8 : Int32)) hx hb dX2_setThresholds_37 (by decide) ?_
    obtain ⟨b42, ho42, hc42, hk42, hF⟩ := dr_some hF
    refine W_st (st' := [.int (8 : Int32), .ref (ad b42), .int x6]) (by rw [va_some ho42]) ?_
    obtain ⟨hvc, hF⟩ := chk_some hF
    refine va_iald hx hb hK hP b42 1 (wld_i ct ad G M hc42 hk42) rfl hvc dX2_setThresholds_39 ?_
    obtain ⟨x43, ex43, hF⟩ := ltt_some hF
    refine lv_topi (fun zx43 ezx43 => ?_)
    obtain rfl : x43 = zx43 := ex43.trans ezx43.symm
    obtain ⟨y44, hy44, hF⟩ := bnd_some hF
    have hf9 := wA_in hD hA9 hS
    refine va_calli (va_runS (As := [.int x6, .int x43]) (rest := []) ⟨hx, hb, hml, hown, hts⟩ (kX6_colourStep l D ct ad Z G M s.heap.size x6 x43 y44 hy44) (va_cwS 2 hts gX2_setThresholds_X6_colourStep rfl rfl rfl (by decide +kernel) ⟨Nat.le_of_ble_eq_true rfl, Nat.le_of_ble_eq_true rfl⟩) ⟨fun a U g mk q => by obtain ⟨q0, q1, qP, qK, qD, qZ, qN⟩ := q; exact ⟨q0, q1, qP, va_K.moved (u := U) (U := U.calling g mk a) (Vm.Alike.refl U.vm) qK, qD, sF.moved (u := U) (U := U.calling g mk a) (Vm.Alike.refl U.vm) qZ, nF.same rfl qN⟩, fun U hU hW => ⟨rfl, by rw [hU], by rw [hU]; exact hP, va_K.moved hW.alike hK, hD.weaken (fun _ _ _ _ => trivial), by rw [hU]; exact ((hZ.kept hS.2.1).narrow hf9).moved hW.alike, hN.warm hW⟩⟩ rfl rfl hl.1 rfl (lv_room (Nat.le_of_ble_eq_true rfl)) dX2_setThresholds_40 ⟨(Nat.zero_le _), (Nat.zero_le _)⟩) hS (fun q _ h => hf9 q h) hf9 (fun r u t H locs ht hvm hw hB hz1 hk1 hS => ?_)
    obtain ⟨hP, hK9, hD9⟩ := hB
    rw [ht] at hP
    try dsimp only at hw
    subst hw
    have hD := hD9.weaken (fun _ q _ h => hf9 q.1 h)
    refine lv_istore (lv' := [(5, .int y44.2), (6, .int x9), (0, .ref (ad a)), (1, va_re ad p0), (2, .int p1), (3, .int p2), (4, .int p3)]) hx hb dX2_setThresholds_43 hl (by decide) rfl (fun ls hl => ?_)
    refine lv_iload hx hb dX2_setThresholds_45 (lv_at hl 1 rfl) ?_
    refine lv_aloadq_n hx hb dX2_setThresholds_47 rfl (lv_at hl 3 rfl) ?_
    refine W_st (st' := [.ref (ad b2), .int x9]) (by rw [va_some ho2]) ?_
    refine va_get (D := D) (ci := 9) (v := va_re ad (y44.1.2 b2 2)) (C := RX9) (T := TX9) (N := 20) hx hb hts (mus hf_X9) hown hK hP b2 (wld_o ct ad G y44.1 hc2 hk2 (by decide)) rfl 2 (by decide) (hts (.fieldLink RX2 104 "VideoSuite$Work" "par" "[I") (mu mw_431)) (fun _ h9 => h9) rfl dX2_setThresholds_48 ?_
    refine lv_bipush (v := (8 : Int32)) hx hb dX2_setThresholds_51 (by decide) ?_
    obtain ⟨b45, ho45, hc45, hk45, hF⟩ := dr_some hF
    refine W_st (st' := [.int (8 : Int32), .ref (ad b45), .int x9]) (by rw [va_some ho45]) ?_
    obtain ⟨hvc, hF⟩ := chk_some hF
    refine va_iald hx hb hK hP b45 1 (wld_i ct ad G y44.1 hc45 hk45) rfl hvc dX2_setThresholds_53 ?_
    obtain ⟨x46, ex46, hF⟩ := ltt_some hF
    refine lv_topi (fun zx46 ezx46 => ?_)
    obtain rfl : x46 = zx46 := ex46.trans ezx46.symm
    obtain ⟨y47, hy47, hF⟩ := bnd_some hF
    have hf9 := wA_in hD hA9 hS
    refine va_calli (va_runS (As := [.int x9, .int x46]) (rest := []) ⟨hx, hb, hml, hown, hts⟩ (kX6_colourStep l D ct ad Z G y44.1 H.size x9 x46 y47 hy47) (va_cwS 2 hts gX2_setThresholds_X6_colourStep rfl rfl rfl (by decide +kernel) ⟨Nat.le_of_ble_eq_true rfl, Nat.le_of_ble_eq_true rfl⟩) ⟨fun a U g mk q => by obtain ⟨q0, q1, qP, qK, qD, qZ, qN⟩ := q; exact ⟨q0, q1, qP, va_K.moved (u := U) (U := U.calling g mk a) (Vm.Alike.refl U.vm) qK, qD, sF.moved (u := U) (U := U.calling g mk a) (Vm.Alike.refl U.vm) qZ, nF.same rfl qN⟩, fun U hU hW => ⟨rfl, by rw [hU], by rw [hU]; exact hP, va_K.moved hW.alike hK, hD.weaken (fun _ _ _ _ => trivial), by rw [hU]; exact ((hZ.kept hS.2.1).narrow hf9).moved hW.alike, hN.warm hW⟩⟩ rfl rfl hl.1 rfl (lv_room (Nat.le_of_ble_eq_true rfl)) dX2_setThresholds_54 ⟨(Nat.zero_le _), (Nat.zero_le _)⟩) hS (fun q _ h => hf9 q h) hf9 (fun r u t H locs ht hvm hw hB hz1 hk1 hS => ?_)
    obtain ⟨hP, hK9, hD9⟩ := hB
    rw [ht] at hP
    try dsimp only at hw
    subst hw
    have hD := hD9.weaken (fun _ q _ h => hf9 q.1 h)
    refine lv_istore (lv' := [(6, .int y47.2), (5, .int y44.2), (0, .ref (ad a)), (1, va_re ad p0), (2, .int p1), (3, .int p2), (4, .int p3)]) hx hb dX2_setThresholds_57 hl (by decide) rfl (fun ls hl => ?_)
    obtain rfl := Option.some.inj hF
    exact J10 _ _ _ hP hD hS (lv_sub hl [0, 1, 2, 3, 4, 5, 6] rfl)
set_option maxRecDepth 20000 in
theorem gX2_strengthOf_X4_movesApart : GoodIn wuX2_strengthOf (wsV RX2 92 RX4 yX4_movesApart wuX4_movesApart) := gu_V mw_957 mw_958 mw_959 mw_185 mw_960
theorem dX2_strengthOf_0 : decode cX2_strengthOf 0 = .ok (.iload_n 1, 1) := by decide +kernel
theorem dX2_strengthOf_1 : decode cX2_strengthOf 1 = .ok (.iconst 4, 1) := by decide +kernel
theorem dX2_strengthOf_2 : decode cX2_strengthOf 2 = .ok (.ishr, 1) := by decide +kernel
theorem dX2_strengthOf_3 : decode cX2_strengthOf 3 = .ok (.istore_n 3, 1) := by decide +kernel
theorem dX2_strengthOf_4 : decode cX2_strengthOf 4 = .ok (.iload_n 2, 1) := by decide +kernel
theorem dX2_strengthOf_5 : decode cX2_strengthOf 5 = .ok (.iconst 4, 1) := by decide +kernel
theorem dX2_strengthOf_6 : decode cX2_strengthOf 6 = .ok (.ishr, 1) := by decide +kernel
theorem dX2_strengthOf_7 : decode cX2_strengthOf 7 = .ok (.istore 4, 2) := by decide +kernel
theorem dX2_strengthOf_9 : decode cX2_strengthOf 9 = .ok (.aload_n 0, 1) := by decide +kernel
theorem dX2_strengthOf_10 : decode cX2_strengthOf 10 = .ok (.getfield 27, 3) := by decide +kernel
theorem dX2_strengthOf_13 : decode cX2_strengthOf 13 = .ok (.bipush 8, 2) := by decide +kernel
theorem dX2_strengthOf_15 : decode cX2_strengthOf 15 = .ok (.iload_n 3, 1) := by decide +kernel
theorem dX2_strengthOf_16 : decode cX2_strengthOf 16 = .ok (.imul, 1) := by decide +kernel
theorem dX2_strengthOf_17 : decode cX2_strengthOf 17 = .ok (.iconst 0, 1) := by decide +kernel
theorem dX2_strengthOf_18 : decode cX2_strengthOf 18 = .ok (.iadd, 1) := by decide +kernel
theorem dX2_strengthOf_19 : decode cX2_strengthOf 19 = .ok (.iaload, 1) := by decide +kernel
theorem dX2_strengthOf_20 : decode cX2_strengthOf 20 = .ok (.iconst 3, 1) := by decide +kernel
theorem dX2_strengthOf_21 : decode cX2_strengthOf 21 = .ok (.if_icmp .ne 19, 3) := by decide +kernel
theorem dX2_strengthOf_24 : decode cX2_strengthOf 24 = .ok (.aload_n 0, 1) := by decide +kernel
theorem dX2_strengthOf_25 : decode cX2_strengthOf 25 = .ok (.getfield 27, 3) := by decide +kernel
theorem dX2_strengthOf_28 : decode cX2_strengthOf 28 = .ok (.bipush 8, 2) := by decide +kernel
theorem dX2_strengthOf_30 : decode cX2_strengthOf 30 = .ok (.iload 4, 2) := by decide +kernel
theorem dX2_strengthOf_32 : decode cX2_strengthOf 32 = .ok (.imul, 1) := by decide +kernel
theorem dX2_strengthOf_33 : decode cX2_strengthOf 33 = .ok (.iconst 0, 1) := by decide +kernel
theorem dX2_strengthOf_34 : decode cX2_strengthOf 34 = .ok (.iadd, 1) := by decide +kernel
theorem dX2_strengthOf_35 : decode cX2_strengthOf 35 = .ok (.iaload, 1) := by decide +kernel
theorem dX2_strengthOf_36 : decode cX2_strengthOf 36 = .ok (.iconst 3, 1) := by decide +kernel
theorem dX2_strengthOf_37 : decode cX2_strengthOf 37 = .ok (.if_icmp .eq 15, 3) := by decide +kernel
theorem dX2_strengthOf_40 : decode cX2_strengthOf 40 = .ok (.iload_n 3, 1) := by decide +kernel
theorem dX2_strengthOf_41 : decode cX2_strengthOf 41 = .ok (.iload 4, 2) := by decide +kernel
theorem dX2_strengthOf_43 : decode cX2_strengthOf 43 = .ok (.if_icmp .ne 7, 3) := by decide +kernel
theorem dX2_strengthOf_46 : decode cX2_strengthOf 46 = .ok (.iconst 3, 1) := by decide +kernel
theorem dX2_strengthOf_47 : decode cX2_strengthOf 47 = .ok (.goto 4, 3) := by decide +kernel
theorem dX2_strengthOf_50 : decode cX2_strengthOf 50 = .ok (.iconst 4, 1) := by decide +kernel
theorem dX2_strengthOf_51 : decode cX2_strengthOf 51 = .ok (.ireturn, 1) := by decide +kernel
theorem dX2_strengthOf_52 : decode cX2_strengthOf 52 = .ok (.aload_n 0, 1) := by decide +kernel
theorem dX2_strengthOf_53 : decode cX2_strengthOf 53 = .ok (.getfield 89, 3) := by decide +kernel
theorem dX2_strengthOf_56 : decode cX2_strengthOf 56 = .ok (.bipush 24, 2) := by decide +kernel
theorem dX2_strengthOf_58 : decode cX2_strengthOf 58 = .ok (.iload_n 3, 1) := by decide +kernel
theorem dX2_strengthOf_59 : decode cX2_strengthOf 59 = .ok (.imul, 1) := by decide +kernel
theorem dX2_strengthOf_60 : decode cX2_strengthOf 60 = .ok (.iload_n 1, 1) := by decide +kernel
theorem dX2_strengthOf_61 : decode cX2_strengthOf 61 = .ok (.bipush 15, 2) := by decide +kernel
theorem dX2_strengthOf_63 : decode cX2_strengthOf 63 = .ok (.iand, 1) := by decide +kernel
theorem dX2_strengthOf_64 : decode cX2_strengthOf 64 = .ok (.iadd, 1) := by decide +kernel
theorem dX2_strengthOf_65 : decode cX2_strengthOf 65 = .ok (.iaload, 1) := by decide +kernel
theorem dX2_strengthOf_66 : decode cX2_strengthOf 66 = .ok (.ifCond .gt 21, 3) := by decide +kernel
theorem dX2_strengthOf_69 : decode cX2_strengthOf 69 = .ok (.aload_n 0, 1) := by decide +kernel
theorem dX2_strengthOf_70 : decode cX2_strengthOf 70 = .ok (.getfield 89, 3) := by decide +kernel
theorem dX2_strengthOf_73 : decode cX2_strengthOf 73 = .ok (.bipush 24, 2) := by decide +kernel
theorem dX2_strengthOf_75 : decode cX2_strengthOf 75 = .ok (.iload 4, 2) := by decide +kernel
theorem dX2_strengthOf_77 : decode cX2_strengthOf 77 = .ok (.imul, 1) := by decide +kernel
theorem dX2_strengthOf_78 : decode cX2_strengthOf 78 = .ok (.iload_n 2, 1) := by decide +kernel
theorem dX2_strengthOf_79 : decode cX2_strengthOf 79 = .ok (.bipush 15, 2) := by decide +kernel
theorem dX2_strengthOf_81 : decode cX2_strengthOf 81 = .ok (.iand, 1) := by decide +kernel
theorem dX2_strengthOf_82 : decode cX2_strengthOf 82 = .ok (.iadd, 1) := by decide +kernel
theorem dX2_strengthOf_83 : decode cX2_strengthOf 83 = .ok (.iaload, 1) := by decide +kernel
theorem dX2_strengthOf_84 : decode cX2_strengthOf 84 = .ok (.ifCond .le 5, 3) := by decide +kernel
theorem dX2_strengthOf_87 : decode cX2_strengthOf 87 = .ok (.iconst 2, 1) := by decide +kernel
theorem dX2_strengthOf_88 : decode cX2_strengthOf 88 = .ok (.ireturn, 1) := by decide +kernel
theorem dX2_strengthOf_89 : decode cX2_strengthOf 89 = .ok (.aload_n 0, 1) := by decide +kernel
theorem dX2_strengthOf_90 : decode cX2_strengthOf 90 = .ok (.getfield 15, 3) := by decide +kernel
theorem dX2_strengthOf_93 : decode cX2_strengthOf 93 = .ok (.iload_n 1, 1) := by decide +kernel
theorem dX2_strengthOf_94 : decode cX2_strengthOf 94 = .ok (.iload_n 2, 1) := by decide +kernel
theorem dX2_strengthOf_95 : decode cX2_strengthOf 95 = .ok (.invokevirtual 92, 3) := by decide +kernel
theorem dX2_strengthOf_98 : decode cX2_strengthOf 98 = .ok (.ifCond .eq 7, 3) := by decide +kernel
theorem dX2_strengthOf_101 : decode cX2_strengthOf 101 = .ok (.iconst 1, 1) := by decide +kernel
theorem dX2_strengthOf_102 : decode cX2_strengthOf 102 = .ok (.goto 4, 3) := by decide +kernel
theorem dX2_strengthOf_105 : decode cX2_strengthOf 105 = .ok (.iconst 0, 1) := by decide +kernel
theorem dX2_strengthOf_106 : decode cX2_strengthOf 106 = .ok (.ireturn, 1) := by decide +kernel
def FX2_strengthOf (G : GG) (M : DD) (p0 : Option Nat) (p1 : Int32) (p2 : Int32) : Option (DD × Int32) :=
  ltt ((p1 >>> (((4 : Int32)) &&& 31))) fun x1 =>
  ltt ((p2 >>> (((4 : Int32)) &&& 31))) fun x2 =>
  dr G 9 p0 fun b3 =>
  ltt ((((8 : Int32)) * x1)) fun x4 =>
  ltt ((x4 + ((0 : Int32)))) fun x5 =>
  dr G 13 ((M.2 b3 6)) fun b6 =>
  chk (¬ (x5 < 0 ∨ G.2.2 b6 ≤ x5.toNatClampNeg)) <|
  ltt (M.1 b6 x5.toNatClampNeg) fun x7 =>
  if x7 = ((3 : Int32)) then (ltt ((((8 : Int32)) * x2)) fun x11 =>
  ltt ((x11 + ((0 : Int32)))) fun x12 =>
  chk (¬ (x12 < 0 ∨ G.2.2 b6 ≤ x12.toNatClampNeg)) <|
  ltt (M.1 b6 x12.toNatClampNeg) fun x13 =>
  if x13 = ((3 : Int32)) then (ltt ((((24 : Int32)) * x1)) fun x15 =>
  ltt ((p1 &&& ((15 : Int32)))) fun x16 =>
  ltt ((x15 + x16)) fun x17 =>
  dr G 13 ((M.2 b3 8)) fun b18 =>
  chk (¬ (x17 < 0 ∨ G.2.2 b18 ≤ x17.toNatClampNeg)) <|
  ltt (M.1 b18 x17.toNatClampNeg) fun x19 =>
  if ((0 : Int32)) < x19 then (some (M, (2 : Int32))) else
  (ltt ((((24 : Int32)) * x2)) fun x21 =>
  ltt ((p2 &&& ((15 : Int32)))) fun x22 =>
  ltt ((x21 + x22)) fun x23 =>
  chk (¬ (x23 < 0 ∨ G.2.2 b18 ≤ x23.toNatClampNeg)) <|
  ltt (M.1 b18 x23.toNatClampNeg) fun x24 =>
  if x24 ≤ ((0 : Int32)) then (dr G 4 ((M.2 b3 0)) fun b26 =>
  bnd (FX4_movesApart G M b26 p1 p2) fun y27 =>
  bnd (if y27.2 = ((0 : Int32)) then (some ((0 : Int32))) else
  (some ((1 : Int32)))) fun (y28 : Int32) =>
  some (y27.1, y28)) else
  (some (M, (2 : Int32))))) else
  (bnd (if x1 = x2 then (some ((3 : Int32))) else
  (some ((4 : Int32)))) fun (y30 : Int32) =>
  some (M, y30))) else
  (bnd (if x1 = x2 then (some ((3 : Int32))) else
  (some ((4 : Int32)))) fun (y9 : Int32) =>
  some (M, y9))
set_option maxHeartbeats 4000000 in
set_option maxRecDepth 100000 in
theorem kX2_strengthOf (l : Launch) (D : va_G) (ct : CT) (ad : Nat → Nat) (Z : Nat → Nat) (G : GG) (M : DD) (sz : Nat) (p0 : Option Nat) (p1 : Int32) (p2 : Int32) (y : DD × Int32) (hF : FX2_strengthOf G M p0 p1 p2 = some y) : Met l yX2_strengthOf wuX2_strengthOf ({ frames := 2, cells := 0, slots := 0, locals := 54 }) (va_Pc [va_re ad p0, .int p1, .int p2] (kB D ct ad Z G M sz)) (va_Qi (fun (q : Int32) (_ : Unit) => q = y.2) (fun _ t => kE D ct ad G (wA ad G sz) y.1 t) (wA ad G sz)) 0 0 (wA ad G sz) := by
  refine Met.ofW (cc := cX2_strengthOf) (maxL := 5) (ret := (some .int)) (by decide) rfl ?_
  intro p e s m args below meth c s₁ B hml hv
  obtain ⟨rfl, hsz, hP, hK, hD0, hZ, hN⟩ := hv
  have hx := B.exec
  have hb := B.bytes
  have hr := B.returns
  have hts := atoms_spec (ws := wuX2_strengthOf) B.pre
  have hown : s.vm.findClass RX2 = some m.cls := findClass_of_methodNamed B.named
  have hlocks := B.notSynchronized
  subst hsz
  have hD := wD_self (sz := s.heap.size) hD0
  have hA9 : ∀ q, s.heap.size ≤ q → wA ad G s.heap.size q := fun q h => Or.inr h
  generalize hAe : wA ad G s.heap.size = A at hD hA9 hZ ⊢
  have hS : va_S A s.heap s.heap [] := va_S.rf
  have hl := lv_entry ([va_re ad p0, .int p1, .int p2]) (n := 5) (by cases p0 <;> exact Nat.le_of_ble_eq_true rfl)
  rw [lg_entry_eq]
  generalize (lg_sl ([va_re ad p0, .int p1, .int p2]) ++ List.replicate (5 - (lg_sl ([va_re ad p0, .int p1, .int p2])).length) Slot.unset).toArray = ls at hl ⊢
  have hl : lv_has ls 5 [(0, va_re ad p0), (1, .int p1), (2, .int p2)] := by have e9 : lv_args 0 [va_re ad p0, .int p1, .int p2] = [(0, va_re ad p0), (1, .int p1), (2, .int p2)] := (by cases p0 <;> rfl); rw [e9] at hl; exact hl
  unfold FX2_strengthOf at hF
  refine lv_iload_n hx hb dX2_strengthOf_0 rfl (lv_at hl 1 rfl) ?_
  refine lv_iconst (v := (4 : Int32)) hx hb dX2_strengthOf_1 (by decide) ?_
  refine lv_ishr hx hb dX2_strengthOf_2 ?_
  obtain ⟨x1, ex1, hF⟩ := ltt_some hF
  refine lv_topi (fun zx1 ezx1 => ?_)
  obtain rfl : x1 = zx1 := ex1.trans ezx1.symm
  refine lv_istore_n (lv' := [(3, .int x1), (0, va_re ad p0), (1, .int p1), (2, .int p2)]) hx hb dX2_strengthOf_3 rfl hl (by decide) rfl (fun ls hl => ?_)
  refine lv_iload_n hx hb dX2_strengthOf_4 rfl (lv_at hl 3 rfl) ?_
  refine lv_iconst (v := (4 : Int32)) hx hb dX2_strengthOf_5 (by decide) ?_
  refine lv_ishr hx hb dX2_strengthOf_6 ?_
  obtain ⟨x2, ex2, hF⟩ := ltt_some hF
  refine lv_topi (fun zx2 ezx2 => ?_)
  obtain rfl : x2 = zx2 := ex2.trans ezx2.symm
  refine lv_istore (lv' := [(4, .int x2), (3, .int x1), (0, va_re ad p0), (1, .int p1), (2, .int p2)]) hx hb dX2_strengthOf_7 hl (by decide) rfl (fun ls hl => ?_)
  refine lv_aloadq_n hx hb dX2_strengthOf_9 rfl (lv_at hl 2 rfl) ?_
  obtain ⟨b3, ho3, hc3, hk3, hF⟩ := dr_some hF
  refine W_st (st' := [.ref (ad b3)]) (by rw [va_some ho3]) ?_
  refine va_get (D := D) (ci := 9) (v := va_re ad (M.2 b3 6)) (C := RX9) (T := TX9) (N := 20) hx hb hts (mus hf_X9) hown hK hP b3 (wld_o ct ad G M hc3 hk3 (by decide)) rfl 6 (by decide) (hts (.fieldLink RX2 27 "VideoSuite$Work" "info" "[I") (mu mw_443)) (fun _ h9 => h9) rfl dX2_strengthOf_10 ?_
  refine lv_bipush (v := (8 : Int32)) hx hb dX2_strengthOf_13 (by decide) ?_
  refine lv_iload_n hx hb dX2_strengthOf_15 rfl (lv_at hl 1 rfl) ?_
  refine lv_imul hx hb dX2_strengthOf_16 ?_
  obtain ⟨x4, ex4, hF⟩ := ltt_some hF
  refine lv_topi (fun zx4 ezx4 => ?_)
  obtain rfl : x4 = zx4 := ex4.trans ezx4.symm
  refine lv_iconst (v := (0 : Int32)) hx hb dX2_strengthOf_17 (by decide) ?_
  refine lv_iadd hx hb dX2_strengthOf_18 ?_
  obtain ⟨x5, ex5, hF⟩ := ltt_some hF
  refine lv_topi (fun zx5 ezx5 => ?_)
  obtain rfl : x5 = zx5 := ex5.trans ezx5.symm
  obtain ⟨b6, ho6, hc6, hk6, hF⟩ := dr_some hF
  refine W_st (st' := [.int x5, .ref (ad b6)]) (by rw [va_some ho6]) ?_
  obtain ⟨hvc, hF⟩ := chk_some hF
  refine va_iald hx hb hK hP b6 1 (wld_i ct ad G M hc6 hk6) rfl hvc dX2_strengthOf_19 ?_
  obtain ⟨x7, ex7, hF⟩ := ltt_some hF
  refine lv_topi (fun zx7 ezx7 => ?_)
  obtain rfl : x7 = zx7 := ex7.trans ezx7.symm
  refine lv_iconst (v := (3 : Int32)) hx hb dX2_strengthOf_20 (by decide) ?_
  refine lv_icmp_ne (tgt := 40) hx hb dX2_strengthOf_21 (by decide) (fun c8 => ?_) (fun c8 => ?_)
  · rw [if_neg c8] at hF
    refine lv_iload_n hx hb dX2_strengthOf_40 rfl (lv_at hl 1 rfl) ?_
    refine lv_iload hx hb dX2_strengthOf_41 (lv_at hl 0 rfl) ?_
    obtain ⟨y9, hy9, hF⟩ := bnd_some hF
    have J9 : ∀ (H : Heap) (locs : List Loc) (ls : Array Slot), va_P D classes (wld ct ad G M) H → va_D A (wld ct ad G M) → va_S A s.heap H locs → lv_has ls 5 [(4, .int x2), (3, .int x1), (0, va_re ad p0), (1, .int p1), (2, .int p2)] → W p l e (headSpec wuX2_strengthOf ({ frames := 2, cells := 0, slots := 0, locals := 54 })).room s m ([va_re ad p0, .int p1, .int p2] : List Value).toArray below meth c H locs 0 0 (MQ below (va_Qi (fun (q : Int32) (_ : Unit) => q = y.2) (fun _ t => kE D ct ad G A y.1 t) A) ([va_re ad p0, .int p1, .int p2] : List Value).toArray s 0 0 A) (F0 m 51 ls [.int y9]) := by
      intro H locs ls hP hD hS hl
      obtain rfl := Option.some.inj hF
      exact W.iret (v := y9) hx hb hr (fun t ht hW => ⟨⟨_, (), rfl, rfl, ⟨by rw [ht]; exact hP, va_K.moved hW.alike hK, hD⟩⟩, hS.F ht⟩) hS.2.2 dX2_strengthOf_51
    clear hF
    have hF := hy9
    clear hy9
    refine lv_icmp_ne (tgt := 50) hx hb dX2_strengthOf_43 (by decide) (fun c10 => ?_) (fun c10 => ?_)
    · rw [if_neg c10] at hF
      refine lv_iconst (v := (4 : Int32)) hx hb dX2_strengthOf_50 (by decide) ?_
      obtain rfl := Option.some.inj hF
      exact J9 _ _ _ hP hD hS (lv_sub hl [0, 1, 2, 3, 4] rfl)
    · rw [if_pos c10] at hF
      refine lv_iconst (v := (3 : Int32)) hx hb dX2_strengthOf_46 (by decide) ?_
      refine lv_goto (tgt := 51) hx hb dX2_strengthOf_47 (by decide) ?_
      obtain rfl := Option.some.inj hF
      exact J9 _ _ _ hP hD hS (lv_sub hl [0, 1, 2, 3, 4] rfl)
  · rw [if_pos c8] at hF
    refine lv_aloadq_n hx hb dX2_strengthOf_24 rfl (lv_at hl 2 rfl) ?_
    refine W_st (st' := [.ref (ad b3)]) (by rw [va_some ho3]) ?_
    refine va_get (D := D) (ci := 9) (v := va_re ad (M.2 b3 6)) (C := RX9) (T := TX9) (N := 20) hx hb hts (mus hf_X9) hown hK hP b3 (wld_o ct ad G M hc3 hk3 (by decide)) rfl 6 (by decide) (hts (.fieldLink RX2 27 "VideoSuite$Work" "info" "[I") (mu mw_443)) (fun _ h9 => h9) rfl dX2_strengthOf_25 ?_
    refine lv_bipush (v := (8 : Int32)) hx hb dX2_strengthOf_28 (by decide) ?_
    refine lv_iload hx hb dX2_strengthOf_30 (lv_at hl 0 rfl) ?_
    refine lv_imul hx hb dX2_strengthOf_32 ?_
    obtain ⟨x11, ex11, hF⟩ := ltt_some hF
    refine lv_topi (fun zx11 ezx11 => ?_)
    obtain rfl : x11 = zx11 := ex11.trans ezx11.symm
    refine lv_iconst (v := (0 : Int32)) hx hb dX2_strengthOf_33 (by decide) ?_
    refine lv_iadd hx hb dX2_strengthOf_34 ?_
    obtain ⟨x12, ex12, hF⟩ := ltt_some hF
    refine lv_topi (fun zx12 ezx12 => ?_)
    obtain rfl : x12 = zx12 := ex12.trans ezx12.symm
    refine W_st (st' := [.int x12, .ref (ad b6)]) (by rw [va_some ho6]) ?_
    obtain ⟨hvc, hF⟩ := chk_some hF
    refine va_iald hx hb hK hP b6 1 (wld_i ct ad G M hc6 hk6) rfl hvc dX2_strengthOf_35 ?_
    obtain ⟨x13, ex13, hF⟩ := ltt_some hF
    refine lv_topi (fun zx13 ezx13 => ?_)
    obtain rfl : x13 = zx13 := ex13.trans ezx13.symm
    refine lv_iconst (v := (3 : Int32)) hx hb dX2_strengthOf_36 (by decide) ?_
    refine lv_icmp_eq (tgt := 52) hx hb dX2_strengthOf_37 (by decide) (fun c14 => ?_) (fun c14 => ?_)
    · rw [if_pos c14] at hF
      refine lv_aloadq_n hx hb dX2_strengthOf_52 rfl (lv_at hl 2 rfl) ?_
      refine W_st (st' := [.ref (ad b3)]) (by rw [va_some ho3]) ?_
      refine va_get (D := D) (ci := 9) (v := va_re ad (M.2 b3 8)) (C := RX9) (T := TX9) (N := 20) hx hb hts (mus hf_X9) hown hK hP b3 (wld_o ct ad G M hc3 hk3 (by decide)) rfl 8 (by decide) (hts (.fieldLink RX2 89 "VideoSuite$Work" "total" "[I") (mu mw_450)) (fun _ h9 => h9) rfl dX2_strengthOf_53 ?_
      refine lv_bipush (v := (24 : Int32)) hx hb dX2_strengthOf_56 (by decide) ?_
      refine lv_iload_n hx hb dX2_strengthOf_58 rfl (lv_at hl 1 rfl) ?_
      refine lv_imul hx hb dX2_strengthOf_59 ?_
      obtain ⟨x15, ex15, hF⟩ := ltt_some hF
      refine lv_topi (fun zx15 ezx15 => ?_)
      obtain rfl : x15 = zx15 := ex15.trans ezx15.symm
      refine lv_iload_n hx hb dX2_strengthOf_60 rfl (lv_at hl 3 rfl) ?_
      refine lv_bipush (v := (15 : Int32)) hx hb dX2_strengthOf_61 (by decide) ?_
      refine lv_iand hx hb dX2_strengthOf_63 ?_
      obtain ⟨x16, ex16, hF⟩ := ltt_some hF
      refine lv_topi (fun zx16 ezx16 => ?_)
      obtain rfl : x16 = zx16 := ex16.trans ezx16.symm
      refine lv_iadd hx hb dX2_strengthOf_64 ?_
      obtain ⟨x17, ex17, hF⟩ := ltt_some hF
      refine lv_topi (fun zx17 ezx17 => ?_)
      obtain rfl : x17 = zx17 := ex17.trans ezx17.symm
      obtain ⟨b18, ho18, hc18, hk18, hF⟩ := dr_some hF
      refine W_st (st' := [.int x17, .ref (ad b18)]) (by rw [va_some ho18]) ?_
      obtain ⟨hvc, hF⟩ := chk_some hF
      refine va_iald hx hb hK hP b18 1 (wld_i ct ad G M hc18 hk18) rfl hvc dX2_strengthOf_65 ?_
      obtain ⟨x19, ex19, hF⟩ := ltt_some hF
      refine lv_topi (fun zx19 ezx19 => ?_)
      obtain rfl : x19 = zx19 := ex19.trans ezx19.symm
      refine lv_if_gt (tgt := 87) hx hb dX2_strengthOf_66 (by decide) (fun c20 => ?_) (fun c20 => ?_)
      · rw [if_pos c20] at hF
        refine lv_iconst (v := (2 : Int32)) hx hb dX2_strengthOf_87 (by decide) ?_
        obtain rfl := Option.some.inj hF
        exact W.iret (v := (2 : Int32)) hx hb hr (fun t ht hW => ⟨⟨_, (), rfl, rfl, ⟨by rw [ht]; exact hP, va_K.moved hW.alike hK, hD⟩⟩, hS.F ht⟩) hS.2.2 dX2_strengthOf_88
      · rw [if_neg c20] at hF
        refine lv_aloadq_n hx hb dX2_strengthOf_69 rfl (lv_at hl 2 rfl) ?_
        refine W_st (st' := [.ref (ad b3)]) (by rw [va_some ho3]) ?_
        refine va_get (D := D) (ci := 9) (v := va_re ad (M.2 b3 8)) (C := RX9) (T := TX9) (N := 20) hx hb hts (mus hf_X9) hown hK hP b3 (wld_o ct ad G M hc3 hk3 (by decide)) rfl 8 (by decide) (hts (.fieldLink RX2 89 "VideoSuite$Work" "total" "[I") (mu mw_450)) (fun _ h9 => h9) rfl dX2_strengthOf_70 ?_
        refine lv_bipush (v := (24 : Int32)) hx hb dX2_strengthOf_73 (by decide) ?_
        refine lv_iload hx hb dX2_strengthOf_75 (lv_at hl 0 rfl) ?_
        refine lv_imul hx hb dX2_strengthOf_77 ?_
        obtain ⟨x21, ex21, hF⟩ := ltt_some hF
        refine lv_topi (fun zx21 ezx21 => ?_)
        obtain rfl : x21 = zx21 := ex21.trans ezx21.symm
        refine lv_iload_n hx hb dX2_strengthOf_78 rfl (lv_at hl 4 rfl) ?_
        refine lv_bipush (v := (15 : Int32)) hx hb dX2_strengthOf_79 (by decide) ?_
        refine lv_iand hx hb dX2_strengthOf_81 ?_
        obtain ⟨x22, ex22, hF⟩ := ltt_some hF
        refine lv_topi (fun zx22 ezx22 => ?_)
        obtain rfl : x22 = zx22 := ex22.trans ezx22.symm
        refine lv_iadd hx hb dX2_strengthOf_82 ?_
        obtain ⟨x23, ex23, hF⟩ := ltt_some hF
        refine lv_topi (fun zx23 ezx23 => ?_)
        obtain rfl : x23 = zx23 := ex23.trans ezx23.symm
        refine W_st (st' := [.int x23, .ref (ad b18)]) (by rw [va_some ho18]) ?_
        obtain ⟨hvc, hF⟩ := chk_some hF
        refine va_iald hx hb hK hP b18 1 (wld_i ct ad G M hc18 hk18) rfl hvc dX2_strengthOf_83 ?_
        obtain ⟨x24, ex24, hF⟩ := ltt_some hF
        refine lv_topi (fun zx24 ezx24 => ?_)
        obtain rfl : x24 = zx24 := ex24.trans ezx24.symm
        refine lv_if_le (tgt := 89) hx hb dX2_strengthOf_84 (by decide) (fun c25 => ?_) (fun c25 => ?_)
        · rw [if_pos c25] at hF
          refine lv_aloadq_n hx hb dX2_strengthOf_89 rfl (lv_at hl 2 rfl) ?_
          refine W_st (st' := [.ref (ad b3)]) (by rw [va_some ho3]) ?_
          refine va_get (D := D) (ci := 9) (v := va_re ad (M.2 b3 0)) (C := RX9) (T := TX9) (N := 20) hx hb hts (mus hf_X9) hown hK hP b3 (wld_o ct ad G M hc3 hk3 (by decide)) rfl 0 (by decide) (hts (.fieldLink RX2 15 "VideoSuite$Work" "pic" "LVideoSuite$Picture;") (mu mw_419)) (fun _ h9 => h9) rfl dX2_strengthOf_90 ?_
          refine lv_iload_n hx hb dX2_strengthOf_93 rfl (lv_at hl 3 rfl) ?_
          refine lv_iload_n hx hb dX2_strengthOf_94 rfl (lv_at hl 4 rfl) ?_
          obtain ⟨b26, ho26, hc26, hk26, hF⟩ := dr_some hF
          refine W_st (st' := [.int p2, .int p1, .ref (ad b26)]) (by rw [va_some ho26]) ?_
          obtain ⟨y27, hy27, hF⟩ := bnd_some hF
          have hf9 := wA_in hD hA9 hS
          refine va_calli (va_runV (As := [.int p1, .int p2]) (rest := []) ⟨hx, hb, hml, hown, hts⟩ (kX4_movesApart l D ct ad Z G M s.heap.size b26 p1 p2 y27 hc26 hk26 hy27) (cwV 2 hts gX2_strengthOf_X4_movesApart rfl rfl rfl (by decide +kernel) ⟨Nat.le_of_ble_eq_true rfl, Nat.le_of_ble_eq_true rfl⟩) ⟨fun a U g mk q => by obtain ⟨q0, q1, qP, qK, qD, qZ, qN⟩ := q; exact ⟨q0, q1, qP, va_K.moved (u := U) (U := U.calling g mk a) (Vm.Alike.refl U.vm) qK, qD, sF.moved (u := U) (U := U.calling g mk a) (Vm.Alike.refl U.vm) qZ, nF.same rfl qN⟩, va_recv hK hP (ci := 4) (q0 := b26) rfl (wld_o ct ad G M hc26 hk26 (by decide)), fun U hU hW => ⟨rfl, by rw [hU], by rw [hU]; exact hP, va_K.moved hW.alike hK, hD.weaken (fun _ _ _ _ => trivial), by rw [hU]; exact ((hZ.kept hS.2.1).narrow hf9).moved hW.alike, hN.warm hW⟩⟩ rfl rfl hl.1 rfl (lv_room (Nat.le_of_ble_eq_true rfl)) dX2_strengthOf_95 ⟨(Nat.zero_le _), (Nat.zero_le _)⟩) hS (fun q _ h => hf9 q h) hf9 (fun r u t H locs ht hvm hw hB hz1 hk1 hS => ?_)
          obtain ⟨hP, hK9, hD9⟩ := hB
          rw [ht] at hP
          try dsimp only at hw
          subst hw
          have hD := hD9.weaken (fun _ q _ h => hf9 q.1 h)
          obtain ⟨y28, hy28, hF⟩ := bnd_some hF
          have J28 : ∀ (H : Heap) (locs : List Loc) (ls : Array Slot), va_P D classes (wld ct ad G y27.1) H → va_D A (wld ct ad G y27.1) → va_S A s.heap H locs → lv_has ls 5 [(4, .int x2), (3, .int x1), (0, va_re ad p0), (1, .int p1), (2, .int p2)] → W p l e (headSpec wuX2_strengthOf ({ frames := 2, cells := 0, slots := 0, locals := 54 })).room s m ([va_re ad p0, .int p1, .int p2] : List Value).toArray below meth c H locs 0 0 (MQ below (va_Qi (fun (q : Int32) (_ : Unit) => q = y.2) (fun _ t => kE D ct ad G A y.1 t) A) ([va_re ad p0, .int p1, .int p2] : List Value).toArray s 0 0 A) (F0 m 106 ls [.int y28]) := by
            intro H locs ls hP hD hS hl
            obtain rfl := Option.some.inj hF
            exact W.iret (v := y28) hx hb hr (fun t ht hW => ⟨⟨_, (), rfl, rfl, ⟨by rw [ht]; exact hP, va_K.moved hW.alike hK, hD⟩⟩, hS.F ht⟩) hS.2.2 dX2_strengthOf_106
          clear hF
          have hF := hy28
          clear hy28
          refine lv_if_eq (tgt := 105) hx hb dX2_strengthOf_98 (by decide) (fun c29 => ?_) (fun c29 => ?_)
          · rw [if_pos c29] at hF
            refine lv_iconst (v := (0 : Int32)) hx hb dX2_strengthOf_105 (by decide) ?_
            obtain rfl := Option.some.inj hF
            exact J28 _ _ _ hP hD hS (lv_sub hl [0, 1, 2, 3, 4] rfl)
          · rw [if_neg c29] at hF
            refine lv_iconst (v := (1 : Int32)) hx hb dX2_strengthOf_101 (by decide) ?_
            refine lv_goto (tgt := 106) hx hb dX2_strengthOf_102 (by decide) ?_
            obtain rfl := Option.some.inj hF
            exact J28 _ _ _ hP hD hS (lv_sub hl [0, 1, 2, 3, 4] rfl)
        · rw [if_neg c25] at hF
          refine lv_iconst (v := (2 : Int32)) hx hb dX2_strengthOf_87 (by decide) ?_
          obtain rfl := Option.some.inj hF
          exact W.iret (v := (2 : Int32)) hx hb hr (fun t ht hW => ⟨⟨_, (), rfl, rfl, ⟨by rw [ht]; exact hP, va_K.moved hW.alike hK, hD⟩⟩, hS.F ht⟩) hS.2.2 dX2_strengthOf_88
    · rw [if_neg c14] at hF
      refine lv_iload_n hx hb dX2_strengthOf_40 rfl (lv_at hl 1 rfl) ?_
      refine lv_iload hx hb dX2_strengthOf_41 (lv_at hl 0 rfl) ?_
      obtain ⟨y30, hy30, hF⟩ := bnd_some hF
      have J30 : ∀ (H : Heap) (locs : List Loc) (ls : Array Slot), va_P D classes (wld ct ad G M) H → va_D A (wld ct ad G M) → va_S A s.heap H locs → lv_has ls 5 [(4, .int x2), (3, .int x1), (0, va_re ad p0), (1, .int p1), (2, .int p2)] → W p l e (headSpec wuX2_strengthOf ({ frames := 2, cells := 0, slots := 0, locals := 54 })).room s m ([va_re ad p0, .int p1, .int p2] : List Value).toArray below meth c H locs 0 0 (MQ below (va_Qi (fun (q : Int32) (_ : Unit) => q = y.2) (fun _ t => kE D ct ad G A y.1 t) A) ([va_re ad p0, .int p1, .int p2] : List Value).toArray s 0 0 A) (F0 m 51 ls [.int y30]) := by
        intro H locs ls hP hD hS hl
        obtain rfl := Option.some.inj hF
        exact W.iret (v := y30) hx hb hr (fun t ht hW => ⟨⟨_, (), rfl, rfl, ⟨by rw [ht]; exact hP, va_K.moved hW.alike hK, hD⟩⟩, hS.F ht⟩) hS.2.2 dX2_strengthOf_51
      clear hF
      have hF := hy30
      clear hy30
      refine lv_icmp_ne (tgt := 50) hx hb dX2_strengthOf_43 (by decide) (fun c31 => ?_) (fun c31 => ?_)
      · rw [if_neg c31] at hF
        refine lv_iconst (v := (4 : Int32)) hx hb dX2_strengthOf_50 (by decide) ?_
        obtain rfl := Option.some.inj hF
        exact J30 _ _ _ hP hD hS (lv_sub hl [0, 1, 2, 3, 4] rfl)
      · rw [if_pos c31] at hF
        refine lv_iconst (v := (3 : Int32)) hx hb dX2_strengthOf_46 (by decide) ?_
        refine lv_goto (tgt := 51) hx hb dX2_strengthOf_47 (by decide) ?_
        obtain rfl := Option.some.inj hF
        exact J30 _ _ _ hP hD hS (lv_sub hl [0, 1, 2, 3, 4] rfl)
set_option maxRecDepth 20000 in
theorem gX5_beginArith_X5_plainBit : GoodIn wuX5_beginArith (wsV RX5 107 RX5 yX5_plainBit wuX5_plainBit) := gu_V mw_1857 mw_1859 mw_51 mw_169 mw_1860
theorem dX5_beginArith_0 : decode cX5_beginArith 0 = .ok (.aload_n 0, 1) := by decide +kernel
theorem dX5_beginArith_1 : decode cX5_beginArith 1 = .ok (.sipush 510, 3) := by decide +kernel
theorem dX5_beginArith_4 : decode cX5_beginArith 4 = .ok (.putfield 96, 3) := by decide +kernel
theorem dX5_beginArith_7 : decode cX5_beginArith 7 = .ok (.aload_n 0, 1) := by decide +kernel
theorem dX5_beginArith_8 : decode cX5_beginArith 8 = .ok (.iconst 0, 1) := by decide +kernel
theorem dX5_beginArith_9 : decode cX5_beginArith 9 = .ok (.putfield 99, 3) := by decide +kernel
theorem dX5_beginArith_12 : decode cX5_beginArith 12 = .ok (.iconst 0, 1) := by decide +kernel
theorem dX5_beginArith_13 : decode cX5_beginArith 13 = .ok (.istore_n 1, 1) := by decide +kernel
theorem dX5_beginArith_14 : decode cX5_beginArith 14 = .ok (.iload_n 1, 1) := by decide +kernel
theorem dX5_beginArith_15 : decode cX5_beginArith 15 = .ok (.bipush 9, 2) := by decide +kernel
theorem dX5_beginArith_17 : decode cX5_beginArith 17 = .ok (.if_icmp .ge 24, 3) := by decide +kernel
theorem dX5_beginArith_20 : decode cX5_beginArith 20 = .ok (.aload_n 0, 1) := by decide +kernel
theorem dX5_beginArith_21 : decode cX5_beginArith 21 = .ok (.aload_n 0, 1) := by decide +kernel
theorem dX5_beginArith_22 : decode cX5_beginArith 22 = .ok (.getfield 99, 3) := by decide +kernel
theorem dX5_beginArith_25 : decode cX5_beginArith 25 = .ok (.iconst 1, 1) := by decide +kernel
theorem dX5_beginArith_26 : decode cX5_beginArith 26 = .ok (.ishl, 1) := by decide +kernel
theorem dX5_beginArith_27 : decode cX5_beginArith 27 = .ok (.aload_n 0, 1) := by decide +kernel
theorem dX5_beginArith_28 : decode cX5_beginArith 28 = .ok (.invokevirtual 107, 3) := by decide +kernel
theorem dX5_beginArith_31 : decode cX5_beginArith 31 = .ok (.ior, 1) := by decide +kernel
theorem dX5_beginArith_32 : decode cX5_beginArith 32 = .ok (.putfield 99, 3) := by decide +kernel
theorem dX5_beginArith_35 : decode cX5_beginArith 35 = .ok (.iinc 1 1, 3) := by decide +kernel
theorem dX5_beginArith_38 : decode cX5_beginArith 38 = .ok (.goto (-24), 3) := by decide +kernel
theorem dX5_beginArith_41 : decode cX5_beginArith 41 = .ok (.aload_n 0, 1) := by decide +kernel
theorem dX5_beginArith_42 : decode cX5_beginArith 42 = .ok (.iconst 1, 1) := by decide +kernel
theorem dX5_beginArith_43 : decode cX5_beginArith 43 = .ok (.putfield 66, 3) := by decide +kernel
theorem dX5_beginArith_46 : decode cX5_beginArith 46 = .ok (.return_, 1) := by decide +kernel
def FX5_beginArith (G : GG) (M : DD) (a : Nat)  : Option (DD) :=
  ltt (uI M a 8 ((510 : Int32))) fun M1 =>
  ltt (uI M1 a 9 ((0 : Int32))) fun M2 =>
  bnd (itr (fun (s4 : Int32 × DD) => ((if ((9 : Int32)) ≤ s4.1 then (some (.inr (s4.1, s4.2))) else
  (ltt (s4.2.1 a 9) fun x9 =>
  ltt ((x9 <<< (((1 : Int32)) &&& 31))) fun x10 =>
  bnd (FX5_plainBit G s4.2 a) fun y11 =>
  ltt ((x10 ||| y11.2)) fun x12 =>
  ltt (uI y11.1 a 9 x12) fun M13 =>
  ltt (s4.1 + (1 : Int32)) fun x14 =>
  some (.inl (x14, M13)))) : Option ((Int32 × DD) ⊕ (Int32 × DD)))) 1000000 ((0 : Int32), M2)) fun (y3 : Int32 × DD) =>
  chk (((1 : Int32)) = 0 ∨ ((1 : Int32)) = 1) <|
  ltt (uI y3.2 a 6 ((1 : Int32))) fun M6 =>
  some M6
set_option maxHeartbeats 4000000 in
set_option maxRecDepth 100000 in
theorem kX5_beginArith (l : Launch) (D : va_G) (ct : CT) (ad : Nat → Nat) (Z : Nat → Nat) (G : GG) (M : DD) (sz : Nat) (a : Nat)  (y : DD) (hc : a < G.1) (hk : G.2.1 a = 5) (hF : FX5_beginArith G M a  = some y) : Met l yX5_beginArith wuX5_beginArith ({ frames := 1, cells := 0, slots := 0, locals := 21 }) (va_Pc [.ref (ad a)] (kB D ct ad Z G M sz)) (va_Qv (fun (_ : Unit) => True) (fun _ t => kE D ct ad G (wA ad G sz) y t) (wA ad G sz)) 0 0 (wA ad G sz) := by
  refine Met.ofW (cc := cX5_beginArith) (maxL := 2) (ret := none) (by decide) rfl ?_
  intro p e s m args below meth c s₁ B hml hv
  obtain ⟨rfl, hsz, hP, hK, hD0, hZ, hN⟩ := hv
  have hx := B.exec
  have hb := B.bytes
  have hr := B.returns
  have hts := atoms_spec (ws := wuX5_beginArith) B.pre
  have hown : s.vm.findClass RX5 = some m.cls := findClass_of_methodNamed B.named
  have hlocks := B.notSynchronized
  subst hsz
  have hD := wD_self (sz := s.heap.size) hD0
  have hA9 : ∀ q, s.heap.size ≤ q → wA ad G s.heap.size q := fun q h => Or.inr h
  generalize hAe : wA ad G s.heap.size = A at hD hA9 hZ ⊢
  have hS : va_S A s.heap s.heap [] := va_S.rf
  have hl := lv_entry ([.ref (ad a)]) (n := 2) (Nat.le_of_ble_eq_true rfl)
  rw [lg_entry_eq]
  generalize (lg_sl ([.ref (ad a)]) ++ List.replicate (2 - (lg_sl ([.ref (ad a)])).length) Slot.unset).toArray = ls at hl ⊢
  have hl : lv_has ls 2 [(0, .ref (ad a))] := hl
  unfold FX5_beginArith at hF
  refine lv_aload_n hx hb dX5_beginArith_0 rfl (lv_at hl 0 rfl) ?_
  refine lv_sipush (v := (510 : Int32)) hx hb dX5_beginArith_1 (by decide) ?_
  refine va_put (D := D) (ci := 5) (v := .int (510 : Int32)) (ty := .int) (C := RX5) (T := TX5) (N := 17) hx hb hts (mus hf_X5) tyX5 tyX5_ok nmX5 hown hK hP hD hS a (wld_o ct ad G M hc hk (by decide)) rfl 8 (by decide) (hts (.fieldLink RX5 96 "VideoSuite$Reader" "range" "I") (mu mw_297)) (fun _ h9 => h9) rfl (by decide +kernel) rfl rfl (Nat.le_of_ble_eq_true rfl) dX5_beginArith_4 (fun H locs hP hD hS => ?_)
  obtain ⟨M1, eM1, hF⟩ := ltt_some hF
  rw [set_oI ct ad G M hc hk (by decide) (by rfl), ← eM1] at hP hD
  refine lv_aload_n hx hb dX5_beginArith_7 rfl (lv_at hl 0 rfl) ?_
  refine lv_iconst (v := (0 : Int32)) hx hb dX5_beginArith_8 (by decide) ?_
  refine va_put (D := D) (ci := 5) (v := .int (0 : Int32)) (ty := .int) (C := RX5) (T := TX5) (N := 17) hx hb hts (mus hf_X5) tyX5 tyX5_ok nmX5 hown hK hP hD hS a (wld_o ct ad G M1 hc hk (by decide)) rfl 9 (by decide) (hts (.fieldLink RX5 99 "VideoSuite$Reader" "offset" "I") (mu mw_298)) (fun _ h9 => h9) rfl (by decide +kernel) rfl rfl (Nat.le_of_ble_eq_true rfl) dX5_beginArith_9 (fun H locs hP hD hS => ?_)
  obtain ⟨M2, eM2, hF⟩ := ltt_some hF
  rw [set_oI ct ad G M1 hc hk (by decide) (by rfl), ← eM2] at hP hD
  refine lv_iconst (v := (0 : Int32)) hx hb dX5_beginArith_12 (by decide) ?_
  refine lv_istore_n (lv' := [(1, .int (0 : Int32)), (0, .ref (ad a))]) hx hb dX5_beginArith_13 rfl hl (by decide) rfl (fun ls hl => ?_)
  obtain ⟨y3, hy3, hF⟩ := bnd_some hF
  have K3 : ∀ (H : Heap) (locs : List Loc) (ls : Array Slot), va_P D classes (wld ct ad G y3.2) H → va_D A (wld ct ad G y3.2) → va_S A s.heap H locs → lv_has ls 2 [(1, .int y3.1), (0, .ref (ad a))] → W p l e (headSpec wuX5_beginArith ({ frames := 1, cells := 0, slots := 0, locals := 21 })).room s m ([.ref (ad a)] : List Value).toArray below meth c H locs 0 0 (MQ below (va_Qv (fun (_ : Unit) => True) (fun _ t => kE D ct ad G A y t) A) ([.ref (ad a)] : List Value).toArray s 0 0 A) (F0 m 41 ls []) := by
    intro H locs ls hP hD hS hl
    refine lv_aload_n hx hb dX5_beginArith_41 rfl (lv_at hl 1 rfl) ?_
    refine lv_iconst (v := (1 : Int32)) hx hb dX5_beginArith_42 (by decide) ?_
    obtain ⟨hz9, hF⟩ := chk_some hF
    refine va_put (D := D) (ci := 5) (v := .int (1 : Int32)) (ty := .boolean) (C := RX5) (T := TX5) (N := 17) hx hb hts (mus hf_X5) tyX5 tyX5_ok nmX5 hown hK hP hD hS a (wld_o ct ad G y3.2 hc hk (by decide)) rfl 6 (by decide) (hts (.fieldLink RX5 66 "VideoSuite$Reader" "arith" "Z") (mu mw_295)) (fun _ h9 => h9) rfl (by decide +kernel) (nar_z hz9).1 (nar_z hz9).2 (Nat.le_of_ble_eq_true rfl) dX5_beginArith_43 (fun H locs hP hD hS => ?_)
    obtain ⟨M6, eM6, hF⟩ := ltt_some hF
    rw [set_oI ct ad G y3.2 hc hk (by decide) (by rfl), ← eM6] at hP hD
    obtain rfl := Option.some.inj hF
    exact W.vret hx hb hr (fun t ht hW => ⟨⟨(), rfl, trivial, ⟨by rw [ht]; exact hP, va_K.moved hW.alike hK, hD⟩⟩, hS.F ht⟩) hS.2.2 dX5_beginArith_46
  clear hF
  refine itr_rule (fun (s4 : Int32 × DD) => ∀ (H : Heap) (locs : List Loc) (ls : Array Slot), va_P D classes (wld ct ad G s4.2) H → va_D A (wld ct ad G s4.2) → va_S A s.heap H locs → lv_has ls 2 [(1, .int s4.1), (0, .ref (ad a))] → W p l e (headSpec wuX5_beginArith ({ frames := 1, cells := 0, slots := 0, locals := 21 })).room s m ([.ref (ad a)] : List Value).toArray below meth c H locs 0 0 (MQ below (va_Qv (fun (_ : Unit) => True) (fun _ t => kE D ct ad G A y t) A) ([.ref (ad a)] : List Value).toArray s 0 0 A) (F0 m 14 ls [])) ?_ _ _ hy3 _ _ _ hP hD hS (lv_sub hl [0, 1] rfl)
  rintro s4 ⟨z7, hF, hwz7⟩ H locs ls hP hD hS hl
  try dsimp only at hF
  refine lv_iload_n hx hb dX5_beginArith_14 rfl (lv_at hl 0 rfl) ?_
  refine lv_bipush (v := (9 : Int32)) hx hb dX5_beginArith_15 (by decide) ?_
  refine lv_icmp_ge (tgt := 41) hx hb dX5_beginArith_17 (by decide) (fun c8 => ?_) (fun c8 => ?_)
  · rw [if_pos c8] at hF
    obtain rfl := Option.some.inj hF
    subst hwz7
    exact K3 _ _ _ hP hD hS (lv_sub hl [0, 1] rfl)
  · rw [if_neg c8] at hF
    refine lv_aload_n hx hb dX5_beginArith_20 rfl (lv_at hl 1 rfl) ?_
    refine lv_aload_n hx hb dX5_beginArith_21 rfl (lv_at hl 1 rfl) ?_
    refine va_get (D := D) (ci := 5) (v := .int (s4.2.1 a 9)) (C := RX5) (T := TX5) (N := 17) hx hb hts (mus hf_X5) hown hK hP a (wld_o ct ad G s4.2 hc hk (by decide)) rfl 9 (by decide) (hts (.fieldLink RX5 99 "VideoSuite$Reader" "offset" "I") (mu mw_298)) (fun _ h9 => h9) rfl dX5_beginArith_22 ?_
    obtain ⟨x9, ex9, hF⟩ := ltt_some hF
    refine lv_topi (fun zx9 ezx9 => ?_)
    obtain rfl : x9 = zx9 := ex9.trans ezx9.symm
    refine lv_iconst (v := (1 : Int32)) hx hb dX5_beginArith_25 (by decide) ?_
    refine lv_ishl hx hb dX5_beginArith_26 ?_
    obtain ⟨x10, ex10, hF⟩ := ltt_some hF
    refine lv_topi (fun zx10 ezx10 => ?_)
    obtain rfl : x10 = zx10 := ex10.trans ezx10.symm
    refine lv_aload_n hx hb dX5_beginArith_27 rfl (lv_at hl 1 rfl) ?_
    obtain ⟨y11, hy11, hF⟩ := bnd_some hF
    have hf9 := wA_in hD hA9 hS
    refine va_calli (va_runV (As := []) (rest := [.int x10, .ref (ad a)]) ⟨hx, hb, hml, hown, hts⟩ (kX5_plainBit l D ct ad Z G s4.2 H.size a y11 hc hk hy11) (cwV 0 hts gX5_beginArith_X5_plainBit rfl rfl rfl (by decide +kernel) ⟨Nat.le_of_ble_eq_true rfl, Nat.le_of_ble_eq_true rfl⟩) ⟨fun a U g mk q => by obtain ⟨q0, q1, qP, qK, qD, qZ, qN⟩ := q; exact ⟨q0, q1, qP, va_K.moved (u := U) (U := U.calling g mk a) (Vm.Alike.refl U.vm) qK, qD, sF.moved (u := U) (U := U.calling g mk a) (Vm.Alike.refl U.vm) qZ, nF.same rfl qN⟩, va_recv hK hP (ci := 5) (q0 := a) rfl (wld_o ct ad G s4.2 hc hk (by decide)), fun U hU hW => ⟨rfl, by rw [hU], by rw [hU]; exact hP, va_K.moved hW.alike hK, hD.weaken (fun _ _ _ _ => trivial), by rw [hU]; exact ((hZ.kept hS.2.1).narrow hf9).moved hW.alike, hN.warm hW⟩⟩ rfl rfl hl.1 rfl (lv_room (Nat.le_of_ble_eq_true rfl)) dX5_beginArith_28 ⟨(Nat.zero_le _), (Nat.zero_le _)⟩) hS (fun q _ h => hf9 q h) hf9 (fun r u t H locs ht hvm hw hB hz1 hk1 hS => ?_)
    obtain ⟨hP, hK9, hD9⟩ := hB
    rw [ht] at hP
    try dsimp only at hw
    subst hw
    have hD := hD9.weaken (fun _ q _ h => hf9 q.1 h)
    refine lv_ior hx hb dX5_beginArith_31 ?_
    obtain ⟨x12, ex12, hF⟩ := ltt_some hF
    refine lv_topi (fun zx12 ezx12 => ?_)
    obtain rfl : x12 = zx12 := ex12.trans ezx12.symm
    refine va_put (D := D) (ci := 5) (v := .int x12) (ty := .int) (C := RX5) (T := TX5) (N := 17) hx hb hts (mus hf_X5) tyX5 tyX5_ok nmX5 hown hK hP hD hS a (wld_o ct ad G y11.1 hc hk (by decide)) rfl 9 (by decide) (hts (.fieldLink RX5 99 "VideoSuite$Reader" "offset" "I") (mu mw_298)) (fun _ h9 => h9) rfl (by decide +kernel) rfl rfl (Nat.le_of_ble_eq_true rfl) dX5_beginArith_32 (fun H locs hP hD hS => ?_)
    obtain ⟨M13, eM13, hF⟩ := ltt_some hF
    rw [set_oI ct ad G y11.1 hc hk (by decide) (by rfl), ← eM13] at hP hD
    obtain ⟨x14, ex14, hF⟩ := ltt_some hF
    refine lv_iinc (v := x14) (lv' := [(1, .int x14), (0, .ref (ad a))]) hx hb dX5_beginArith_35 hl (k := 0) rfl (by rw [ex14]; rfl) (by decide) rfl (fun ls hl => ?_)
    refine lv_goto (tgt := 14) hx hb dX5_beginArith_38 (by decide) ?_
    obtain rfl := Option.some.inj hF
    exact hwz7 _ _ _ hP hD hS (lv_sub hl [0, 1] rfl)
set_option maxRecDepth 20000 in
theorem gX5_beginData_J7_fill_53178 : GoodIn wuX5_beginData (va_wsS RX5 113 yJ7_fill_53178 wuJ7_fill_53178) := gu_S mw_1861 mw_1125 mw_182 mw_1126
set_option maxRecDepth 20000 in
set_option maxRecDepth 20000 in
theorem gX5_beginData_X5_beginArith : GoodIn wuX5_beginData (wsV RX5 119 RX5 yX5_beginArith wuX5_beginArith) := gu_V mw_1862 mw_1864 mw_52 mw_169 mw_1865
set_option maxRecDepth 20000 in
theorem gX5_beginData_X5_plainBit : GoodIn wuX5_beginData (wsV RX5 107 RX5 yX5_plainBit wuX5_plainBit) := gu_V mw_1857 mw_1859 mw_51 mw_169 mw_1860
set_option maxRecDepth 20000 in
theorem dX5_beginData_0 : decode cX5_beginData 0 = .ok (.aload_n 0, 1) := by decide +kernel
theorem dX5_beginData_1 : decode cX5_beginData 1 = .ok (.iconst 1, 1) := by decide +kernel
theorem dX5_beginData_2 : decode cX5_beginData 2 = .ok (.putfield 70, 3) := by decide +kernel
theorem dX5_beginData_5 : decode cX5_beginData 5 = .ok (.iconst 0, 1) := by decide +kernel
theorem dX5_beginData_6 : decode cX5_beginData 6 = .ok (.istore_n 1, 1) := by decide +kernel
theorem dX5_beginData_7 : decode cX5_beginData 7 = .ok (.iload_n 1, 1) := by decide +kernel
theorem dX5_beginData_8 : decode cX5_beginData 8 = .ok (.bipush 8, 2) := by decide +kernel
theorem dX5_beginData_10 : decode cX5_beginData 10 = .ok (.if_icmp .ge 35, 3) := by decide +kernel
theorem dX5_beginData_13 : decode cX5_beginData 13 = .ok (.aload_n 0, 1) := by decide +kernel
theorem dX5_beginData_14 : decode cX5_beginData 14 = .ok (.getfield 57, 3) := by decide +kernel
theorem dX5_beginData_17 : decode cX5_beginData 17 = .ok (.bipush 7, 2) := by decide +kernel
theorem dX5_beginData_19 : decode cX5_beginData 19 = .ok (.iand, 1) := by decide +kernel
theorem dX5_beginData_20 : decode cX5_beginData 20 = .ok (.ifCond .eq 25, 3) := by decide +kernel
theorem dX5_beginData_23 : decode cX5_beginData 23 = .ok (.aload_n 0, 1) := by decide +kernel
theorem dX5_beginData_24 : decode cX5_beginData 24 = .ok (.invokevirtual 107, 3) := by decide +kernel
theorem dX5_beginData_27 : decode cX5_beginData 27 = .ok (.ifCond .ne 12, 3) := by decide +kernel
theorem dX5_beginData_30 : decode cX5_beginData 30 = .ok (.aload_n 0, 1) := by decide +kernel
theorem dX5_beginData_31 : decode cX5_beginData 31 = .ok (.iconst 2, 1) := by decide +kernel
theorem dX5_beginData_32 : decode cX5_beginData 32 = .ok (.aload_n 0, 1) := by decide +kernel
theorem dX5_beginData_33 : decode cX5_beginData 33 = .ok (.getfield 57, 3) := by decide +kernel
theorem dX5_beginData_36 : decode cX5_beginData 36 = .ok (.invokevirtual 89, 3) := by decide +kernel
theorem dX5_beginData_39 : decode cX5_beginData 39 = .ok (.iinc 1 1, 3) := by decide +kernel
theorem dX5_beginData_42 : decode cX5_beginData 42 = .ok (.goto (-35), 3) := by decide +kernel
theorem dX5_beginData_45 : decode cX5_beginData 45 = .ok (.aload_n 0, 1) := by decide +kernel
theorem dX5_beginData_46 : decode cX5_beginData 46 = .ok (.getfield 11, 3) := by decide +kernel
theorem dX5_beginData_49 : decode cX5_beginData 49 = .ok (.iconst 0, 1) := by decide +kernel
theorem dX5_beginData_50 : decode cX5_beginData 50 = .ok (.invokestatic 113, 3) := by decide +kernel
theorem dX5_beginData_53 : decode cX5_beginData 53 = .ok (.aload_n 0, 1) := by decide +kernel
theorem dX5_beginData_54 : decode cX5_beginData 54 = .ok (.invokevirtual 119, 3) := by decide +kernel
theorem dX5_beginData_57 : decode cX5_beginData 57 = .ok (.return_, 1) := by decide +kernel
def FX5_beginData (G : GG) (M : DD) (a : Nat)  : Option (DD) :=
  chk (((1 : Int32)) = 0 ∨ ((1 : Int32)) = 1) <|
  ltt (uI M a 7 ((1 : Int32))) fun M1 =>
  bnd (itr (fun (s3 : Int32 × DD) => ((if ((8 : Int32)) ≤ s3.1 then (some (.inr (s3.1, s3.2))) else
  (ltt (s3.2.1 a 2) fun x9 =>
  ltt ((x9 &&& ((7 : Int32)))) fun x10 =>
  if x10 = ((0 : Int32)) then (some (.inr (s3.1, s3.2))) else
  (bnd (FX5_plainBit G s3.2 a) fun y12 =>
  bnd (if y12.2 = ((0 : Int32)) then (ltt (y12.1.1 a 2) fun x16 =>
  none) else
  (some (y12.1))) fun (y13 : DD) =>
  ltt (s3.1 + (1 : Int32)) fun x14 =>
  some (.inl (x14, y13))))) : Option ((Int32 × DD) ⊕ (Int32 × DD)))) 1000000 ((0 : Int32), M1)) fun (y2 : Int32 × DD) =>
  bnd (FJ7_fill_53178 G y2.2 ((y2.2.2 a 10)) ((0 : Int32))) fun y5 =>
  bnd (FX5_beginArith G y5 a) fun y6 =>
  some y6
set_option maxHeartbeats 4000000 in
set_option maxRecDepth 100000 in
theorem kX5_beginData (l : Launch) (D : va_G) (ct : CT) (ad : Nat → Nat) (Z : Nat → Nat) (G : GG) (M : DD) (sz : Nat) (a : Nat)  (y : DD) (hc : a < G.1) (hk : G.2.1 a = 5) (hF : FX5_beginData G M a  = some y) : Met l yX5_beginData wuX5_beginData ({ frames := 2, cells := 0, slots := 0, locals := 42 }) (va_Pc [.ref (ad a)] (kB D ct ad Z G M sz)) (va_Qv (fun (_ : Unit) => True) (fun _ t => kE D ct ad G (wA ad G sz) y t) (wA ad G sz)) 0 0 (wA ad G sz) := by
  refine Met.ofW (cc := cX5_beginData) (maxL := 2) (ret := none) (by decide) rfl ?_
  intro p e s m args below meth c s₁ B hml hv
  obtain ⟨rfl, hsz, hP, hK, hD0, hZ, hN⟩ := hv
  have hx := B.exec
  have hb := B.bytes
  have hr := B.returns
  have hts := atoms_spec (ws := wuX5_beginData) B.pre
  have hown : s.vm.findClass RX5 = some m.cls := findClass_of_methodNamed B.named
  have hlocks := B.notSynchronized
  subst hsz
  have hD := wD_self (sz := s.heap.size) hD0
  have hA9 : ∀ q, s.heap.size ≤ q → wA ad G s.heap.size q := fun q h => Or.inr h
  generalize hAe : wA ad G s.heap.size = A at hD hA9 hZ ⊢
  have hS : va_S A s.heap s.heap [] := va_S.rf
  have hl := lv_entry ([.ref (ad a)]) (n := 2) (Nat.le_of_ble_eq_true rfl)
  rw [lg_entry_eq]
  generalize (lg_sl ([.ref (ad a)]) ++ List.replicate (2 - (lg_sl ([.ref (ad a)])).length) Slot.unset).toArray = ls at hl ⊢
  have hl : lv_has ls 2 [(0, .ref (ad a))] := hl
  unfold FX5_beginData at hF
  refine lv_aload_n hx hb dX5_beginData_0 rfl (lv_at hl 0 rfl) ?_
  refine lv_iconst (v := (1 : Int32)) hx hb dX5_beginData_1 (by decide) ?_
  obtain ⟨hz9, hF⟩ := chk_some hF
  refine va_put (D := D) (ci := 5) (v := .int (1 : Int32)) (ty := .boolean) (C := RX5) (T := TX5) (N := 17) hx hb hts (mus hf_X5) tyX5 tyX5_ok nmX5 hown hK hP hD hS a (wld_o ct ad G M hc hk (by decide)) rfl 7 (by decide) (hts (.fieldLink RX5 70 "VideoSuite$Reader" "inData" "Z") (mu mw_296)) (fun _ h9 => h9) rfl (by decide +kernel) (nar_z hz9).1 (nar_z hz9).2 (Nat.le_of_ble_eq_true rfl) dX5_beginData_2 (fun H locs hP hD hS => ?_)
  obtain ⟨M1, eM1, hF⟩ := ltt_some hF
  rw [set_oI ct ad G M hc hk (by decide) (by rfl), ← eM1] at hP hD
  refine lv_iconst (v := (0 : Int32)) hx hb dX5_beginData_5 (by decide) ?_
  refine lv_istore_n (lv' := [(1, .int (0 : Int32)), (0, .ref (ad a))]) hx hb dX5_beginData_6 rfl hl (by decide) rfl (fun ls hl => ?_)
  obtain ⟨y2, hy2, hF⟩ := bnd_some hF
  have K2 : ∀ (H : Heap) (locs : List Loc) (ls : Array Slot), va_P D classes (wld ct ad G y2.2) H → va_D A (wld ct ad G y2.2) → va_S A s.heap H locs → lv_has ls 2 [(1, .int y2.1), (0, .ref (ad a))] → W p l e (headSpec wuX5_beginData ({ frames := 2, cells := 0, slots := 0, locals := 42 })).room s m ([.ref (ad a)] : List Value).toArray below meth c H locs 0 0 (MQ below (va_Qv (fun (_ : Unit) => True) (fun _ t => kE D ct ad G A y t) A) ([.ref (ad a)] : List Value).toArray s 0 0 A) (F0 m 45 ls []) := by
    intro H locs ls hP hD hS hl
    refine lv_aload_n hx hb dX5_beginData_45 rfl (lv_at hl 1 rfl) ?_
    refine va_get (D := D) (ci := 5) (v := va_re ad (y2.2.2 a 10)) (C := RX5) (T := TX5) (N := 17) hx hb hts (mus hf_X5) hown hK hP a (wld_o ct ad G y2.2 hc hk (by decide)) rfl 10 (by decide) (hts (.fieldLink RX5 11 "VideoSuite$Reader" "state" "[I") (mu mw_299)) (fun _ h9 => h9) rfl dX5_beginData_46 ?_
    refine lv_iconst (v := (0 : Int32)) hx hb dX5_beginData_49 (by decide) ?_
    obtain ⟨y5, hy5, hF⟩ := bnd_some hF
    have hf9 := wA_in hD hA9 hS
    refine va_callv (va_runS (As := [va_re ad (y2.2.2 a 10), .int (0 : Int32)]) (rest := []) ⟨hx, hb, hml, hown, hts⟩ (kJ7_fill_53178 l D ct ad Z G y2.2 H.size ((y2.2.2 a 10)) ((0 : Int32)) y5 hy5) (va_cwS 2 hts gX5_beginData_J7_fill_53178 rfl rfl rfl (by decide +kernel) ⟨Nat.le_of_ble_eq_true rfl, Nat.le_of_ble_eq_true rfl⟩) ⟨fun a U g mk q => by obtain ⟨q0, q1, qP, qK, qD, qZ, qN⟩ := q; exact ⟨q0, q1, qP, va_K.moved (u := U) (U := U.calling g mk a) (Vm.Alike.refl U.vm) qK, qD, sF.moved (u := U) (U := U.calling g mk a) (Vm.Alike.refl U.vm) qZ, nF.same rfl qN⟩, fun U hU hW => ⟨rfl, by rw [hU], by rw [hU]; exact hP, va_K.moved hW.alike hK, hD.weaken (fun _ _ _ _ => trivial), by rw [hU]; exact ((hZ.kept hS.2.1).narrow hf9).moved hW.alike, hN.warm hW⟩⟩ rfl rfl hl.1 rfl (lv_room (Nat.le_of_ble_eq_true rfl)) dX5_beginData_50 ⟨(Nat.zero_le _), (Nat.zero_le _)⟩) hS (fun q _ h => hf9 q h) hf9 (fun u t H locs ht hvm hw hB hz1 hk1 hS => ?_)
    obtain ⟨hP, hK9, hD9⟩ := hB
    rw [ht] at hP
    have hD := hD9.weaken (fun _ q _ h => hf9 q.1 h)
    refine lv_aload_n hx hb dX5_beginData_53 rfl (lv_at hl 1 rfl) ?_
    obtain ⟨y6, hy6, hF⟩ := bnd_some hF
    have hf9 := wA_in hD hA9 hS
    refine va_callv (va_runV (As := []) (rest := []) ⟨hx, hb, hml, hown, hts⟩ (kX5_beginArith l D ct ad Z G y5 H.size a y6 hc hk hy6) (cwV 0 hts gX5_beginData_X5_beginArith rfl rfl rfl (by decide +kernel) ⟨Nat.le_of_ble_eq_true rfl, Nat.le_of_ble_eq_true rfl⟩) ⟨fun a U g mk q => by obtain ⟨q0, q1, qP, qK, qD, qZ, qN⟩ := q; exact ⟨q0, q1, qP, va_K.moved (u := U) (U := U.calling g mk a) (Vm.Alike.refl U.vm) qK, qD, sF.moved (u := U) (U := U.calling g mk a) (Vm.Alike.refl U.vm) qZ, nF.same rfl qN⟩, va_recv hK hP (ci := 5) (q0 := a) rfl (wld_o ct ad G y5 hc hk (by decide)), fun U hU hW => ⟨rfl, by rw [hU], by rw [hU]; exact hP, va_K.moved hW.alike hK, hD.weaken (fun _ _ _ _ => trivial), by rw [hU]; exact ((hZ.kept hS.2.1).narrow hf9).moved hW.alike, hN.warm hW⟩⟩ rfl rfl hl.1 rfl (lv_room (Nat.le_of_ble_eq_true rfl)) dX5_beginData_54 ⟨(Nat.zero_le _), (Nat.zero_le _)⟩) hS (fun q _ h => hf9 q h) hf9 (fun u t H locs ht hvm hw hB hz1 hk1 hS => ?_)
    obtain ⟨hP, hK9, hD9⟩ := hB
    rw [ht] at hP
    have hD := hD9.weaken (fun _ q _ h => hf9 q.1 h)
    obtain rfl := Option.some.inj hF
    exact W.vret hx hb hr (fun t ht hW => ⟨⟨(), rfl, trivial, ⟨by rw [ht]; exact hP, va_K.moved hW.alike hK, hD⟩⟩, hS.F ht⟩) hS.2.2 dX5_beginData_57
  clear hF
  refine itr_rule (fun (s3 : Int32 × DD) => ∀ (H : Heap) (locs : List Loc) (ls : Array Slot), va_P D classes (wld ct ad G s3.2) H → va_D A (wld ct ad G s3.2) → va_S A s.heap H locs → lv_has ls 2 [(1, .int s3.1), (0, .ref (ad a))] → W p l e (headSpec wuX5_beginData ({ frames := 2, cells := 0, slots := 0, locals := 42 })).room s m ([.ref (ad a)] : List Value).toArray below meth c H locs 0 0 (MQ below (va_Qv (fun (_ : Unit) => True) (fun _ t => kE D ct ad G A y t) A) ([.ref (ad a)] : List Value).toArray s 0 0 A) (F0 m 7 ls [])) ?_ _ _ hy2 _ _ _ hP hD hS (lv_sub hl [0, 1] rfl)
  rintro s3 ⟨z7, hF, hwz7⟩ H locs ls hP hD hS hl
  try dsimp only at hF
  refine lv_iload_n hx hb dX5_beginData_7 rfl (lv_at hl 0 rfl) ?_
  refine lv_bipush (v := (8 : Int32)) hx hb dX5_beginData_8 (by decide) ?_
  refine lv_icmp_ge (tgt := 45) hx hb dX5_beginData_10 (by decide) (fun c8 => ?_) (fun c8 => ?_)
  · rw [if_pos c8] at hF
    obtain rfl := Option.some.inj hF
    subst hwz7
    exact K2 _ _ _ hP hD hS (lv_sub hl [0, 1] rfl)
  · rw [if_neg c8] at hF
    refine lv_aload_n hx hb dX5_beginData_13 rfl (lv_at hl 1 rfl) ?_
    refine va_get (D := D) (ci := 5) (v := .int (s3.2.1 a 2)) (C := RX5) (T := TX5) (N := 17) hx hb hts (mus hf_X5) hown hK hP a (wld_o ct ad G s3.2 hc hk (by decide)) rfl 2 (by decide) (hts (.fieldLink RX5 57 "VideoSuite$Reader" "place" "I") (mu mw_289)) (fun _ h9 => h9) rfl dX5_beginData_14 ?_
    obtain ⟨x9, ex9, hF⟩ := ltt_some hF
    refine lv_topi (fun zx9 ezx9 => ?_)
    obtain rfl : x9 = zx9 := ex9.trans ezx9.symm
    refine lv_bipush (v := (7 : Int32)) hx hb dX5_beginData_17 (by decide) ?_
    refine lv_iand hx hb dX5_beginData_19 ?_
    obtain ⟨x10, ex10, hF⟩ := ltt_some hF
    refine lv_topi (fun zx10 ezx10 => ?_)
    obtain rfl : x10 = zx10 := ex10.trans ezx10.symm
    refine lv_if_eq (tgt := 45) hx hb dX5_beginData_20 (by decide) (fun c11 => ?_) (fun c11 => ?_)
    · rw [if_pos c11] at hF
      obtain rfl := Option.some.inj hF
      subst hwz7
      exact K2 _ _ _ hP hD hS (lv_sub hl [0, 1] rfl)
    · rw [if_neg c11] at hF
      refine lv_aload_n hx hb dX5_beginData_23 rfl (lv_at hl 1 rfl) ?_
      obtain ⟨y12, hy12, hF⟩ := bnd_some hF
      have hf9 := wA_in hD hA9 hS
      refine va_calli (va_runV (As := []) (rest := []) ⟨hx, hb, hml, hown, hts⟩ (kX5_plainBit l D ct ad Z G s3.2 H.size a y12 hc hk hy12) (cwV 0 hts gX5_beginData_X5_plainBit rfl rfl rfl (by decide +kernel) ⟨Nat.le_of_ble_eq_true rfl, Nat.le_of_ble_eq_true rfl⟩) ⟨fun a U g mk q => by obtain ⟨q0, q1, qP, qK, qD, qZ, qN⟩ := q; exact ⟨q0, q1, qP, va_K.moved (u := U) (U := U.calling g mk a) (Vm.Alike.refl U.vm) qK, qD, sF.moved (u := U) (U := U.calling g mk a) (Vm.Alike.refl U.vm) qZ, nF.same rfl qN⟩, va_recv hK hP (ci := 5) (q0 := a) rfl (wld_o ct ad G s3.2 hc hk (by decide)), fun U hU hW => ⟨rfl, by rw [hU], by rw [hU]; exact hP, va_K.moved hW.alike hK, hD.weaken (fun _ _ _ _ => trivial), by rw [hU]; exact ((hZ.kept hS.2.1).narrow hf9).moved hW.alike, hN.warm hW⟩⟩ rfl rfl hl.1 rfl (lv_room (Nat.le_of_ble_eq_true rfl)) dX5_beginData_24 ⟨(Nat.zero_le _), (Nat.zero_le _)⟩) hS (fun q _ h => hf9 q h) hf9 (fun r u t H locs ht hvm hw hB hz1 hk1 hS => ?_)
      obtain ⟨hP, hK9, hD9⟩ := hB
      rw [ht] at hP
      try dsimp only at hw
      subst hw
      have hD := hD9.weaken (fun _ q _ h => hf9 q.1 h)
      obtain ⟨y13, hy13, hF⟩ := bnd_some hF
      have J13 : ∀ (H : Heap) (locs : List Loc) (ls : Array Slot), va_P D classes (wld ct ad G y13) H → va_D A (wld ct ad G y13) → va_S A s.heap H locs → lv_has ls 2 [(1, .int s3.1), (0, .ref (ad a))] → W p l e (headSpec wuX5_beginData ({ frames := 2, cells := 0, slots := 0, locals := 42 })).room s m ([.ref (ad a)] : List Value).toArray below meth c H locs 0 0 (MQ below (va_Qv (fun (_ : Unit) => True) (fun _ t => kE D ct ad G A y t) A) ([.ref (ad a)] : List Value).toArray s 0 0 A) (F0 m 39 ls []) := by
        intro H locs ls hP hD hS hl
        obtain ⟨x14, ex14, hF⟩ := ltt_some hF
        refine lv_iinc (v := x14) (lv' := [(1, .int x14), (0, .ref (ad a))]) hx hb dX5_beginData_39 hl (k := 0) rfl (by rw [ex14]; rfl) (by decide) rfl (fun ls hl => ?_)
        refine lv_goto (tgt := 7) hx hb dX5_beginData_42 (by decide) ?_
        obtain rfl := Option.some.inj hF
        exact hwz7 _ _ _ hP hD hS (lv_sub hl [0, 1] rfl)
      clear hF
      have hF := hy13
      clear hy13
      refine lv_if_ne (tgt := 39) hx hb dX5_beginData_27 (by decide) (fun c15 => ?_) (fun c15 => ?_)
      · rw [if_neg c15] at hF
        obtain rfl := Option.some.inj hF
        exact J13 _ _ _ hP hD hS (lv_sub hl [0, 1] rfl)
      · rw [if_pos c15] at hF
        refine lv_aload_n hx hb dX5_beginData_30 rfl (lv_at hl 1 rfl) ?_
        refine lv_iconst (v := (2 : Int32)) hx hb dX5_beginData_31 (by decide) ?_
        refine lv_aload_n hx hb dX5_beginData_32 rfl (lv_at hl 1 rfl) ?_
        refine va_get (D := D) (ci := 5) (v := .int (y12.1.1 a 2)) (C := RX5) (T := TX5) (N := 17) hx hb hts (mus hf_X5) hown hK hP a (wld_o ct ad G y12.1 hc hk (by decide)) rfl 2 (by decide) (hts (.fieldLink RX5 57 "VideoSuite$Reader" "place" "I") (mu mw_289)) (fun _ h9 => h9) rfl dX5_beginData_33 ?_
        obtain ⟨x16, ex16, hF⟩ := ltt_some hF
        refine lv_topi (fun zx16 ezx16 => ?_)
        obtain rfl : x16 = zx16 := ex16.trans ezx16.symm
        cases hF
set_option maxRecDepth 20000 in
theorem gX5_code_X5_record : GoodIn wuX5_code (wsV RX5 137 RX5 yX5_record wuX5_record) := gu_V mw_1346 mw_1348 mw_33 mw_169 mw_1349
set_option maxRecDepth 20000 in
theorem gX5_code_X5_bit : GoodIn wuX5_code (wsV RX5 134 RX5 yX5_bit wuX5_bit) := gu_V mw_1331 mw_1332 mw_1333 mw_169 mw_1334
set_option maxRecDepth 20000 in
theorem dX5_code_0 : decode cX5_code 0 = .ok (.aload_n 0, 1) := by decide +kernel
theorem dX5_code_1 : decode cX5_code 1 = .ok (.aload_n 0, 1) := by decide +kernel
theorem dX5_code_2 : decode cX5_code 2 = .ok (.getfield 57, 3) := by decide +kernel
theorem dX5_code_5 : decode cX5_code 5 = .ok (.putfield 60, 3) := by decide +kernel
theorem dX5_code_8 : decode cX5_code 8 = .ok (.iload_n 2, 1) := by decide +kernel
theorem dX5_code_9 : decode cX5_code 9 = .ok (.istore_n 3, 1) := by decide +kernel
theorem dX5_code_10 : decode cX5_code 10 = .ok (.iconst 0, 1) := by decide +kernel
theorem dX5_code_11 : decode cX5_code 11 = .ok (.istore 4, 2) := by decide +kernel
theorem dX5_code_13 : decode cX5_code 13 = .ok (.iload 4, 2) := by decide +kernel
theorem dX5_code_15 : decode cX5_code 15 = .ok (.bipush 17, 2) := by decide +kernel
theorem dX5_code_17 : decode cX5_code 17 = .ok (.if_icmp .ge 43, 3) := by decide +kernel
theorem dX5_code_20 : decode cX5_code 20 = .ok (.iload_n 3, 1) := by decide +kernel
theorem dX5_code_21 : decode cX5_code 21 = .ok (.ifCond .lt 39, 3) := by decide +kernel
theorem dX5_code_24 : decode cX5_code 24 = .ok (.aload_n 0, 1) := by decide +kernel
theorem dX5_code_25 : decode cX5_code 25 = .ok (.getfield 18, 3) := by decide +kernel
theorem dX5_code_28 : decode cX5_code 28 = .ok (.iconst 2, 1) := by decide +kernel
theorem dX5_code_29 : decode cX5_code 29 = .ok (.iload_n 3, 1) := by decide +kernel
theorem dX5_code_30 : decode cX5_code 30 = .ok (.imul, 1) := by decide +kernel
theorem dX5_code_31 : decode cX5_code 31 = .ok (.aload_n 0, 1) := by decide +kernel
theorem dX5_code_32 : decode cX5_code 32 = .ok (.iload_n 1, 1) := by decide +kernel
theorem dX5_code_33 : decode cX5_code 33 = .ok (.iload 4, 2) := by decide +kernel
theorem dX5_code_35 : decode cX5_code 35 = .ok (.invokevirtual 134, 3) := by decide +kernel
theorem dX5_code_38 : decode cX5_code 38 = .ok (.iadd, 1) := by decide +kernel
theorem dX5_code_39 : decode cX5_code 39 = .ok (.iaload, 1) := by decide +kernel
theorem dX5_code_40 : decode cX5_code 40 = .ok (.istore_n 3, 1) := by decide +kernel
theorem dX5_code_41 : decode cX5_code 41 = .ok (.iload_n 3, 1) := by decide +kernel
theorem dX5_code_42 : decode cX5_code 42 = .ok (.ifCond .ne 12, 3) := by decide +kernel
theorem dX5_code_45 : decode cX5_code 45 = .ok (.aload_n 0, 1) := by decide +kernel
theorem dX5_code_46 : decode cX5_code 46 = .ok (.iconst 4, 1) := by decide +kernel
theorem dX5_code_47 : decode cX5_code 47 = .ok (.aload_n 0, 1) := by decide +kernel
theorem dX5_code_48 : decode cX5_code 48 = .ok (.getfield 60, 3) := by decide +kernel
theorem dX5_code_51 : decode cX5_code 51 = .ok (.invokevirtual 89, 3) := by decide +kernel
theorem dX5_code_54 : decode cX5_code 54 = .ok (.iinc 4 1, 3) := by decide +kernel
theorem dX5_code_57 : decode cX5_code 57 = .ok (.goto (-44), 3) := by decide +kernel
theorem dX5_code_60 : decode cX5_code 60 = .ok (.iconst (-1), 1) := by decide +kernel
theorem dX5_code_61 : decode cX5_code 61 = .ok (.iload_n 3, 1) := by decide +kernel
theorem dX5_code_62 : decode cX5_code 62 = .ok (.isub, 1) := by decide +kernel
theorem dX5_code_63 : decode cX5_code 63 = .ok (.istore 4, 2) := by decide +kernel
theorem dX5_code_65 : decode cX5_code 65 = .ok (.iload_n 2, 1) := by decide +kernel
theorem dX5_code_66 : decode cX5_code 66 = .ok (.iconst 4, 1) := by decide +kernel
theorem dX5_code_67 : decode cX5_code 67 = .ok (.if_icmp .ge 41, 3) := by decide +kernel
theorem dX5_code_70 : decode cX5_code 70 = .ok (.iload 4, 2) := by decide +kernel
theorem dX5_code_72 : decode cX5_code 72 = .ok (.iload 4, 2) := by decide +kernel
theorem dX5_code_74 : decode cX5_code 74 = .ok (.iconst 1, 1) := by decide +kernel
theorem dX5_code_75 : decode cX5_code 75 = .ok (.if_icmp .ge 7, 3) := by decide +kernel
theorem dX5_code_78 : decode cX5_code 78 = .ok (.iconst 0, 1) := by decide +kernel
theorem dX5_code_79 : decode cX5_code 79 = .ok (.goto 26, 3) := by decide +kernel
theorem dX5_code_82 : decode cX5_code 82 = .ok (.iload 4, 2) := by decide +kernel
theorem dX5_code_84 : decode cX5_code 84 = .ok (.iconst 3, 1) := by decide +kernel
theorem dX5_code_85 : decode cX5_code 85 = .ok (.if_icmp .ge 7, 3) := by decide +kernel
theorem dX5_code_88 : decode cX5_code 88 = .ok (.iconst 3, 1) := by decide +kernel
theorem dX5_code_89 : decode cX5_code 89 = .ok (.goto 16, 3) := by decide +kernel
theorem dX5_code_92 : decode cX5_code 92 = .ok (.iload 4, 2) := by decide +kernel
theorem dX5_code_94 : decode cX5_code 94 = .ok (.bipush 6, 2) := by decide +kernel
theorem dX5_code_96 : decode cX5_code 96 = .ok (.if_icmp .ge 7, 3) := by decide +kernel
theorem dX5_code_99 : decode cX5_code 99 = .ok (.iconst 5, 1) := by decide +kernel
theorem dX5_code_100 : decode cX5_code 100 = .ok (.goto 5, 3) := by decide +kernel
theorem dX5_code_103 : decode cX5_code 103 = .ok (.bipush 6, 2) := by decide +kernel
theorem dX5_code_105 : decode cX5_code 105 = .ok (.iadd, 1) := by decide +kernel
theorem dX5_code_106 : decode cX5_code 106 = .ok (.istore 4, 2) := by decide +kernel
theorem dX5_code_108 : decode cX5_code 108 = .ok (.aload_n 0, 1) := by decide +kernel
theorem dX5_code_109 : decode cX5_code 109 = .ok (.iload 4, 2) := by decide +kernel
theorem dX5_code_111 : decode cX5_code 111 = .ok (.invokevirtual 137, 3) := by decide +kernel
theorem dX5_code_114 : decode cX5_code 114 = .ok (.iload 4, 2) := by decide +kernel
theorem dX5_code_116 : decode cX5_code 116 = .ok (.ireturn, 1) := by decide +kernel
def FX5_code (G : GG) (M : DD) (a : Nat) (p0 : Int32) (p1 : Int32) : Option (DD × Int32) :=
  ltt (M.1 a 2) fun x1 =>
  ltt (uI M a 4 x1) fun M2 =>
  bnd (itr (fun (s4 : Int32 × Int32 × DD) => ((if ((17 : Int32)) ≤ s4.2.1 then (some (.inr (s4.1, s4.2.1, s4.2.2))) else
  (if s4.1 < ((0 : Int32)) then (some (.inr (s4.1, s4.2.1, s4.2.2))) else
  (ltt ((((2 : Int32)) * s4.1)) fun x20 =>
  bnd (FX5_bit G s4.2.2 a p0 s4.2.1) fun y21 =>
  ltt ((x20 + y21.2)) fun x22 =>
  dr G 13 ((s4.2.2.2 a 13)) fun b23 =>
  chk (¬ (x22 < 0 ∨ G.2.2 b23 ≤ x22.toNatClampNeg)) <|
  ltt (y21.1.1 b23 x22.toNatClampNeg) fun x24 =>
  bnd (if x24 = ((0 : Int32)) then (ltt (y21.1.1 a 4) fun x28 =>
  none) else
  (some (y21.1))) fun (y25 : DD) =>
  ltt (s4.2.1 + (1 : Int32)) fun x26 =>
  some (.inl (x24, x26, y25))))) : Option ((Int32 × Int32 × DD) ⊕ (Int32 × Int32 × DD)))) 1000000 (p1, (0 : Int32), M2)) fun (y3 : Int32 × Int32 × DD) =>
  ltt ((((-1 : Int32)) - y3.1)) fun x6 =>
  bnd (if ((4 : Int32)) ≤ p1 then (some (x6)) else
  (bnd (if ((1 : Int32)) ≤ x6 then (bnd (if ((3 : Int32)) ≤ x6 then (bnd (if ((6 : Int32)) ≤ x6 then (some ((6 : Int32))) else
  (some ((5 : Int32)))) fun (y15 : Int32) =>
  some (y15)) else
  (some ((3 : Int32)))) fun (y13 : Int32) =>
  some (y13)) else
  (some ((0 : Int32)))) fun (y10 : Int32) =>
  ltt ((x6 + y10)) fun x11 =>
  some (x11))) fun (y7 : Int32) =>
  bnd (FX5_record G y3.2.2 a y7) fun y8 =>
  some (y8, y7)
set_option maxHeartbeats 4000000 in
set_option maxRecDepth 100000 in
theorem kX5_code (l : Launch) (D : va_G) (ct : CT) (ad : Nat → Nat) (Z : Nat → Nat) (G : GG) (M : DD) (sz : Nat) (a : Nat) (p0 : Int32) (p1 : Int32) (y : DD × Int32) (hc : a < G.1) (hk : G.2.1 a = 5) (hF : FX5_code G M a p0 p1 = some y) : Met l yX5_code wuX5_code ({ frames := 1, cells := 0, slots := 0, locals := 27 }) (va_Pc [.ref (ad a), .int p0, .int p1] (kB D ct ad Z G M sz)) (va_Qi (fun (q : Int32) (_ : Unit) => q = y.2) (fun _ t => kE D ct ad G (wA ad G sz) y.1 t) (wA ad G sz)) 0 0 (wA ad G sz) := by
  refine Met.ofW (cc := cX5_code) (maxL := 5) (ret := (some .int)) (by decide) rfl ?_
  intro p e s m args below meth c s₁ B hml hv
  obtain ⟨rfl, hsz, hP, hK, hD0, hZ, hN⟩ := hv
  have hx := B.exec
  have hb := B.bytes
  have hr := B.returns
  have hts := atoms_spec (ws := wuX5_code) B.pre
  have hown : s.vm.findClass RX5 = some m.cls := findClass_of_methodNamed B.named
  have hlocks := B.notSynchronized
  subst hsz
  have hD := wD_self (sz := s.heap.size) hD0
  have hA9 : ∀ q, s.heap.size ≤ q → wA ad G s.heap.size q := fun q h => Or.inr h
  generalize hAe : wA ad G s.heap.size = A at hD hA9 hZ ⊢
  have hS : va_S A s.heap s.heap [] := va_S.rf
  have hl := lv_entry ([.ref (ad a), .int p0, .int p1]) (n := 5) (Nat.le_of_ble_eq_true rfl)
  rw [lg_entry_eq]
  generalize (lg_sl ([.ref (ad a), .int p0, .int p1]) ++ List.replicate (5 - (lg_sl ([.ref (ad a), .int p0, .int p1])).length) Slot.unset).toArray = ls at hl ⊢
  have hl : lv_has ls 5 [(0, .ref (ad a)), (1, .int p0), (2, .int p1)] := hl
  unfold FX5_code at hF
  refine lv_aload_n hx hb dX5_code_0 rfl (lv_at hl 0 rfl) ?_
  refine lv_aload_n hx hb dX5_code_1 rfl (lv_at hl 0 rfl) ?_
  refine va_get (D := D) (ci := 5) (v := .int (M.1 a 2)) (C := RX5) (T := TX5) (N := 17) hx hb hts (mus hf_X5) hown hK hP a (wld_o ct ad G M hc hk (by decide)) rfl 2 (by decide) (hts (.fieldLink RX5 57 "VideoSuite$Reader" "place" "I") (mu mw_289)) (fun _ h9 => h9) rfl dX5_code_2 ?_
  obtain ⟨x1, ex1, hF⟩ := ltt_some hF
  refine lv_topi (fun zx1 ezx1 => ?_)
  obtain rfl : x1 = zx1 := ex1.trans ezx1.symm
  refine va_put (D := D) (ci := 5) (v := .int x1) (ty := .int) (C := RX5) (T := TX5) (N := 17) hx hb hts (mus hf_X5) tyX5 tyX5_ok nmX5 hown hK hP hD hS a (wld_o ct ad G M hc hk (by decide)) rfl 4 (by decide) (hts (.fieldLink RX5 60 "VideoSuite$Reader" "begin" "I") (mu mw_292)) (fun _ h9 => h9) rfl (by decide +kernel) rfl rfl (Nat.le_of_ble_eq_true rfl) dX5_code_5 (fun H locs hP hD hS => ?_)
  obtain ⟨M2, eM2, hF⟩ := ltt_some hF
  rw [set_oI ct ad G M hc hk (by decide) (by rfl), ← eM2] at hP hD
  refine lv_iload_n hx hb dX5_code_8 rfl (lv_at hl 2 rfl) ?_
  refine lv_istore_n (lv' := [(3, .int p1), (0, .ref (ad a)), (1, .int p0), (2, .int p1)]) hx hb dX5_code_9 rfl hl (by decide) rfl (fun ls hl => ?_)
  refine lv_iconst (v := (0 : Int32)) hx hb dX5_code_10 (by decide) ?_
  refine lv_istore (lv' := [(4, .int (0 : Int32)), (3, .int p1), (0, .ref (ad a)), (1, .int p0), (2, .int p1)]) hx hb dX5_code_11 hl (by decide) rfl (fun ls hl => ?_)
  obtain ⟨y3, hy3, hF⟩ := bnd_some hF
  have K3 : ∀ (H : Heap) (locs : List Loc) (ls : Array Slot), va_P D classes (wld ct ad G y3.2.2) H → va_D A (wld ct ad G y3.2.2) → va_S A s.heap H locs → lv_has ls 5 [(4, .int y3.2.1), (3, .int y3.1), (0, .ref (ad a)), (1, .int p0), (2, .int p1)] → W p l e (headSpec wuX5_code ({ frames := 1, cells := 0, slots := 0, locals := 27 })).room s m ([.ref (ad a), .int p0, .int p1] : List Value).toArray below meth c H locs 0 0 (MQ below (va_Qi (fun (q : Int32) (_ : Unit) => q = y.2) (fun _ t => kE D ct ad G A y.1 t) A) ([.ref (ad a), .int p0, .int p1] : List Value).toArray s 0 0 A) (F0 m 60 ls []) := by
    intro H locs ls hP hD hS hl
    refine lv_iconst (v := (-1 : Int32)) hx hb dX5_code_60 (by decide) ?_
    refine lv_iload_n hx hb dX5_code_61 rfl (lv_at hl 1 rfl) ?_
    refine lv_isub hx hb dX5_code_62 ?_
    obtain ⟨x6, ex6, hF⟩ := ltt_some hF
    refine lv_topi (fun zx6 ezx6 => ?_)
    obtain rfl : x6 = zx6 := ex6.trans ezx6.symm
    refine lv_istore (lv' := [(4, .int x6), (3, .int y3.1), (0, .ref (ad a)), (1, .int p0), (2, .int p1)]) hx hb dX5_code_63 hl (by decide) rfl (fun ls hl => ?_)
    refine lv_iload_n hx hb dX5_code_65 rfl (lv_at hl 4 rfl) ?_
    refine lv_iconst (v := (4 : Int32)) hx hb dX5_code_66 (by decide) ?_
    obtain ⟨y7, hy7, hF⟩ := bnd_some hF
    have J7 : ∀ (H : Heap) (locs : List Loc) (ls : Array Slot), va_P D classes (wld ct ad G y3.2.2) H → va_D A (wld ct ad G y3.2.2) → va_S A s.heap H locs → lv_has ls 5 [(4, .int y7), (3, .int y3.1), (0, .ref (ad a)), (1, .int p0), (2, .int p1)] → W p l e (headSpec wuX5_code ({ frames := 1, cells := 0, slots := 0, locals := 27 })).room s m ([.ref (ad a), .int p0, .int p1] : List Value).toArray below meth c H locs 0 0 (MQ below (va_Qi (fun (q : Int32) (_ : Unit) => q = y.2) (fun _ t => kE D ct ad G A y.1 t) A) ([.ref (ad a), .int p0, .int p1] : List Value).toArray s 0 0 A) (F0 m 108 ls []) := by
      intro H locs ls hP hD hS hl
      refine lv_aload_n hx hb dX5_code_108 rfl (lv_at hl 2 rfl) ?_
      refine lv_iload hx hb dX5_code_109 (lv_at hl 0 rfl) ?_
      obtain ⟨y8, hy8, hF⟩ := bnd_some hF
      have hf9 := wA_in hD hA9 hS
      refine va_callv (va_runV (As := [.int y7]) (rest := []) ⟨hx, hb, hml, hown, hts⟩ (kX5_record l D ct ad Z G y3.2.2 H.size a y7 y8 hc hk hy8) (cwV 1 hts gX5_code_X5_record rfl rfl rfl (by decide +kernel) ⟨Nat.le_of_ble_eq_true rfl, Nat.le_of_ble_eq_true rfl⟩) ⟨fun a U g mk q => by obtain ⟨q0, q1, qP, qK, qD, qZ, qN⟩ := q; exact ⟨q0, q1, qP, va_K.moved (u := U) (U := U.calling g mk a) (Vm.Alike.refl U.vm) qK, qD, sF.moved (u := U) (U := U.calling g mk a) (Vm.Alike.refl U.vm) qZ, nF.same rfl qN⟩, va_recv hK hP (ci := 5) (q0 := a) rfl (wld_o ct ad G y3.2.2 hc hk (by decide)), fun U hU hW => ⟨rfl, by rw [hU], by rw [hU]; exact hP, va_K.moved hW.alike hK, hD.weaken (fun _ _ _ _ => trivial), by rw [hU]; exact ((hZ.kept hS.2.1).narrow hf9).moved hW.alike, hN.warm hW⟩⟩ rfl rfl hl.1 rfl (lv_room (Nat.le_of_ble_eq_true rfl)) dX5_code_111 ⟨(Nat.zero_le _), (Nat.zero_le _)⟩) hS (fun q _ h => hf9 q h) hf9 (fun u t H locs ht hvm hw hB hz1 hk1 hS => ?_)
      obtain ⟨hP, hK9, hD9⟩ := hB
      rw [ht] at hP
      have hD := hD9.weaken (fun _ q _ h => hf9 q.1 h)
      refine lv_iload hx hb dX5_code_114 (lv_at hl 0 rfl) ?_
      obtain rfl := Option.some.inj hF
      exact W.iret (v := y7) hx hb hr (fun t ht hW => ⟨⟨_, (), rfl, rfl, ⟨by rw [ht]; exact hP, va_K.moved hW.alike hK, hD⟩⟩, hS.F ht⟩) hS.2.2 dX5_code_116
    clear hF
    have hF := hy7
    clear hy7
    refine lv_icmp_ge (tgt := 108) hx hb dX5_code_67 (by decide) (fun c9 => ?_) (fun c9 => ?_)
    · rw [if_pos c9] at hF
      obtain rfl := Option.some.inj hF
      exact J7 _ _ _ hP hD hS (lv_sub hl [0, 1, 2, 3, 4] rfl)
    · rw [if_neg c9] at hF
      refine lv_iload hx hb dX5_code_70 (lv_at hl 0 rfl) ?_
      refine lv_iload hx hb dX5_code_72 (lv_at hl 0 rfl) ?_
      refine lv_iconst (v := (1 : Int32)) hx hb dX5_code_74 (by decide) ?_
      obtain ⟨y10, hy10, hF⟩ := bnd_some hF
      have J10 : ∀ (H : Heap) (locs : List Loc) (ls : Array Slot), va_P D classes (wld ct ad G y3.2.2) H → va_D A (wld ct ad G y3.2.2) → va_S A s.heap H locs → lv_has ls 5 [(4, .int x6), (3, .int y3.1), (0, .ref (ad a)), (1, .int p0), (2, .int p1)] → W p l e (headSpec wuX5_code ({ frames := 1, cells := 0, slots := 0, locals := 27 })).room s m ([.ref (ad a), .int p0, .int p1] : List Value).toArray below meth c H locs 0 0 (MQ below (va_Qi (fun (q : Int32) (_ : Unit) => q = y.2) (fun _ t => kE D ct ad G A y.1 t) A) ([.ref (ad a), .int p0, .int p1] : List Value).toArray s 0 0 A) (F0 m 105 ls [.int y10, .int x6]) := by
        intro H locs ls hP hD hS hl
        refine lv_iadd hx hb dX5_code_105 ?_
        obtain ⟨x11, ex11, hF⟩ := ltt_some hF
        refine lv_topi (fun zx11 ezx11 => ?_)
        obtain rfl : x11 = zx11 := ex11.trans ezx11.symm
        refine lv_istore (lv' := [(4, .int x11), (3, .int y3.1), (0, .ref (ad a)), (1, .int p0), (2, .int p1)]) hx hb dX5_code_106 hl (by decide) rfl (fun ls hl => ?_)
        obtain rfl := Option.some.inj hF
        exact J7 _ _ _ hP hD hS (lv_sub hl [0, 1, 2, 3, 4] rfl)
      clear hF
      have hF := hy10
      clear hy10
      refine lv_icmp_ge (tgt := 82) hx hb dX5_code_75 (by decide) (fun c12 => ?_) (fun c12 => ?_)
      · rw [if_pos c12] at hF
        refine lv_iload hx hb dX5_code_82 (lv_at hl 0 rfl) ?_
        refine lv_iconst (v := (3 : Int32)) hx hb dX5_code_84 (by decide) ?_
        obtain ⟨y13, hy13, hF⟩ := bnd_some hF
        have J13 : ∀ (H : Heap) (locs : List Loc) (ls : Array Slot), va_P D classes (wld ct ad G y3.2.2) H → va_D A (wld ct ad G y3.2.2) → va_S A s.heap H locs → lv_has ls 5 [(4, .int x6), (3, .int y3.1), (0, .ref (ad a)), (1, .int p0), (2, .int p1)] → W p l e (headSpec wuX5_code ({ frames := 1, cells := 0, slots := 0, locals := 27 })).room s m ([.ref (ad a), .int p0, .int p1] : List Value).toArray below meth c H locs 0 0 (MQ below (va_Qi (fun (q : Int32) (_ : Unit) => q = y.2) (fun _ t => kE D ct ad G A y.1 t) A) ([.ref (ad a), .int p0, .int p1] : List Value).toArray s 0 0 A) (F0 m 105 ls [.int y13, .int x6]) := by
          intro H locs ls hP hD hS hl
          obtain rfl := Option.some.inj hF
          exact J10 _ _ _ hP hD hS (lv_sub hl [0, 1, 2, 3, 4] rfl)
        clear hF
        have hF := hy13
        clear hy13
        refine lv_icmp_ge (tgt := 92) hx hb dX5_code_85 (by decide) (fun c14 => ?_) (fun c14 => ?_)
        · rw [if_pos c14] at hF
          refine lv_iload hx hb dX5_code_92 (lv_at hl 0 rfl) ?_
          refine lv_bipush (v := (6 : Int32)) hx hb dX5_code_94 (by decide) ?_
          obtain ⟨y15, hy15, hF⟩ := bnd_some hF
          have J15 : ∀ (H : Heap) (locs : List Loc) (ls : Array Slot), va_P D classes (wld ct ad G y3.2.2) H → va_D A (wld ct ad G y3.2.2) → va_S A s.heap H locs → lv_has ls 5 [(4, .int x6), (3, .int y3.1), (0, .ref (ad a)), (1, .int p0), (2, .int p1)] → W p l e (headSpec wuX5_code ({ frames := 1, cells := 0, slots := 0, locals := 27 })).room s m ([.ref (ad a), .int p0, .int p1] : List Value).toArray below meth c H locs 0 0 (MQ below (va_Qi (fun (q : Int32) (_ : Unit) => q = y.2) (fun _ t => kE D ct ad G A y.1 t) A) ([.ref (ad a), .int p0, .int p1] : List Value).toArray s 0 0 A) (F0 m 105 ls [.int y15, .int x6]) := by
            intro H locs ls hP hD hS hl
            obtain rfl := Option.some.inj hF
            exact J13 _ _ _ hP hD hS (lv_sub hl [0, 1, 2, 3, 4] rfl)
          clear hF
          have hF := hy15
          clear hy15
          refine lv_icmp_ge (tgt := 103) hx hb dX5_code_96 (by decide) (fun c16 => ?_) (fun c16 => ?_)
          · rw [if_pos c16] at hF
            refine lv_bipush (v := (6 : Int32)) hx hb dX5_code_103 (by decide) ?_
            obtain rfl := Option.some.inj hF
            exact J15 _ _ _ hP hD hS (lv_sub hl [0, 1, 2, 3, 4] rfl)
          · rw [if_neg c16] at hF
            refine lv_iconst (v := (5 : Int32)) hx hb dX5_code_99 (by decide) ?_
            refine lv_goto (tgt := 105) hx hb dX5_code_100 (by decide) ?_
            obtain rfl := Option.some.inj hF
            exact J15 _ _ _ hP hD hS (lv_sub hl [0, 1, 2, 3, 4] rfl)
        · rw [if_neg c14] at hF
          refine lv_iconst (v := (3 : Int32)) hx hb dX5_code_88 (by decide) ?_
          refine lv_goto (tgt := 105) hx hb dX5_code_89 (by decide) ?_
          obtain rfl := Option.some.inj hF
          exact J13 _ _ _ hP hD hS (lv_sub hl [0, 1, 2, 3, 4] rfl)
      · rw [if_neg c12] at hF
        refine lv_iconst (v := (0 : Int32)) hx hb dX5_code_78 (by decide) ?_
        refine lv_goto (tgt := 105) hx hb dX5_code_79 (by decide) ?_
        obtain rfl := Option.some.inj hF
        exact J10 _ _ _ hP hD hS (lv_sub hl [0, 1, 2, 3, 4] rfl)
  clear hF
  refine itr_rule (fun (s4 : Int32 × Int32 × DD) => ∀ (H : Heap) (locs : List Loc) (ls : Array Slot), va_P D classes (wld ct ad G s4.2.2) H → va_D A (wld ct ad G s4.2.2) → va_S A s.heap H locs → lv_has ls 5 [(4, .int s4.2.1), (3, .int s4.1), (0, .ref (ad a)), (1, .int p0), (2, .int p1)] → W p l e (headSpec wuX5_code ({ frames := 1, cells := 0, slots := 0, locals := 27 })).room s m ([.ref (ad a), .int p0, .int p1] : List Value).toArray below meth c H locs 0 0 (MQ below (va_Qi (fun (q : Int32) (_ : Unit) => q = y.2) (fun _ t => kE D ct ad G A y.1 t) A) ([.ref (ad a), .int p0, .int p1] : List Value).toArray s 0 0 A) (F0 m 13 ls [])) ?_ _ _ hy3 _ _ _ hP hD hS (lv_sub hl [0, 1, 2, 3, 4] rfl)
  rintro s4 ⟨z17, hF, hwz17⟩ H locs ls hP hD hS hl
  try dsimp only at hF
  refine lv_iload hx hb dX5_code_13 (lv_at hl 0 rfl) ?_
  refine lv_bipush (v := (17 : Int32)) hx hb dX5_code_15 (by decide) ?_
  refine lv_icmp_ge (tgt := 60) hx hb dX5_code_17 (by decide) (fun c18 => ?_) (fun c18 => ?_)
  · rw [if_pos c18] at hF
    obtain rfl := Option.some.inj hF
    subst hwz17
    exact K3 _ _ _ hP hD hS (lv_sub hl [0, 1, 2, 3, 4] rfl)
  · rw [if_neg c18] at hF
    refine lv_iload_n hx hb dX5_code_20 rfl (lv_at hl 1 rfl) ?_
    refine lv_if_lt (tgt := 60) hx hb dX5_code_21 (by decide) (fun c19 => ?_) (fun c19 => ?_)
    · rw [if_pos c19] at hF
      obtain rfl := Option.some.inj hF
      subst hwz17
      exact K3 _ _ _ hP hD hS (lv_sub hl [0, 1, 2, 3, 4] rfl)
    · rw [if_neg c19] at hF
      refine lv_aload_n hx hb dX5_code_24 rfl (lv_at hl 2 rfl) ?_
      refine va_get (D := D) (ci := 5) (v := va_re ad (s4.2.2.2 a 13)) (C := RX5) (T := TX5) (N := 17) hx hb hts (mus hf_X5) hown hK hP a (wld_o ct ad G s4.2.2 hc hk (by decide)) rfl 13 (by decide) (hts (.fieldLink RX5 18 "VideoSuite$Reader" "tree" "[I") (mu mw_304)) (fun _ h9 => h9) rfl dX5_code_25 ?_
      refine lv_iconst (v := (2 : Int32)) hx hb dX5_code_28 (by decide) ?_
      refine lv_iload_n hx hb dX5_code_29 rfl (lv_at hl 1 rfl) ?_
      refine lv_imul hx hb dX5_code_30 ?_
      obtain ⟨x20, ex20, hF⟩ := ltt_some hF
      refine lv_topi (fun zx20 ezx20 => ?_)
      obtain rfl : x20 = zx20 := ex20.trans ezx20.symm
      refine lv_aload_n hx hb dX5_code_31 rfl (lv_at hl 2 rfl) ?_
      refine lv_iload_n hx hb dX5_code_32 rfl (lv_at hl 3 rfl) ?_
      refine lv_iload hx hb dX5_code_33 (lv_at hl 0 rfl) ?_
      obtain ⟨y21, hy21, hF⟩ := bnd_some hF
      have hf9 := wA_in hD hA9 hS
      refine va_calli (va_runV (As := [.int p0, .int s4.2.1]) (rest := [.int x20, va_re ad (s4.2.2.2 a 13)]) ⟨hx, hb, hml, hown, hts⟩ (kX5_bit l D ct ad Z G s4.2.2 H.size a p0 s4.2.1 y21 hc hk hy21) (cwV 2 hts gX5_code_X5_bit rfl rfl rfl (by decide +kernel) ⟨Nat.le_of_ble_eq_true rfl, Nat.le_of_ble_eq_true rfl⟩) ⟨fun a U g mk q => by obtain ⟨q0, q1, qP, qK, qD, qZ, qN⟩ := q; exact ⟨q0, q1, qP, va_K.moved (u := U) (U := U.calling g mk a) (Vm.Alike.refl U.vm) qK, qD, sF.moved (u := U) (U := U.calling g mk a) (Vm.Alike.refl U.vm) qZ, nF.same rfl qN⟩, va_recv hK hP (ci := 5) (q0 := a) rfl (wld_o ct ad G s4.2.2 hc hk (by decide)), fun U hU hW => ⟨rfl, by rw [hU], by rw [hU]; exact hP, va_K.moved hW.alike hK, hD.weaken (fun _ _ _ _ => trivial), by rw [hU]; exact ((hZ.kept hS.2.1).narrow hf9).moved hW.alike, hN.warm hW⟩⟩ rfl rfl hl.1 rfl (lv_room (by simp only [List.map, va_re_cat]; exact Nat.le_of_ble_eq_true rfl)) dX5_code_35 ⟨(Nat.zero_le _), (Nat.zero_le _)⟩) hS (fun q _ h => hf9 q h) hf9 (fun r u t H locs ht hvm hw hB hz1 hk1 hS => ?_)
      obtain ⟨hP, hK9, hD9⟩ := hB
      rw [ht] at hP
      try dsimp only at hw
      subst hw
      have hD := hD9.weaken (fun _ q _ h => hf9 q.1 h)
      refine lv_iadd hx hb dX5_code_38 ?_
      obtain ⟨x22, ex22, hF⟩ := ltt_some hF
      refine lv_topi (fun zx22 ezx22 => ?_)
      obtain rfl : x22 = zx22 := ex22.trans ezx22.symm
      obtain ⟨b23, ho23, hc23, hk23, hF⟩ := dr_some hF
      refine W_st (st' := [.int x22, .ref (ad b23)]) (by rw [va_some ho23]) ?_
      obtain ⟨hvc, hF⟩ := chk_some hF
      refine va_iald hx hb hK hP b23 1 (wld_i ct ad G y21.1 hc23 hk23) rfl hvc dX5_code_39 ?_
      obtain ⟨x24, ex24, hF⟩ := ltt_some hF
      refine lv_topi (fun zx24 ezx24 => ?_)
      obtain rfl : x24 = zx24 := ex24.trans ezx24.symm
      refine lv_istore_n (lv' := [(3, .int x24), (4, .int s4.2.1), (0, .ref (ad a)), (1, .int p0), (2, .int p1)]) hx hb dX5_code_40 rfl hl (by decide) rfl (fun ls hl => ?_)
      refine lv_iload_n hx hb dX5_code_41 rfl (lv_at hl 0 rfl) ?_
      obtain ⟨y25, hy25, hF⟩ := bnd_some hF
      have J25 : ∀ (H : Heap) (locs : List Loc) (ls : Array Slot), va_P D classes (wld ct ad G y25) H → va_D A (wld ct ad G y25) → va_S A s.heap H locs → lv_has ls 5 [(3, .int x24), (4, .int s4.2.1), (0, .ref (ad a)), (1, .int p0), (2, .int p1)] → W p l e (headSpec wuX5_code ({ frames := 1, cells := 0, slots := 0, locals := 27 })).room s m ([.ref (ad a), .int p0, .int p1] : List Value).toArray below meth c H locs 0 0 (MQ below (va_Qi (fun (q : Int32) (_ : Unit) => q = y.2) (fun _ t => kE D ct ad G A y.1 t) A) ([.ref (ad a), .int p0, .int p1] : List Value).toArray s 0 0 A) (F0 m 54 ls []) := by
        intro H locs ls hP hD hS hl
        obtain ⟨x26, ex26, hF⟩ := ltt_some hF
        refine lv_iinc (v := x26) (lv' := [(4, .int x26), (3, .int x24), (0, .ref (ad a)), (1, .int p0), (2, .int p1)]) hx hb dX5_code_54 hl (k := 1) rfl (by rw [ex26]; rfl) (by decide) rfl (fun ls hl => ?_)
        refine lv_goto (tgt := 13) hx hb dX5_code_57 (by decide) ?_
        obtain rfl := Option.some.inj hF
        exact hwz17 _ _ _ hP hD hS (lv_sub hl [0, 1, 2, 3, 4] rfl)
      clear hF
      have hF := hy25
      clear hy25
      refine lv_if_ne (tgt := 54) hx hb dX5_code_42 (by decide) (fun c27 => ?_) (fun c27 => ?_)
      · rw [if_neg c27] at hF
        obtain rfl := Option.some.inj hF
        exact J25 _ _ _ hP hD hS (lv_sub hl [0, 1, 2, 3, 4] rfl)
      · rw [if_pos c27] at hF
        refine lv_aload_n hx hb dX5_code_45 rfl (lv_at hl 2 rfl) ?_
        refine lv_iconst (v := (4 : Int32)) hx hb dX5_code_46 (by decide) ?_
        refine lv_aload_n hx hb dX5_code_47 rfl (lv_at hl 2 rfl) ?_
        refine va_get (D := D) (ci := 5) (v := .int (y21.1.1 a 4)) (C := RX5) (T := TX5) (N := 17) hx hb hts (mus hf_X5) hown hK hP a (wld_o ct ad G y21.1 hc hk (by decide)) rfl 4 (by decide) (hts (.fieldLink RX5 60 "VideoSuite$Reader" "begin" "I") (mu mw_292)) (fun _ h9 => h9) rfl dX5_code_48 ?_
        obtain ⟨x28, ex28, hF⟩ := ltt_some hF
        refine lv_topi (fun zx28 ezx28 => ?_)
        obtain rfl : x28 = zx28 := ex28.trans ezx28.symm
        cases hF
set_option maxRecDepth 20000 in
theorem gX5_fixed_X5_record : GoodIn wuX5_fixed (wsV RX5 137 RX5 yX5_record wuX5_record) := gu_V mw_1346 mw_1348 mw_33 mw_169 mw_1349
set_option maxRecDepth 20000 in
theorem gX5_fixed_X5_bit : GoodIn wuX5_fixed (wsV RX5 134 RX5 yX5_bit wuX5_bit) := gu_V mw_1331 mw_1332 mw_1333 mw_169 mw_1334
set_option maxRecDepth 20000 in
theorem dX5_fixed_0 : decode cX5_fixed 0 = .ok (.aload_n 0, 1) := by decide +kernel
theorem dX5_fixed_1 : decode cX5_fixed 1 = .ok (.aload_n 0, 1) := by decide +kernel
theorem dX5_fixed_2 : decode cX5_fixed 2 = .ok (.getfield 57, 3) := by decide +kernel
theorem dX5_fixed_5 : decode cX5_fixed 5 = .ok (.putfield 60, 3) := by decide +kernel
theorem dX5_fixed_8 : decode cX5_fixed 8 = .ok (.iconst 0, 1) := by decide +kernel
theorem dX5_fixed_9 : decode cX5_fixed 9 = .ok (.istore_n 3, 1) := by decide +kernel
theorem dX5_fixed_10 : decode cX5_fixed 10 = .ok (.iconst 0, 1) := by decide +kernel
theorem dX5_fixed_11 : decode cX5_fixed 11 = .ok (.istore 4, 2) := by decide +kernel
theorem dX5_fixed_13 : decode cX5_fixed 13 = .ok (.iload 4, 2) := by decide +kernel
theorem dX5_fixed_15 : decode cX5_fixed 15 = .ok (.iload_n 2, 1) := by decide +kernel
theorem dX5_fixed_16 : decode cX5_fixed 16 = .ok (.if_icmp .ge 21, 3) := by decide +kernel
theorem dX5_fixed_19 : decode cX5_fixed 19 = .ok (.iload_n 3, 1) := by decide +kernel
theorem dX5_fixed_20 : decode cX5_fixed 20 = .ok (.iconst 1, 1) := by decide +kernel
theorem dX5_fixed_21 : decode cX5_fixed 21 = .ok (.ishl, 1) := by decide +kernel
theorem dX5_fixed_22 : decode cX5_fixed 22 = .ok (.aload_n 0, 1) := by decide +kernel
theorem dX5_fixed_23 : decode cX5_fixed 23 = .ok (.iload_n 1, 1) := by decide +kernel
theorem dX5_fixed_24 : decode cX5_fixed 24 = .ok (.iload 4, 2) := by decide +kernel
theorem dX5_fixed_26 : decode cX5_fixed 26 = .ok (.invokevirtual 134, 3) := by decide +kernel
theorem dX5_fixed_29 : decode cX5_fixed 29 = .ok (.ior, 1) := by decide +kernel
theorem dX5_fixed_30 : decode cX5_fixed 30 = .ok (.istore_n 3, 1) := by decide +kernel
theorem dX5_fixed_31 : decode cX5_fixed 31 = .ok (.iinc 4 1, 3) := by decide +kernel
theorem dX5_fixed_34 : decode cX5_fixed 34 = .ok (.goto (-21), 3) := by decide +kernel
theorem dX5_fixed_37 : decode cX5_fixed 37 = .ok (.aload_n 0, 1) := by decide +kernel
theorem dX5_fixed_38 : decode cX5_fixed 38 = .ok (.iload_n 3, 1) := by decide +kernel
theorem dX5_fixed_39 : decode cX5_fixed 39 = .ok (.invokevirtual 137, 3) := by decide +kernel
theorem dX5_fixed_42 : decode cX5_fixed 42 = .ok (.iload_n 3, 1) := by decide +kernel
theorem dX5_fixed_43 : decode cX5_fixed 43 = .ok (.ireturn, 1) := by decide +kernel
def FX5_fixed (G : GG) (M : DD) (a : Nat) (p0 : Int32) (p1 : Int32) : Option (DD × Int32) :=
  ltt (M.1 a 2) fun x1 =>
  ltt (uI M a 4 x1) fun M2 =>
  bnd (itr (fun (s4 : Int32 × Int32 × DD) => ((if p1 ≤ s4.2.1 then (some (.inr (s4.1, s4.2.1, s4.2.2))) else
  (ltt ((s4.1 <<< (((1 : Int32)) &&& 31))) fun x9 =>
  bnd (FX5_bit G s4.2.2 a p0 s4.2.1) fun y10 =>
  ltt ((x9 ||| y10.2)) fun x11 =>
  ltt (s4.2.1 + (1 : Int32)) fun x12 =>
  some (.inl (x11, x12, y10.1)))) : Option ((Int32 × Int32 × DD) ⊕ (Int32 × Int32 × DD)))) 1000000 ((0 : Int32), (0 : Int32), M2)) fun (y3 : Int32 × Int32 × DD) =>
  bnd (FX5_record G y3.2.2 a y3.1) fun y6 =>
  some (y6, y3.1)
set_option maxHeartbeats 4000000 in
set_option maxRecDepth 100000 in
theorem kX5_fixed (l : Launch) (D : va_G) (ct : CT) (ad : Nat → Nat) (Z : Nat → Nat) (G : GG) (M : DD) (sz : Nat) (a : Nat) (p0 : Int32) (p1 : Int32) (y : DD × Int32) (hc : a < G.1) (hk : G.2.1 a = 5) (hF : FX5_fixed G M a p0 p1 = some y) : Met l yX5_fixed wuX5_fixed ({ frames := 1, cells := 0, slots := 0, locals := 27 }) (va_Pc [.ref (ad a), .int p0, .int p1] (kB D ct ad Z G M sz)) (va_Qi (fun (q : Int32) (_ : Unit) => q = y.2) (fun _ t => kE D ct ad G (wA ad G sz) y.1 t) (wA ad G sz)) 0 0 (wA ad G sz) := by
  refine Met.ofW (cc := cX5_fixed) (maxL := 5) (ret := (some .int)) (by decide) rfl ?_
  intro p e s m args below meth c s₁ B hml hv
  obtain ⟨rfl, hsz, hP, hK, hD0, hZ, hN⟩ := hv
  have hx := B.exec
  have hb := B.bytes
  have hr := B.returns
  have hts := atoms_spec (ws := wuX5_fixed) B.pre
  have hown : s.vm.findClass RX5 = some m.cls := findClass_of_methodNamed B.named
  have hlocks := B.notSynchronized
  subst hsz
  have hD := wD_self (sz := s.heap.size) hD0
  have hA9 : ∀ q, s.heap.size ≤ q → wA ad G s.heap.size q := fun q h => Or.inr h
  generalize hAe : wA ad G s.heap.size = A at hD hA9 hZ ⊢
  have hS : va_S A s.heap s.heap [] := va_S.rf
  have hl := lv_entry ([.ref (ad a), .int p0, .int p1]) (n := 5) (Nat.le_of_ble_eq_true rfl)
  rw [lg_entry_eq]
  generalize (lg_sl ([.ref (ad a), .int p0, .int p1]) ++ List.replicate (5 - (lg_sl ([.ref (ad a), .int p0, .int p1])).length) Slot.unset).toArray = ls at hl ⊢
  have hl : lv_has ls 5 [(0, .ref (ad a)), (1, .int p0), (2, .int p1)] := hl
  unfold FX5_fixed at hF
  refine lv_aload_n hx hb dX5_fixed_0 rfl (lv_at hl 0 rfl) ?_
  refine lv_aload_n hx hb dX5_fixed_1 rfl (lv_at hl 0 rfl) ?_
  refine va_get (D := D) (ci := 5) (v := .int (M.1 a 2)) (C := RX5) (T := TX5) (N := 17) hx hb hts (mus hf_X5) hown hK hP a (wld_o ct ad G M hc hk (by decide)) rfl 2 (by decide) (hts (.fieldLink RX5 57 "VideoSuite$Reader" "place" "I") (mu mw_289)) (fun _ h9 => h9) rfl dX5_fixed_2 ?_
  obtain ⟨x1, ex1, hF⟩ := ltt_some hF
  refine lv_topi (fun zx1 ezx1 => ?_)
  obtain rfl : x1 = zx1 := ex1.trans ezx1.symm
  refine va_put (D := D) (ci := 5) (v := .int x1) (ty := .int) (C := RX5) (T := TX5) (N := 17) hx hb hts (mus hf_X5) tyX5 tyX5_ok nmX5 hown hK hP hD hS a (wld_o ct ad G M hc hk (by decide)) rfl 4 (by decide) (hts (.fieldLink RX5 60 "VideoSuite$Reader" "begin" "I") (mu mw_292)) (fun _ h9 => h9) rfl (by decide +kernel) rfl rfl (Nat.le_of_ble_eq_true rfl) dX5_fixed_5 (fun H locs hP hD hS => ?_)
  obtain ⟨M2, eM2, hF⟩ := ltt_some hF
  rw [set_oI ct ad G M hc hk (by decide) (by rfl), ← eM2] at hP hD
  refine lv_iconst (v := (0 : Int32)) hx hb dX5_fixed_8 (by decide) ?_
  refine lv_istore_n (lv' := [(3, .int (0 : Int32)), (0, .ref (ad a)), (1, .int p0), (2, .int p1)]) hx hb dX5_fixed_9 rfl hl (by decide) rfl (fun ls hl => ?_)
  refine lv_iconst (v := (0 : Int32)) hx hb dX5_fixed_10 (by decide) ?_
  refine lv_istore (lv' := [(4, .int (0 : Int32)), (3, .int (0 : Int32)), (0, .ref (ad a)), (1, .int p0), (2, .int p1)]) hx hb dX5_fixed_11 hl (by decide) rfl (fun ls hl => ?_)
  obtain ⟨y3, hy3, hF⟩ := bnd_some hF
  have K3 : ∀ (H : Heap) (locs : List Loc) (ls : Array Slot), va_P D classes (wld ct ad G y3.2.2) H → va_D A (wld ct ad G y3.2.2) → va_S A s.heap H locs → lv_has ls 5 [(4, .int y3.2.1), (3, .int y3.1), (0, .ref (ad a)), (1, .int p0), (2, .int p1)] → W p l e (headSpec wuX5_fixed ({ frames := 1, cells := 0, slots := 0, locals := 27 })).room s m ([.ref (ad a), .int p0, .int p1] : List Value).toArray below meth c H locs 0 0 (MQ below (va_Qi (fun (q : Int32) (_ : Unit) => q = y.2) (fun _ t => kE D ct ad G A y.1 t) A) ([.ref (ad a), .int p0, .int p1] : List Value).toArray s 0 0 A) (F0 m 37 ls []) := by
    intro H locs ls hP hD hS hl
    refine lv_aload_n hx hb dX5_fixed_37 rfl (lv_at hl 2 rfl) ?_
    refine lv_iload_n hx hb dX5_fixed_38 rfl (lv_at hl 1 rfl) ?_
    obtain ⟨y6, hy6, hF⟩ := bnd_some hF
    have hf9 := wA_in hD hA9 hS
    refine va_callv (va_runV (As := [.int y3.1]) (rest := []) ⟨hx, hb, hml, hown, hts⟩ (kX5_record l D ct ad Z G y3.2.2 H.size a y3.1 y6 hc hk hy6) (cwV 1 hts gX5_fixed_X5_record rfl rfl rfl (by decide +kernel) ⟨Nat.le_of_ble_eq_true rfl, Nat.le_of_ble_eq_true rfl⟩) ⟨fun a U g mk q => by obtain ⟨q0, q1, qP, qK, qD, qZ, qN⟩ := q; exact ⟨q0, q1, qP, va_K.moved (u := U) (U := U.calling g mk a) (Vm.Alike.refl U.vm) qK, qD, sF.moved (u := U) (U := U.calling g mk a) (Vm.Alike.refl U.vm) qZ, nF.same rfl qN⟩, va_recv hK hP (ci := 5) (q0 := a) rfl (wld_o ct ad G y3.2.2 hc hk (by decide)), fun U hU hW => ⟨rfl, by rw [hU], by rw [hU]; exact hP, va_K.moved hW.alike hK, hD.weaken (fun _ _ _ _ => trivial), by rw [hU]; exact ((hZ.kept hS.2.1).narrow hf9).moved hW.alike, hN.warm hW⟩⟩ rfl rfl hl.1 rfl (lv_room (Nat.le_of_ble_eq_true rfl)) dX5_fixed_39 ⟨(Nat.zero_le _), (Nat.zero_le _)⟩) hS (fun q _ h => hf9 q h) hf9 (fun u t H locs ht hvm hw hB hz1 hk1 hS => ?_)
    obtain ⟨hP, hK9, hD9⟩ := hB
    rw [ht] at hP
    have hD := hD9.weaken (fun _ q _ h => hf9 q.1 h)
    refine lv_iload_n hx hb dX5_fixed_42 rfl (lv_at hl 1 rfl) ?_
    obtain rfl := Option.some.inj hF
    exact W.iret (v := y3.1) hx hb hr (fun t ht hW => ⟨⟨_, (), rfl, rfl, ⟨by rw [ht]; exact hP, va_K.moved hW.alike hK, hD⟩⟩, hS.F ht⟩) hS.2.2 dX5_fixed_43
  clear hF
  refine itr_rule (fun (s4 : Int32 × Int32 × DD) => ∀ (H : Heap) (locs : List Loc) (ls : Array Slot), va_P D classes (wld ct ad G s4.2.2) H → va_D A (wld ct ad G s4.2.2) → va_S A s.heap H locs → lv_has ls 5 [(4, .int s4.2.1), (3, .int s4.1), (0, .ref (ad a)), (1, .int p0), (2, .int p1)] → W p l e (headSpec wuX5_fixed ({ frames := 1, cells := 0, slots := 0, locals := 27 })).room s m ([.ref (ad a), .int p0, .int p1] : List Value).toArray below meth c H locs 0 0 (MQ below (va_Qi (fun (q : Int32) (_ : Unit) => q = y.2) (fun _ t => kE D ct ad G A y.1 t) A) ([.ref (ad a), .int p0, .int p1] : List Value).toArray s 0 0 A) (F0 m 13 ls [])) ?_ _ _ hy3 _ _ _ hP hD hS (lv_sub hl [0, 1, 2, 3, 4] rfl)
  rintro s4 ⟨z7, hF, hwz7⟩ H locs ls hP hD hS hl
  try dsimp only at hF
  refine lv_iload hx hb dX5_fixed_13 (lv_at hl 0 rfl) ?_
  refine lv_iload_n hx hb dX5_fixed_15 rfl (lv_at hl 4 rfl) ?_
  refine lv_icmp_ge (tgt := 37) hx hb dX5_fixed_16 (by decide) (fun c8 => ?_) (fun c8 => ?_)
  · rw [if_pos c8] at hF
    obtain rfl := Option.some.inj hF
    subst hwz7
    exact K3 _ _ _ hP hD hS (lv_sub hl [0, 1, 2, 3, 4] rfl)
  · rw [if_neg c8] at hF
    refine lv_iload_n hx hb dX5_fixed_19 rfl (lv_at hl 1 rfl) ?_
    refine lv_iconst (v := (1 : Int32)) hx hb dX5_fixed_20 (by decide) ?_
    refine lv_ishl hx hb dX5_fixed_21 ?_
    obtain ⟨x9, ex9, hF⟩ := ltt_some hF
    refine lv_topi (fun zx9 ezx9 => ?_)
    obtain rfl : x9 = zx9 := ex9.trans ezx9.symm
    refine lv_aload_n hx hb dX5_fixed_22 rfl (lv_at hl 2 rfl) ?_
    refine lv_iload_n hx hb dX5_fixed_23 rfl (lv_at hl 3 rfl) ?_
    refine lv_iload hx hb dX5_fixed_24 (lv_at hl 0 rfl) ?_
    obtain ⟨y10, hy10, hF⟩ := bnd_some hF
    have hf9 := wA_in hD hA9 hS
    refine va_calli (va_runV (As := [.int p0, .int s4.2.1]) (rest := [.int x9]) ⟨hx, hb, hml, hown, hts⟩ (kX5_bit l D ct ad Z G s4.2.2 H.size a p0 s4.2.1 y10 hc hk hy10) (cwV 2 hts gX5_fixed_X5_bit rfl rfl rfl (by decide +kernel) ⟨Nat.le_of_ble_eq_true rfl, Nat.le_of_ble_eq_true rfl⟩) ⟨fun a U g mk q => by obtain ⟨q0, q1, qP, qK, qD, qZ, qN⟩ := q; exact ⟨q0, q1, qP, va_K.moved (u := U) (U := U.calling g mk a) (Vm.Alike.refl U.vm) qK, qD, sF.moved (u := U) (U := U.calling g mk a) (Vm.Alike.refl U.vm) qZ, nF.same rfl qN⟩, va_recv hK hP (ci := 5) (q0 := a) rfl (wld_o ct ad G s4.2.2 hc hk (by decide)), fun U hU hW => ⟨rfl, by rw [hU], by rw [hU]; exact hP, va_K.moved hW.alike hK, hD.weaken (fun _ _ _ _ => trivial), by rw [hU]; exact ((hZ.kept hS.2.1).narrow hf9).moved hW.alike, hN.warm hW⟩⟩ rfl rfl hl.1 rfl (lv_room (Nat.le_of_ble_eq_true rfl)) dX5_fixed_26 ⟨(Nat.zero_le _), (Nat.zero_le _)⟩) hS (fun q _ h => hf9 q h) hf9 (fun r u t H locs ht hvm hw hB hz1 hk1 hS => ?_)
    obtain ⟨hP, hK9, hD9⟩ := hB
    rw [ht] at hP
    try dsimp only at hw
    subst hw
    have hD := hD9.weaken (fun _ q _ h => hf9 q.1 h)
    refine lv_ior hx hb dX5_fixed_29 ?_
    obtain ⟨x11, ex11, hF⟩ := ltt_some hF
    refine lv_topi (fun zx11 ezx11 => ?_)
    obtain rfl : x11 = zx11 := ex11.trans ezx11.symm
    refine lv_istore_n (lv' := [(3, .int x11), (4, .int s4.2.1), (0, .ref (ad a)), (1, .int p0), (2, .int p1)]) hx hb dX5_fixed_30 rfl hl (by decide) rfl (fun ls hl => ?_)
    obtain ⟨x12, ex12, hF⟩ := ltt_some hF
    refine lv_iinc (v := x12) (lv' := [(4, .int x12), (3, .int x11), (0, .ref (ad a)), (1, .int p0), (2, .int p1)]) hx hb dX5_fixed_31 hl (k := 1) rfl (by rw [ex12]; rfl) (by decide) rfl (fun ls hl => ?_)
    refine lv_goto (tgt := 13) hx hb dX5_fixed_34 (by decide) ?_
    obtain rfl := Option.some.inj hF
    exact hwz7 _ _ _ hP hD hS (lv_sub hl [0, 1, 2, 3, 4] rfl)
set_option maxRecDepth 20000 in
theorem gX5_init_X5_plant : GoodIn wuX5_init (wsV RX5 30 RX5 yX5_plant wuX5_plant) := gu_V mw_283 mw_285 mw_0 mw_169 mw_286
theorem dX5_init_0 : decode cX5_init 0 = .ok (.aload_n 0, 1) := by decide +kernel
theorem dX5_init_1 : decode cX5_init 1 = .ok (.invokespecial 3, 3) := by decide +kernel
theorem dX5_init_4 : decode cX5_init 4 = .ok (.aload_n 0, 1) := by decide +kernel
theorem dX5_init_5 : decode cX5_init 5 = .ok (.sipush 272, 3) := by decide +kernel
theorem dX5_init_8 : decode cX5_init 8 = .ok (.newarray .int, 2) := by decide +kernel
theorem dX5_init_10 : decode cX5_init 10 = .ok (.putfield 11, 3) := by decide +kernel
theorem dX5_init_13 : decode cX5_init 13 = .ok (.aload_n 0, 1) := by decide +kernel
theorem dX5_init_14 : decode cX5_init 14 = .ok (.sipush 12000, 3) := by decide +kernel
theorem dX5_init_17 : decode cX5_init 17 = .ok (.newarray .int, 2) := by decide +kernel
theorem dX5_init_19 : decode cX5_init 19 = .ok (.putfield 15, 3) := by decide +kernel
theorem dX5_init_22 : decode cX5_init 22 = .ok (.aload_n 0, 1) := by decide +kernel
theorem dX5_init_23 : decode cX5_init 23 = .ok (.sipush 800, 3) := by decide +kernel
theorem dX5_init_26 : decode cX5_init 26 = .ok (.newarray .int, 2) := by decide +kernel
theorem dX5_init_28 : decode cX5_init 28 = .ok (.putfield 18, 3) := by decide +kernel
theorem dX5_init_31 : decode cX5_init 31 = .ok (.aload_n 0, 1) := by decide +kernel
theorem dX5_init_32 : decode cX5_init 32 = .ok (.bipush 16, 2) := by decide +kernel
theorem dX5_init_34 : decode cX5_init 34 = .ok (.newarray .int, 2) := by decide +kernel
theorem dX5_init_36 : decode cX5_init 36 = .ok (.putfield 21, 3) := by decide +kernel
theorem dX5_init_39 : decode cX5_init 39 = .ok (.bipush 29, 2) := by decide +kernel
theorem dX5_init_41 : decode cX5_init 41 = .ok (.istore_n 1, 1) := by decide +kernel
theorem dX5_init_42 : decode cX5_init 42 = .ok (.iconst 0, 1) := by decide +kernel
theorem dX5_init_43 : decode cX5_init 43 = .ok (.istore_n 2, 1) := by decide +kernel
theorem dX5_init_44 : decode cX5_init 44 = .ok (.iload_n 2, 1) := by decide +kernel
theorem dX5_init_45 : decode cX5_init 45 = .ok (.bipush 29, 2) := by decide +kernel
theorem dX5_init_47 : decode cX5_init 47 = .ok (.if_icmp .ge 62, 3) := by decide +kernel
theorem dX5_init_50 : decode cX5_init 50 = .ok (.getstatic 24, 3) := by decide +kernel
theorem dX5_init_53 : decode cX5_init 53 = .ok (.iload_n 2, 1) := by decide +kernel
theorem dX5_init_54 : decode cX5_init 54 = .ok (.iaload, 1) := by decide +kernel
theorem dX5_init_55 : decode cX5_init 55 = .ok (.istore_n 3, 1) := by decide +kernel
theorem dX5_init_56 : decode cX5_init 56 = .ok (.iload_n 3, 1) := by decide +kernel
theorem dX5_init_57 : decode cX5_init 57 = .ok (.getstatic 24, 3) := by decide +kernel
theorem dX5_init_60 : decode cX5_init 60 = .ok (.iload_n 2, 1) := by decide +kernel
theorem dX5_init_61 : decode cX5_init 61 = .ok (.iconst 1, 1) := by decide +kernel
theorem dX5_init_62 : decode cX5_init 62 = .ok (.iadd, 1) := by decide +kernel
theorem dX5_init_63 : decode cX5_init 63 = .ok (.iaload, 1) := by decide +kernel
theorem dX5_init_64 : decode cX5_init 64 = .ok (.if_icmp .ge 39, 3) := by decide +kernel
theorem dX5_init_67 : decode cX5_init 67 = .ok (.aload_n 0, 1) := by decide +kernel
theorem dX5_init_68 : decode cX5_init 68 = .ok (.iload_n 2, 1) := by decide +kernel
theorem dX5_init_69 : decode cX5_init 69 = .ok (.iload_n 3, 1) := by decide +kernel
theorem dX5_init_70 : decode cX5_init 70 = .ok (.getstatic 24, 3) := by decide +kernel
theorem dX5_init_73 : decode cX5_init 73 = .ok (.iload_n 2, 1) := by decide +kernel
theorem dX5_init_74 : decode cX5_init 74 = .ok (.iaload, 1) := by decide +kernel
theorem dX5_init_75 : decode cX5_init 75 = .ok (.isub, 1) := by decide +kernel
theorem dX5_init_76 : decode cX5_init 76 = .ok (.getstatic 27, 3) := by decide +kernel
theorem dX5_init_79 : decode cX5_init 79 = .ok (.iconst 2, 1) := by decide +kernel
theorem dX5_init_80 : decode cX5_init 80 = .ok (.iload_n 3, 1) := by decide +kernel
theorem dX5_init_81 : decode cX5_init 81 = .ok (.imul, 1) := by decide +kernel
theorem dX5_init_82 : decode cX5_init 82 = .ok (.iaload, 1) := by decide +kernel
theorem dX5_init_83 : decode cX5_init 83 = .ok (.getstatic 27, 3) := by decide +kernel
theorem dX5_init_86 : decode cX5_init 86 = .ok (.iconst 2, 1) := by decide +kernel
theorem dX5_init_87 : decode cX5_init 87 = .ok (.iload_n 3, 1) := by decide +kernel
theorem dX5_init_88 : decode cX5_init 88 = .ok (.imul, 1) := by decide +kernel
theorem dX5_init_89 : decode cX5_init 89 = .ok (.iconst 1, 1) := by decide +kernel
theorem dX5_init_90 : decode cX5_init 90 = .ok (.iadd, 1) := by decide +kernel
theorem dX5_init_91 : decode cX5_init 91 = .ok (.iaload, 1) := by decide +kernel
theorem dX5_init_92 : decode cX5_init 92 = .ok (.iload_n 1, 1) := by decide +kernel
theorem dX5_init_93 : decode cX5_init 93 = .ok (.invokevirtual 30, 3) := by decide +kernel
theorem dX5_init_96 : decode cX5_init 96 = .ok (.istore_n 1, 1) := by decide +kernel
theorem dX5_init_97 : decode cX5_init 97 = .ok (.iinc 3 1, 3) := by decide +kernel
theorem dX5_init_100 : decode cX5_init 100 = .ok (.goto (-44), 3) := by decide +kernel
theorem dX5_init_103 : decode cX5_init 103 = .ok (.iinc 2 1, 3) := by decide +kernel
theorem dX5_init_106 : decode cX5_init 106 = .ok (.goto (-62), 3) := by decide +kernel
theorem dX5_init_109 : decode cX5_init 109 = .ok (.return_, 1) := by decide +kernel
noncomputable def FX5_init (G : GG) (M : DD) (a : Nat)  : Option (NN × DD) :=
  chkP (Clo (xt G []) M) <|
  chk (¬ ((272 : Int32)) < 0 ∧ ((272 : Int32)).toNatClampNeg * 4 ≤ 536870912) <|
  ltt ((xt G []).1) fun c2 =>
  app [(13, ((272 : Int32)).toNatClampNeg)] <|
  ltt ([] ++ [(13, ((272 : Int32)).toNatClampNeg)]) fun L4 =>
  ltt (rO M c2) fun M5 =>
  ltt (uP M5 a 10 (some c2)) fun M8 =>
  chkP (Clo (xt G L4) M8) <|
  chk (¬ ((12000 : Int32)) < 0 ∧ ((12000 : Int32)).toNatClampNeg * 4 ≤ 536870912) <|
  ltt ((xt G L4).1) fun c10 =>
  app [(13, ((12000 : Int32)).toNatClampNeg)] <|
  ltt (L4 ++ [(13, ((12000 : Int32)).toNatClampNeg)]) fun L12 =>
  ltt (rO M8 c10) fun M13 =>
  ltt (uP M13 a 11 (some c10)) fun M16 =>
  chkP (Clo (xt G L12) M16) <|
  chk (¬ ((800 : Int32)) < 0 ∧ ((800 : Int32)).toNatClampNeg * 4 ≤ 536870912) <|
  ltt ((xt G L12).1) fun c18 =>
  app [(13, ((800 : Int32)).toNatClampNeg)] <|
  ltt (L12 ++ [(13, ((800 : Int32)).toNatClampNeg)]) fun L20 =>
  ltt (rO M16 c18) fun M21 =>
  ltt (uP M21 a 13 (some c18)) fun M24 =>
  chkP (Clo (xt G L20) M24) <|
  chk (¬ ((16 : Int32)) < 0 ∧ ((16 : Int32)).toNatClampNeg * 4 ≤ 536870912) <|
  ltt ((xt G L20).1) fun c26 =>
  app [(13, ((16 : Int32)).toNatClampNeg)] <|
  ltt (L20 ++ [(13, ((16 : Int32)).toNatClampNeg)]) fun L28 =>
  ltt (rO M24 c26) fun M29 =>
  ltt (uP M29 a 14 (some c26)) fun M32 =>
  bnd (itr (fun (s34 : Int32 × Int32 × DD) => ((if ((29 : Int32)) ≤ s34.2.1 then (some (.inr (s34.1, s34.2.1, s34.2.2))) else
  (chk (¬ (s34.2.1 < 0 ∨ 30 ≤ s34.2.1.toNatClampNeg)) <|
  ltt ((sT 10).getD s34.2.1.toNatClampNeg 0) fun x38 =>
  bnd (itr (fun (s40 : Int32 × Int32 × DD) => ((ltt ((s34.2.1 + ((1 : Int32)))) fun x44 =>
  chk (¬ (x44 < 0 ∨ 30 ≤ x44.toNatClampNeg)) <|
  ltt ((sT 10).getD x44.toNatClampNeg 0) fun x45 =>
  if x45 ≤ s40.2.1 then (some (.inr (s40.1, s40.2.1, s40.2.2))) else
  (chk (¬ (s34.2.1 < 0 ∨ 30 ≤ s34.2.1.toNatClampNeg)) <|
  ltt ((sT 10).getD s34.2.1.toNatClampNeg 0) fun x47 =>
  ltt ((s40.2.1 - x47)) fun x48 =>
  ltt ((((2 : Int32)) * s40.2.1)) fun x49 =>
  chk (¬ (x49 < 0 ∨ 772 ≤ x49.toNatClampNeg)) <|
  ltt ((sT 6).getD x49.toNatClampNeg 0) fun x50 =>
  ltt ((((2 : Int32)) * s40.2.1)) fun x51 =>
  ltt ((x51 + ((1 : Int32)))) fun x52 =>
  chk (¬ (x52 < 0 ∨ 772 ≤ x52.toNatClampNeg)) <|
  ltt ((sT 6).getD x52.toNatClampNeg 0) fun x53 =>
  bnd (FX5_plant (xt G L28) s40.2.2 a s34.2.1 x48 x50 x53 s40.1) fun y54 =>
  ltt (s40.2.1 + (1 : Int32)) fun x55 =>
  some (.inl (y54.2, x55, y54.1)))) : Option ((Int32 × Int32 × DD) ⊕ (Int32 × Int32 × DD)))) 1000000 (s34.1, x38, s34.2.2)) fun (y39 : Int32 × Int32 × DD) =>
  ltt (s34.2.1 + (1 : Int32)) fun x42 =>
  some (.inl (y39.1, x42, y39.2.2)))) : Option ((Int32 × Int32 × DD) ⊕ (Int32 × Int32 × DD)))) 1000000 ((29 : Int32), (0 : Int32), M32)) fun (y33 : Int32 × Int32 × DD) =>
  some ([], y33.2.2)
set_option maxHeartbeats 4000000 in
set_option maxRecDepth 100000 in
theorem kX5_init (l : Launch) (D : va_G) (ct : CT) (ad : Nat → Nat) (Z : Nat → Nat) (G : GG) (M : DD) (sz : Nat) (a : Nat)  (y : NN × DD) (hc : a < G.1) (hk : G.2.1 a = 5) (hF : FX5_init G M a  = some y) : Met l yX5_init wuX5_init ({ frames := 1, cells := y.1.length, slots := wt y.1, locals := 29 }) (va_Pc [.ref (ad a)] (kB D ct ad Z G M sz)) (va_Qv (fun (u : Nat → Nat) => agr G.1 ad u) (fun u t => kE D ct u (xt G y.1) (wA ad G sz) y.2 t) (wA ad G sz)) y.1.length (wt y.1) (wA ad G sz) := by
  refine Met.ofW (cc := cX5_init) (maxL := 4) (ret := none) (by decide) rfl ?_
  intro p e s m args below meth c s₁ B hml hv
  obtain ⟨rfl, hsz, hP, hK, hD0, hZ, hN⟩ := hv
  have hx := B.exec
  have hb := B.bytes
  have hr := B.returns
  have hts := atoms_spec (ws := wuX5_init) B.pre
  have hown : s.vm.findClass RX5 = some m.cls := findClass_of_methodNamed B.named
  have hlocks := B.notSynchronized
  have hin : meth.name = "<init>" := (name_of_methodNamed B.named B.method).1
  subst hsz
  have hD := wD_self (sz := s.heap.size) hD0
  have hA9 : ∀ q, s.heap.size ≤ q → wA ad G s.heap.size q := fun q h => Or.inr h
  generalize hAe : wA ad G s.heap.size = A at hD hA9 hZ ⊢
  have hS : va_S A s.heap s.heap [] := va_S.rf
  have hl := lv_entry ([.ref (ad a)]) (n := 4) (Nat.le_of_ble_eq_true rfl)
  rw [lg_entry_eq]
  generalize (lg_sl ([.ref (ad a)]) ++ List.replicate (4 - (lg_sl ([.ref (ad a)])).length) Slot.unset).toArray = ls at hl ⊢
  have hl : lv_has ls 4 [(0, .ref (ad a))] := hl
  unfold FX5_init at hF
  rw [← wld_0 ct ad G M] at hP hD
  have hk := xt_k0 hc hk
  have hc := xt_l0 hc
  have hag := agr_rf G.1 ad
  obtain ⟨w0, hw0⟩ : ∃ z, z = y := ⟨_, rfl⟩
  rw [← hw0] at hF
  have hT : y.1 = [] ++ w0.1 := by rw [hw0]; rfl
  have h2 : y.2 = w0.2 := by rw [hw0]
  have hbl : y.1.length ≤ y.1.length ∧ wt y.1 ≤ wt y.1 := ⟨Nat.le_refl _, Nat.le_refl _⟩
  refine lv_aload_n hx hb dX5_init_0 rfl (lv_at hl 0 rfl) ?_
  refine W.objInit hx hb hown (hts (.methodLink RX5 3 objectInit) (mu mw_278)) (hts (.instanceMethod objectInit) (mu mw_202)) (hts (.code objectInit ⟨#[0xb1]⟩ 1 none) (mu mw_203)) rfl (by rw [hml]; exact hl.1) rfl dX5_init_1 (Nat.le_of_ble_eq_true rfl) (Nat.le_of_ble_eq_true rfl) ?_
  refine W.eq (g2 := F0 m 4 ls []) rfl ?_
  refine lv_aload_n hx hb dX5_init_4 rfl (lv_at hl 0 rfl) ?_
  refine lv_sipush (v := (272 : Int32)) hx hb dX5_init_5 (by decide) ?_
  obtain ⟨hC1, hF⟩ := chkP_some hF
  obtain ⟨hz9, hF⟩ := chk_some hF
  obtain ⟨c2, ec2, hF⟩ := ltt_some hF
  obtain ⟨w3, hF, ew3⟩ := app_some hF
  obtain ⟨L4, eL4, hF⟩ := ltt_some hF
  have hT4 : y.1 = ([] ++ [(13, ((272 : Int32)).toNatClampNeg)]) ++ w3.1 := by rw [hT, ew3]; simp only [List.append_assoc]
  obtain ⟨M5, eM5, hF⟩ := ltt_some hF
  refine new_i hx hb (hts (.arrayClass .int) (mu mw_266)) hK hP hD hS hA9 hz9.1 hz9.2 hC1 (room_1s hT4 hbl) dX5_init_8 (fun ad6 H hn7 hP hD hS => ?_)
  rw [← ec2, ← eL4, ← eM5] at hP hD
  refine W_cs (k := L4.length) (n := wt L4) (by rw [eL4]) (by rw [eL4]) ?_
  refine W_st (st' := [.ref (ad6 c2), .ref (ad a)]) (by rw [ec2]) ?_
  have hT : y.1 = L4 ++ w3.1 := by rw [hT4, eL4]
  have h2 : y.2 = w3.2 := by rw [h2, ew3]
  have hl := lv_sub (l' := [(0, .ref (ad a))]) hl [0] rfl
  have e9 : ([(0, .ref (ad a))] : List (Nat × Value)) = [(0, .ref (ad6 a))] := (by first | rfl | simp only [hn7 a hc])
  rw [e9] at hl
  clear e9
  refine W_st (st' := [.ref (ad6 c2), .ref (ad6 a)]) (by first | rfl | simp only [hn7 a hc]) ?_
  have hk : (xt G L4).2.1 a = 5 := by rw [eL4]; exact xt_k _ hc hk
  have hc : a < (xt G L4).1 := by rw [eL4]; exact xt_l _ hc
  have hag := agr_t (xt_ge _ _) hag hn7
  have hc2 : c2 < (xt G L4).1 := by rw [ec2, eL4]; exact cnt_new _ _ _
  have hk2 : (xt G L4).2.1 c2 = 13 := by rw [ec2, eL4]; exact (kind_new _ _ _ _).1
  refine va_putF (D := D) (ci := 5) (v := va_re ad6 (some c2)) (ty := (.array .int)) (C := RX5) (T := TX5) (N := 17) hx hb hts (mus hf_X5) tyX5 tyX5_ok nmX5 hown hK hP hD hS a (wld_o ct ad6 (xt G L4) M5 hc hk (by decide)) rfl 10 (by decide) (hts (.fieldLink RX5 11 "VideoSuite$Reader" "state" "[I") (mu mw_299)) (fun _ h9 => h9) rfl hin rfl (by decide +kernel) (nar_q ad6 (Or.inr ⟨_, rfl⟩) (some c2)).1 (nar_q ad6 (Or.inr ⟨_, rfl⟩) (some c2)).2 (Nat.le_of_ble_eq_true rfl) dX5_init_10 (fun H locs hP hD hS => ?_)
  obtain ⟨M8, eM8, hF⟩ := ltt_some hF
  rw [set_oP ct ad6 (xt G L4) M5 hc hk (by decide) (by rfl), ← eM8] at hP hD
  refine lv_aload_n hx hb dX5_init_13 rfl (lv_at hl 0 rfl) ?_
  refine lv_sipush (v := (12000 : Int32)) hx hb dX5_init_14 (by decide) ?_
  obtain ⟨hC9, hF⟩ := chkP_some hF
  obtain ⟨hz9, hF⟩ := chk_some hF
  obtain ⟨c10, ec10, hF⟩ := ltt_some hF
  obtain ⟨w11, hF, ew11⟩ := app_some hF
  obtain ⟨L12, eL12, hF⟩ := ltt_some hF
  have hT12 : y.1 = (L4 ++ [(13, ((12000 : Int32)).toNatClampNeg)]) ++ w11.1 := by rw [hT, ew11]; simp only [List.append_assoc]
  obtain ⟨M13, eM13, hF⟩ := ltt_some hF
  refine new_i hx hb (hts (.arrayClass .int) (mu mw_266)) hK hP hD hS hA9 hz9.1 hz9.2 hC9 (room_1s hT12 hbl) dX5_init_17 (fun ad14 H hn15 hP hD hS => ?_)
  rw [← ec10, ← eL12, ← eM13] at hP hD
  refine W_cs (k := L12.length) (n := wt L12) (by rw [eL12]) (by rw [eL12]) ?_
  refine W_st (st' := [.ref (ad14 c10), .ref (ad6 a)]) (by rw [ec10]) ?_
  have hT : y.1 = L12 ++ w11.1 := by rw [hT12, eL12]
  have h2 : y.2 = w11.2 := by rw [h2, ew11]
  have hl := lv_sub (l' := [(0, .ref (ad6 a))]) hl [0] rfl
  have e9 : ([(0, .ref (ad6 a))] : List (Nat × Value)) = [(0, .ref (ad14 a))] := (by first | rfl | simp only [hn15 a hc])
  rw [e9] at hl
  clear e9
  refine W_st (st' := [.ref (ad14 c10), .ref (ad14 a)]) (by first | rfl | simp only [hn15 a hc]) ?_
  have hk : (xt G L12).2.1 a = 5 := by rw [eL12]; exact xt_k _ hc hk
  have hc : a < (xt G L12).1 := by rw [eL12]; exact xt_l _ hc
  have hk2 : (xt G L12).2.1 c2 = 13 := by rw [eL12]; exact xt_k _ hc2 hk2
  have hc2 : c2 < (xt G L12).1 := by rw [eL12]; exact xt_l _ hc2
  have hag := agr_t (xt_ge _ _) hag hn15
  have hc10 : c10 < (xt G L12).1 := by rw [ec10, eL12]; exact cnt_new _ _ _
  have hk10 : (xt G L12).2.1 c10 = 13 := by rw [ec10, eL12]; exact (kind_new _ _ _ _).1
  refine va_putF (D := D) (ci := 5) (v := va_re ad14 (some c10)) (ty := (.array .int)) (C := RX5) (T := TX5) (N := 17) hx hb hts (mus hf_X5) tyX5 tyX5_ok nmX5 hown hK hP hD hS a (wld_o ct ad14 (xt G L12) M13 hc hk (by decide)) rfl 11 (by decide) (hts (.fieldLink RX5 15 "VideoSuite$Reader" "element" "[I") (mu mw_300)) (fun _ h9 => h9) rfl hin rfl (by decide +kernel) (nar_q ad14 (Or.inr ⟨_, rfl⟩) (some c10)).1 (nar_q ad14 (Or.inr ⟨_, rfl⟩) (some c10)).2 (Nat.le_of_ble_eq_true rfl) dX5_init_19 (fun H locs hP hD hS => ?_)
  obtain ⟨M16, eM16, hF⟩ := ltt_some hF
  rw [set_oP ct ad14 (xt G L12) M13 hc hk (by decide) (by rfl), ← eM16] at hP hD
  refine lv_aload_n hx hb dX5_init_22 rfl (lv_at hl 0 rfl) ?_
  refine lv_sipush (v := (800 : Int32)) hx hb dX5_init_23 (by decide) ?_
  obtain ⟨hC17, hF⟩ := chkP_some hF
  obtain ⟨hz9, hF⟩ := chk_some hF
  obtain ⟨c18, ec18, hF⟩ := ltt_some hF
  obtain ⟨w19, hF, ew19⟩ := app_some hF
  obtain ⟨L20, eL20, hF⟩ := ltt_some hF
  have hT20 : y.1 = (L12 ++ [(13, ((800 : Int32)).toNatClampNeg)]) ++ w19.1 := by rw [hT, ew19]; simp only [List.append_assoc]
  obtain ⟨M21, eM21, hF⟩ := ltt_some hF
  refine new_i hx hb (hts (.arrayClass .int) (mu mw_266)) hK hP hD hS hA9 hz9.1 hz9.2 hC17 (room_1s hT20 hbl) dX5_init_26 (fun ad22 H hn23 hP hD hS => ?_)
  rw [← ec18, ← eL20, ← eM21] at hP hD
  refine W_cs (k := L20.length) (n := wt L20) (by rw [eL20]) (by rw [eL20]) ?_
  refine W_st (st' := [.ref (ad22 c18), .ref (ad14 a)]) (by rw [ec18]) ?_
  have hT : y.1 = L20 ++ w19.1 := by rw [hT20, eL20]
  have h2 : y.2 = w19.2 := by rw [h2, ew19]
  have hl := lv_sub (l' := [(0, .ref (ad14 a))]) hl [0] rfl
  have e9 : ([(0, .ref (ad14 a))] : List (Nat × Value)) = [(0, .ref (ad22 a))] := (by first | rfl | simp only [hn23 a hc])
  rw [e9] at hl
  clear e9
  refine W_st (st' := [.ref (ad22 c18), .ref (ad22 a)]) (by first | rfl | simp only [hn23 a hc]) ?_
  have hk : (xt G L20).2.1 a = 5 := by rw [eL20]; exact xt_k _ hc hk
  have hc : a < (xt G L20).1 := by rw [eL20]; exact xt_l _ hc
  have hk2 : (xt G L20).2.1 c2 = 13 := by rw [eL20]; exact xt_k _ hc2 hk2
  have hc2 : c2 < (xt G L20).1 := by rw [eL20]; exact xt_l _ hc2
  have hk10 : (xt G L20).2.1 c10 = 13 := by rw [eL20]; exact xt_k _ hc10 hk10
  have hc10 : c10 < (xt G L20).1 := by rw [eL20]; exact xt_l _ hc10
  have hag := agr_t (xt_ge _ _) hag hn23
  have hc18 : c18 < (xt G L20).1 := by rw [ec18, eL20]; exact cnt_new _ _ _
  have hk18 : (xt G L20).2.1 c18 = 13 := by rw [ec18, eL20]; exact (kind_new _ _ _ _).1
  refine va_putF (D := D) (ci := 5) (v := va_re ad22 (some c18)) (ty := (.array .int)) (C := RX5) (T := TX5) (N := 17) hx hb hts (mus hf_X5) tyX5 tyX5_ok nmX5 hown hK hP hD hS a (wld_o ct ad22 (xt G L20) M21 hc hk (by decide)) rfl 13 (by decide) (hts (.fieldLink RX5 18 "VideoSuite$Reader" "tree" "[I") (mu mw_304)) (fun _ h9 => h9) rfl hin rfl (by decide +kernel) (nar_q ad22 (Or.inr ⟨_, rfl⟩) (some c18)).1 (nar_q ad22 (Or.inr ⟨_, rfl⟩) (some c18)).2 (Nat.le_of_ble_eq_true rfl) dX5_init_28 (fun H locs hP hD hS => ?_)
  obtain ⟨M24, eM24, hF⟩ := ltt_some hF
  rw [set_oP ct ad22 (xt G L20) M21 hc hk (by decide) (by rfl), ← eM24] at hP hD
  refine lv_aload_n hx hb dX5_init_31 rfl (lv_at hl 0 rfl) ?_
  refine lv_bipush (v := (16 : Int32)) hx hb dX5_init_32 (by decide) ?_
  obtain ⟨hC25, hF⟩ := chkP_some hF
  obtain ⟨hz9, hF⟩ := chk_some hF
  obtain ⟨c26, ec26, hF⟩ := ltt_some hF
  obtain ⟨w27, hF, ew27⟩ := app_some hF
  obtain ⟨L28, eL28, hF⟩ := ltt_some hF
  have hT28 : y.1 = (L20 ++ [(13, ((16 : Int32)).toNatClampNeg)]) ++ w27.1 := by rw [hT, ew27]; simp only [List.append_assoc]
  obtain ⟨M29, eM29, hF⟩ := ltt_some hF
  refine new_i hx hb (hts (.arrayClass .int) (mu mw_266)) hK hP hD hS hA9 hz9.1 hz9.2 hC25 (room_1s hT28 hbl) dX5_init_34 (fun ad30 H hn31 hP hD hS => ?_)
  rw [← ec26, ← eL28, ← eM29] at hP hD
  refine W_cs (k := L28.length) (n := wt L28) (by rw [eL28]) (by rw [eL28]) ?_
  refine W_st (st' := [.ref (ad30 c26), .ref (ad22 a)]) (by rw [ec26]) ?_
  have hT : y.1 = L28 ++ w27.1 := by rw [hT28, eL28]
  have h2 : y.2 = w27.2 := by rw [h2, ew27]
  have hl := lv_sub (l' := [(0, .ref (ad22 a))]) hl [0] rfl
  have e9 : ([(0, .ref (ad22 a))] : List (Nat × Value)) = [(0, .ref (ad30 a))] := (by first | rfl | simp only [hn31 a hc])
  rw [e9] at hl
  clear e9
  refine W_st (st' := [.ref (ad30 c26), .ref (ad30 a)]) (by first | rfl | simp only [hn31 a hc]) ?_
  have hk : (xt G L28).2.1 a = 5 := by rw [eL28]; exact xt_k _ hc hk
  have hc : a < (xt G L28).1 := by rw [eL28]; exact xt_l _ hc
  have hk2 : (xt G L28).2.1 c2 = 13 := by rw [eL28]; exact xt_k _ hc2 hk2
  have hc2 : c2 < (xt G L28).1 := by rw [eL28]; exact xt_l _ hc2
  have hk10 : (xt G L28).2.1 c10 = 13 := by rw [eL28]; exact xt_k _ hc10 hk10
  have hc10 : c10 < (xt G L28).1 := by rw [eL28]; exact xt_l _ hc10
  have hk18 : (xt G L28).2.1 c18 = 13 := by rw [eL28]; exact xt_k _ hc18 hk18
  have hc18 : c18 < (xt G L28).1 := by rw [eL28]; exact xt_l _ hc18
  have hag := agr_t (xt_ge _ _) hag hn31
  have hc26 : c26 < (xt G L28).1 := by rw [ec26, eL28]; exact cnt_new _ _ _
  have hk26 : (xt G L28).2.1 c26 = 13 := by rw [ec26, eL28]; exact (kind_new _ _ _ _).1
  refine va_putF (D := D) (ci := 5) (v := va_re ad30 (some c26)) (ty := (.array .int)) (C := RX5) (T := TX5) (N := 17) hx hb hts (mus hf_X5) tyX5 tyX5_ok nmX5 hown hK hP hD hS a (wld_o ct ad30 (xt G L28) M29 hc hk (by decide)) rfl 14 (by decide) (hts (.fieldLink RX5 21 "VideoSuite$Reader" "size" "[I") (mu mw_305)) (fun _ h9 => h9) rfl hin rfl (by decide +kernel) (nar_q ad30 (Or.inr ⟨_, rfl⟩) (some c26)).1 (nar_q ad30 (Or.inr ⟨_, rfl⟩) (some c26)).2 (Nat.le_of_ble_eq_true rfl) dX5_init_36 (fun H locs hP hD hS => ?_)
  obtain ⟨M32, eM32, hF⟩ := ltt_some hF
  rw [set_oP ct ad30 (xt G L28) M29 hc hk (by decide) (by rfl), ← eM32] at hP hD
  refine lv_bipush (v := (29 : Int32)) hx hb dX5_init_39 (by decide) ?_
  refine lv_istore_n (lv' := [(1, .int (29 : Int32)), (0, .ref (ad30 a))]) hx hb dX5_init_41 rfl hl (by decide) rfl (fun ls hl => ?_)
  refine lv_iconst (v := (0 : Int32)) hx hb dX5_init_42 (by decide) ?_
  refine lv_istore_n (lv' := [(2, .int (0 : Int32)), (1, .int (29 : Int32)), (0, .ref (ad30 a))]) hx hb dX5_init_43 rfl hl (by decide) rfl (fun ls hl => ?_)
  obtain ⟨y33, hy33, hF⟩ := bnd_some hF
  have K33 : ∀ (H : Heap) (locs : List Loc) (ls : Array Slot), va_P D classes (wld ct ad30 (xt G L28) y33.2.2) H → va_D A (wld ct ad30 (xt G L28) y33.2.2) → va_S A s.heap H locs → lv_has ls 4 [(2, .int y33.2.1), (1, .int y33.1), (0, .ref (ad30 a))] → W p l e (headSpec wuX5_init ({ frames := 1, cells := y.1.length, slots := wt y.1, locals := 29 })).room s m ([.ref (ad a)] : List Value).toArray below meth c H locs (L28 : NN).length (wt L28) (MQ below (va_Qv (fun (u : Nat → Nat) => agr G.1 ad u) (fun u t => kE D ct u (xt G y.1) A y.2 t) A) ([.ref (ad a)] : List Value).toArray s y.1.length (wt y.1) A) (F0 m 109 ls []) := by
    intro H locs ls hP hD hS hl
    obtain rfl := Option.some.inj hF
    have e1 : y.1 = L28 := by rw [hT]; exact List.append_nil _
    have e2 : y.2 = y33.2.2 := h2
    refine W.widen (k := y.1.length) (n := wt y.1) (Nat.le_of_eq (by rw [e1])) (Nat.le_of_eq (by rw [e1])) ?_
    exact W.vret hx hb hr (fun t ht hW => ⟨⟨ad30, rfl, hag, (by unfold kE; rw [e1, e2]; exact ⟨by rw [ht]; exact hP, va_K.moved hW.alike hK, hD⟩)⟩, hS.F ht⟩) hS.2.2 dX5_init_109
  clear hF
  refine itr_rule (fun (s34 : Int32 × Int32 × DD) => ∀ (H : Heap) (locs : List Loc) (ls : Array Slot), va_P D classes (wld ct ad30 (xt G L28) s34.2.2) H → va_D A (wld ct ad30 (xt G L28) s34.2.2) → va_S A s.heap H locs → lv_has ls 4 [(2, .int s34.2.1), (1, .int s34.1), (0, .ref (ad30 a))] → W p l e (headSpec wuX5_init ({ frames := 1, cells := y.1.length, slots := wt y.1, locals := 29 })).room s m ([.ref (ad a)] : List Value).toArray below meth c H locs (L28 : NN).length (wt L28) (MQ below (va_Qv (fun (u : Nat → Nat) => agr G.1 ad u) (fun u t => kE D ct u (xt G y.1) A y.2 t) A) ([.ref (ad a)] : List Value).toArray s y.1.length (wt y.1) A) (F0 m 44 ls [])) ?_ _ _ hy33 _ _ _ hP hD hS (lv_sub hl [0, 1, 2] rfl)
  rintro s34 ⟨z36, hF, hwz36⟩ H locs ls hP hD hS hl
  try dsimp only at hF
  refine lv_iload_n hx hb dX5_init_44 rfl (lv_at hl 0 rfl) ?_
  refine lv_bipush (v := (29 : Int32)) hx hb dX5_init_45 (by decide) ?_
  refine lv_icmp_ge (tgt := 109) hx hb dX5_init_47 (by decide) (fun c37 => ?_) (fun c37 => ?_)
  · rw [if_pos c37] at hF
    obtain rfl := Option.some.inj hF
    subst hwz36
    exact K33 _ _ _ hP hD hS (lv_sub hl [0, 1, 2] rfl)
  · rw [if_neg c37] at hF
    refine va_gets hx hb (hZ.1 10 (by decide)).1 hS hown (hts (.fieldLink RX5 24 "VideoSuite$Reader" "TABLE_AT" "[I") (mu mw_279)) (fun _ h => h) dX5_init_50 ?_
    refine lv_iload_n hx hb dX5_init_53 rfl (lv_at hl 0 rfl) ?_
    obtain ⟨hvc, hF⟩ := chk_some hF
    refine va_ti (v := .int ((sT 10).getD s34.2.1.toNatClampNeg 0)) hx hb (hZ.1 10 (by decide)).2 hS hvc rfl dX5_init_54 ?_
    obtain ⟨x38, ex38, hF⟩ := ltt_some hF
    refine lv_topi (fun zx38 ezx38 => ?_)
    obtain rfl : x38 = zx38 := ex38.trans ezx38.symm
    refine lv_istore_n (lv' := [(3, .int x38), (2, .int s34.2.1), (1, .int s34.1), (0, .ref (ad30 a))]) hx hb dX5_init_55 rfl hl (by decide) rfl (fun ls hl => ?_)
    obtain ⟨y39, hy39, hF⟩ := bnd_some hF
    have K39 : ∀ (H : Heap) (locs : List Loc) (ls : Array Slot), va_P D classes (wld ct ad30 (xt G L28) y39.2.2) H → va_D A (wld ct ad30 (xt G L28) y39.2.2) → va_S A s.heap H locs → lv_has ls 4 [(3, .int y39.2.1), (2, .int s34.2.1), (1, .int y39.1), (0, .ref (ad30 a))] → W p l e (headSpec wuX5_init ({ frames := 1, cells := y.1.length, slots := wt y.1, locals := 29 })).room s m ([.ref (ad a)] : List Value).toArray below meth c H locs (L28 : NN).length (wt L28) (MQ below (va_Qv (fun (u : Nat → Nat) => agr G.1 ad u) (fun u t => kE D ct u (xt G y.1) A y.2 t) A) ([.ref (ad a)] : List Value).toArray s y.1.length (wt y.1) A) (F0 m 103 ls []) := by
      intro H locs ls hP hD hS hl
      obtain ⟨x42, ex42, hF⟩ := ltt_some hF
      refine lv_iinc (v := x42) (lv' := [(2, .int x42), (3, .int y39.2.1), (1, .int y39.1), (0, .ref (ad30 a))]) hx hb dX5_init_103 hl (k := 1) rfl (by rw [ex42]; rfl) (by decide) rfl (fun ls hl => ?_)
      refine lv_goto (tgt := 44) hx hb dX5_init_106 (by decide) ?_
      obtain rfl := Option.some.inj hF
      exact hwz36 _ _ _ hP hD hS (lv_sub hl [0, 2, 3] rfl)
    clear hF
    refine itr_rule (fun (s40 : Int32 × Int32 × DD) => ∀ (H : Heap) (locs : List Loc) (ls : Array Slot), va_P D classes (wld ct ad30 (xt G L28) s40.2.2) H → va_D A (wld ct ad30 (xt G L28) s40.2.2) → va_S A s.heap H locs → lv_has ls 4 [(3, .int s40.2.1), (2, .int s34.2.1), (1, .int s40.1), (0, .ref (ad30 a))] → W p l e (headSpec wuX5_init ({ frames := 1, cells := y.1.length, slots := wt y.1, locals := 29 })).room s m ([.ref (ad a)] : List Value).toArray below meth c H locs (L28 : NN).length (wt L28) (MQ below (va_Qv (fun (u : Nat → Nat) => agr G.1 ad u) (fun u t => kE D ct u (xt G y.1) A y.2 t) A) ([.ref (ad a)] : List Value).toArray s y.1.length (wt y.1) A) (F0 m 56 ls [])) ?_ _ _ hy39 _ _ _ hP hD hS (lv_sub hl [0, 1, 2, 3] rfl)
    rintro s40 ⟨z43, hF, hwz43⟩ H locs ls hP hD hS hl
    try dsimp only at hF
    refine lv_iload_n hx hb dX5_init_56 rfl (lv_at hl 0 rfl) ?_
    refine va_gets hx hb (hZ.1 10 (by decide)).1 hS hown (hts (.fieldLink RX5 24 "VideoSuite$Reader" "TABLE_AT" "[I") (mu mw_279)) (fun _ h => h) dX5_init_57 ?_
    refine lv_iload_n hx hb dX5_init_60 rfl (lv_at hl 1 rfl) ?_
    refine lv_iconst (v := (1 : Int32)) hx hb dX5_init_61 (by decide) ?_
    refine lv_iadd hx hb dX5_init_62 ?_
    obtain ⟨x44, ex44, hF⟩ := ltt_some hF
    refine lv_topi (fun zx44 ezx44 => ?_)
    obtain rfl : x44 = zx44 := ex44.trans ezx44.symm
    obtain ⟨hvc, hF⟩ := chk_some hF
    refine va_ti (v := .int ((sT 10).getD x44.toNatClampNeg 0)) hx hb (hZ.1 10 (by decide)).2 hS hvc rfl dX5_init_63 ?_
    obtain ⟨x45, ex45, hF⟩ := ltt_some hF
    refine lv_topi (fun zx45 ezx45 => ?_)
    obtain rfl : x45 = zx45 := ex45.trans ezx45.symm
    refine lv_icmp_ge (tgt := 103) hx hb dX5_init_64 (by decide) (fun c46 => ?_) (fun c46 => ?_)
    · rw [if_pos c46] at hF
      obtain rfl := Option.some.inj hF
      subst hwz43
      exact K39 _ _ _ hP hD hS (lv_sub hl [0, 1, 2, 3] rfl)
    · rw [if_neg c46] at hF
      refine lv_aload_n hx hb dX5_init_67 rfl (lv_at hl 3 rfl) ?_
      refine lv_iload_n hx hb dX5_init_68 rfl (lv_at hl 1 rfl) ?_
      refine lv_iload_n hx hb dX5_init_69 rfl (lv_at hl 0 rfl) ?_
      refine va_gets hx hb (hZ.1 10 (by decide)).1 hS hown (hts (.fieldLink RX5 24 "VideoSuite$Reader" "TABLE_AT" "[I") (mu mw_279)) (fun _ h => h) dX5_init_70 ?_
      refine lv_iload_n hx hb dX5_init_73 rfl (lv_at hl 1 rfl) ?_
      obtain ⟨hvc, hF⟩ := chk_some hF
      refine va_ti (v := .int ((sT 10).getD s34.2.1.toNatClampNeg 0)) hx hb (hZ.1 10 (by decide)).2 hS hvc rfl dX5_init_74 ?_
      obtain ⟨x47, ex47, hF⟩ := ltt_some hF
      refine lv_topi (fun zx47 ezx47 => ?_)
      obtain rfl : x47 = zx47 := ex47.trans ezx47.symm
      refine lv_isub hx hb dX5_init_75 ?_
      obtain ⟨x48, ex48, hF⟩ := ltt_some hF
      refine lv_topi (fun zx48 ezx48 => ?_)
      obtain rfl : x48 = zx48 := ex48.trans ezx48.symm
      refine va_gets hx hb (hZ.1 6 (by decide)).1 hS hown (hts (.fieldLink RX5 27 "VideoSuite$Reader" "CODES" "[I") (mu mw_281)) (fun _ h => h) dX5_init_76 ?_
      refine lv_iconst (v := (2 : Int32)) hx hb dX5_init_79 (by decide) ?_
      refine lv_iload_n hx hb dX5_init_80 rfl (lv_at hl 0 rfl) ?_
      refine lv_imul hx hb dX5_init_81 ?_
      obtain ⟨x49, ex49, hF⟩ := ltt_some hF
      refine lv_topi (fun zx49 ezx49 => ?_)
      obtain rfl : x49 = zx49 := ex49.trans ezx49.symm
      obtain ⟨hvc, hF⟩ := chk_some hF
      refine va_ti (v := .int ((sT 6).getD x49.toNatClampNeg 0)) hx hb (hZ.1 6 (by decide)).2 hS hvc rfl dX5_init_82 ?_
      obtain ⟨x50, ex50, hF⟩ := ltt_some hF
      refine lv_topi (fun zx50 ezx50 => ?_)
      obtain rfl : x50 = zx50 := ex50.trans ezx50.symm
      refine va_gets hx hb (hZ.1 6 (by decide)).1 hS hown (hts (.fieldLink RX5 27 "VideoSuite$Reader" "CODES" "[I") (mu mw_281)) (fun _ h => h) dX5_init_83 ?_
      refine lv_iconst (v := (2 : Int32)) hx hb dX5_init_86 (by decide) ?_
      refine lv_iload_n hx hb dX5_init_87 rfl (lv_at hl 0 rfl) ?_
      refine lv_imul hx hb dX5_init_88 ?_
      obtain ⟨x51, ex51, hF⟩ := ltt_some hF
      refine lv_topi (fun zx51 ezx51 => ?_)
      obtain rfl : x51 = zx51 := ex51.trans ezx51.symm
      refine lv_iconst (v := (1 : Int32)) hx hb dX5_init_89 (by decide) ?_
      refine lv_iadd hx hb dX5_init_90 ?_
      obtain ⟨x52, ex52, hF⟩ := ltt_some hF
      refine lv_topi (fun zx52 ezx52 => ?_)
      obtain rfl : x52 = zx52 := ex52.trans ezx52.symm
      obtain ⟨hvc, hF⟩ := chk_some hF
      refine va_ti (v := .int ((sT 6).getD x52.toNatClampNeg 0)) hx hb (hZ.1 6 (by decide)).2 hS hvc rfl dX5_init_91 ?_
      obtain ⟨x53, ex53, hF⟩ := ltt_some hF
      refine lv_topi (fun zx53 ezx53 => ?_)
      obtain rfl : x53 = zx53 := ex53.trans ezx53.symm
      refine lv_iload_n hx hb dX5_init_92 rfl (lv_at hl 2 rfl) ?_
      obtain ⟨y54, hy54, hF⟩ := bnd_some hF
      have hf9 := wA_in hD hA9 hS
      refine va_calli (va_runV (As := [.int s34.2.1, .int x48, .int x50, .int x53, .int s40.1]) (rest := []) ⟨hx, hb, hml, hown, hts⟩ (kX5_plant l D ct ad30 Z (xt G L28) s40.2.2 H.size a s34.2.1 x48 x50 x53 s40.1 y54 hc hk hy54) (cwV 5 hts gX5_init_X5_plant rfl rfl rfl (by decide +kernel) ⟨Nat.le_of_ble_eq_true rfl, Nat.le_of_ble_eq_true rfl⟩) ⟨fun a U g mk q => by obtain ⟨q0, q1, qP, qK, qD, qZ, qN⟩ := q; exact ⟨q0, q1, qP, va_K.moved (u := U) (U := U.calling g mk a) (Vm.Alike.refl U.vm) qK, qD, sF.moved (u := U) (U := U.calling g mk a) (Vm.Alike.refl U.vm) qZ, nF.same rfl qN⟩, va_recv hK hP (ci := 5) (q0 := a) rfl (wld_o ct ad30 (xt G L28) s40.2.2 hc hk (by decide)), fun U hU hW => ⟨rfl, by rw [hU], by rw [hU]; exact hP, va_K.moved hW.alike hK, hD.weaken (fun _ _ _ _ => trivial), by rw [hU]; exact ((hZ.kept hS.2.1).narrow hf9).moved hW.alike, hN.warm hW⟩⟩ rfl rfl hl.1 rfl (lv_room (Nat.le_of_ble_eq_true rfl)) dX5_init_93 (room_d hT hbl)) hS (fun q _ h => hf9 q h) hf9 (fun r u t H locs ht hvm hw hB hz1 hk1 hS => ?_)
      obtain ⟨hP, hK9, hD9⟩ := hB
      rw [ht] at hP
      try dsimp only at hw
      subst hw
      refine W_cs (k := (L28 : NN).length) (n := wt L28) rfl rfl ?_
      have hD := hD9.weaken (fun _ q _ h => hf9 q.1 h)
      refine lv_istore_n (lv' := [(1, .int y54.2), (3, .int s40.2.1), (2, .int s34.2.1), (0, .ref (ad30 a))]) hx hb dX5_init_96 rfl hl (by decide) rfl (fun ls hl => ?_)
      obtain ⟨x55, ex55, hF⟩ := ltt_some hF
      refine lv_iinc (v := x55) (lv' := [(3, .int x55), (1, .int y54.2), (2, .int s34.2.1), (0, .ref (ad30 a))]) hx hb dX5_init_97 hl (k := 1) rfl (by rw [ex55]; rfl) (by decide) rfl (fun ls hl => ?_)
      refine lv_goto (tgt := 56) hx hb dX5_init_100 (by decide) ?_
      obtain rfl := Option.some.inj hF
      exact hwz43 _ _ _ hP hD hS (lv_sub hl [0, 2, 1, 3] rfl)
set_option maxRecDepth 20000 in
theorem gX5_isLast_X5_widen : GoodIn wuX5_isLast (wsV RX5 110 RX5 yX5_widen wuX5_widen) := gu_V mw_2209 mw_2211 mw_98 mw_169 mw_2212
theorem dX5_isLast_0 : decode cX5_isLast 0 = .ok (.aload_n 0, 1) := by decide +kernel
theorem dX5_isLast_1 : decode cX5_isLast 1 = .ok (.dup, 1) := by decide +kernel
theorem dX5_isLast_2 : decode cX5_isLast 2 = .ok (.getfield 96, 3) := by decide +kernel
theorem dX5_isLast_5 : decode cX5_isLast 5 = .ok (.iconst 2, 1) := by decide +kernel
theorem dX5_isLast_6 : decode cX5_isLast 6 = .ok (.isub, 1) := by decide +kernel
theorem dX5_isLast_7 : decode cX5_isLast 7 = .ok (.putfield 96, 3) := by decide +kernel
theorem dX5_isLast_10 : decode cX5_isLast 10 = .ok (.aload_n 0, 1) := by decide +kernel
theorem dX5_isLast_11 : decode cX5_isLast 11 = .ok (.getfield 99, 3) := by decide +kernel
theorem dX5_isLast_14 : decode cX5_isLast 14 = .ok (.aload_n 0, 1) := by decide +kernel
theorem dX5_isLast_15 : decode cX5_isLast 15 = .ok (.getfield 96, 3) := by decide +kernel
theorem dX5_isLast_18 : decode cX5_isLast 18 = .ok (.if_icmp .lt 5, 3) := by decide +kernel
theorem dX5_isLast_21 : decode cX5_isLast 21 = .ok (.iconst 1, 1) := by decide +kernel
theorem dX5_isLast_22 : decode cX5_isLast 22 = .ok (.ireturn, 1) := by decide +kernel
theorem dX5_isLast_23 : decode cX5_isLast 23 = .ok (.aload_n 0, 1) := by decide +kernel
theorem dX5_isLast_24 : decode cX5_isLast 24 = .ok (.invokevirtual 110, 3) := by decide +kernel
theorem dX5_isLast_27 : decode cX5_isLast 27 = .ok (.iconst 0, 1) := by decide +kernel
theorem dX5_isLast_28 : decode cX5_isLast 28 = .ok (.ireturn, 1) := by decide +kernel
def FX5_isLast (G : GG) (M : DD) (a : Nat)  : Option (DD × Int32) :=
  ltt (M.1 a 8) fun x1 =>
  ltt ((x1 - ((2 : Int32)))) fun x2 =>
  ltt (uI M a 8 x2) fun M3 =>
  ltt (M3.1 a 9) fun x4 =>
  ltt (M3.1 a 8) fun x5 =>
  if x4 < x5 then (bnd (FX5_widen G M3 a) fun y7 =>
  chk (((0 : Int32)) = 0 ∨ ((0 : Int32)) = 1) <|
  some (y7, (0 : Int32))) else
  (chk (((1 : Int32)) = 0 ∨ ((1 : Int32)) = 1) <|
  some (M3, (1 : Int32)))
set_option maxHeartbeats 4000000 in
set_option maxRecDepth 100000 in
theorem kX5_isLast (l : Launch) (D : va_G) (ct : CT) (ad : Nat → Nat) (Z : Nat → Nat) (G : GG) (M : DD) (sz : Nat) (a : Nat)  (y : DD × Int32) (hc : a < G.1) (hk : G.2.1 a = 5) (hF : FX5_isLast G M a  = some y) : Met l yX5_isLast wuX5_isLast ({ frames := 2, cells := 0, slots := 0, locals := 42 }) (va_Pc [.ref (ad a)] (kB D ct ad Z G M sz)) (va_Qi (fun (q : Int32) (_ : Unit) => q = y.2) (fun _ t => kE D ct ad G (wA ad G sz) y.1 t) (wA ad G sz)) 0 0 (wA ad G sz) := by
  refine Met.ofW (cc := cX5_isLast) (maxL := 1) (ret := (some .boolean)) (by decide) rfl ?_
  intro p e s m args below meth c s₁ B hml hv
  obtain ⟨rfl, hsz, hP, hK, hD0, hZ, hN⟩ := hv
  have hx := B.exec
  have hb := B.bytes
  have hr := B.returns
  have hts := atoms_spec (ws := wuX5_isLast) B.pre
  have hown : s.vm.findClass RX5 = some m.cls := findClass_of_methodNamed B.named
  have hlocks := B.notSynchronized
  subst hsz
  have hD := wD_self (sz := s.heap.size) hD0
  have hA9 : ∀ q, s.heap.size ≤ q → wA ad G s.heap.size q := fun q h => Or.inr h
  generalize hAe : wA ad G s.heap.size = A at hD hA9 hZ ⊢
  have hS : va_S A s.heap s.heap [] := va_S.rf
  have hl := lv_entry ([.ref (ad a)]) (n := 1) (Nat.le_of_ble_eq_true rfl)
  rw [lg_entry_eq]
  generalize (lg_sl ([.ref (ad a)]) ++ List.replicate (1 - (lg_sl ([.ref (ad a)])).length) Slot.unset).toArray = ls at hl ⊢
  have hl : lv_has ls 1 [(0, .ref (ad a))] := hl
  unfold FX5_isLast at hF
  refine lv_aload_n hx hb dX5_isLast_0 rfl (lv_at hl 0 rfl) ?_
  refine lv_dup hx hb dX5_isLast_1 rfl ?_
  refine va_get (D := D) (ci := 5) (v := .int (M.1 a 8)) (C := RX5) (T := TX5) (N := 17) hx hb hts (mus hf_X5) hown hK hP a (wld_o ct ad G M hc hk (by decide)) rfl 8 (by decide) (hts (.fieldLink RX5 96 "VideoSuite$Reader" "range" "I") (mu mw_297)) (fun _ h9 => h9) rfl dX5_isLast_2 ?_
  obtain ⟨x1, ex1, hF⟩ := ltt_some hF
  refine lv_topi (fun zx1 ezx1 => ?_)
  obtain rfl : x1 = zx1 := ex1.trans ezx1.symm
  refine lv_iconst (v := (2 : Int32)) hx hb dX5_isLast_5 (by decide) ?_
  refine lv_isub hx hb dX5_isLast_6 ?_
  obtain ⟨x2, ex2, hF⟩ := ltt_some hF
  refine lv_topi (fun zx2 ezx2 => ?_)
  obtain rfl : x2 = zx2 := ex2.trans ezx2.symm
  refine va_put (D := D) (ci := 5) (v := .int x2) (ty := .int) (C := RX5) (T := TX5) (N := 17) hx hb hts (mus hf_X5) tyX5 tyX5_ok nmX5 hown hK hP hD hS a (wld_o ct ad G M hc hk (by decide)) rfl 8 (by decide) (hts (.fieldLink RX5 96 "VideoSuite$Reader" "range" "I") (mu mw_297)) (fun _ h9 => h9) rfl (by decide +kernel) rfl rfl (Nat.le_of_ble_eq_true rfl) dX5_isLast_7 (fun H locs hP hD hS => ?_)
  obtain ⟨M3, eM3, hF⟩ := ltt_some hF
  rw [set_oI ct ad G M hc hk (by decide) (by rfl), ← eM3] at hP hD
  refine lv_aload_n hx hb dX5_isLast_10 rfl (lv_at hl 0 rfl) ?_
  refine va_get (D := D) (ci := 5) (v := .int (M3.1 a 9)) (C := RX5) (T := TX5) (N := 17) hx hb hts (mus hf_X5) hown hK hP a (wld_o ct ad G M3 hc hk (by decide)) rfl 9 (by decide) (hts (.fieldLink RX5 99 "VideoSuite$Reader" "offset" "I") (mu mw_298)) (fun _ h9 => h9) rfl dX5_isLast_11 ?_
  obtain ⟨x4, ex4, hF⟩ := ltt_some hF
  refine lv_topi (fun zx4 ezx4 => ?_)
  obtain rfl : x4 = zx4 := ex4.trans ezx4.symm
  refine lv_aload_n hx hb dX5_isLast_14 rfl (lv_at hl 0 rfl) ?_
  refine va_get (D := D) (ci := 5) (v := .int (M3.1 a 8)) (C := RX5) (T := TX5) (N := 17) hx hb hts (mus hf_X5) hown hK hP a (wld_o ct ad G M3 hc hk (by decide)) rfl 8 (by decide) (hts (.fieldLink RX5 96 "VideoSuite$Reader" "range" "I") (mu mw_297)) (fun _ h9 => h9) rfl dX5_isLast_15 ?_
  obtain ⟨x5, ex5, hF⟩ := ltt_some hF
  refine lv_topi (fun zx5 ezx5 => ?_)
  obtain rfl : x5 = zx5 := ex5.trans ezx5.symm
  refine lv_icmp_lt (tgt := 23) hx hb dX5_isLast_18 (by decide) (fun c6 => ?_) (fun c6 => ?_)
  · rw [if_pos c6] at hF
    refine lv_aload_n hx hb dX5_isLast_23 rfl (lv_at hl 0 rfl) ?_
    obtain ⟨y7, hy7, hF⟩ := bnd_some hF
    have hf9 := wA_in hD hA9 hS
    refine va_callv (va_runV (As := []) (rest := []) ⟨hx, hb, hml, hown, hts⟩ (kX5_widen l D ct ad Z G M3 H.size a y7 hc hk hy7) (cwV 0 hts gX5_isLast_X5_widen rfl rfl rfl (by decide +kernel) ⟨Nat.le_of_ble_eq_true rfl, Nat.le_of_ble_eq_true rfl⟩) ⟨fun a U g mk q => by obtain ⟨q0, q1, qP, qK, qD, qZ, qN⟩ := q; exact ⟨q0, q1, qP, va_K.moved (u := U) (U := U.calling g mk a) (Vm.Alike.refl U.vm) qK, qD, sF.moved (u := U) (U := U.calling g mk a) (Vm.Alike.refl U.vm) qZ, nF.same rfl qN⟩, va_recv hK hP (ci := 5) (q0 := a) rfl (wld_o ct ad G M3 hc hk (by decide)), fun U hU hW => ⟨rfl, by rw [hU], by rw [hU]; exact hP, va_K.moved hW.alike hK, hD.weaken (fun _ _ _ _ => trivial), by rw [hU]; exact ((hZ.kept hS.2.1).narrow hf9).moved hW.alike, hN.warm hW⟩⟩ rfl rfl hl.1 rfl (lv_room (Nat.le_of_ble_eq_true rfl)) dX5_isLast_24 ⟨(Nat.zero_le _), (Nat.zero_le _)⟩) hS (fun q _ h => hf9 q h) hf9 (fun u t H locs ht hvm hw hB hz1 hk1 hS => ?_)
    obtain ⟨hP, hK9, hD9⟩ := hB
    rw [ht] at hP
    have hD := hD9.weaken (fun _ q _ h => hf9 q.1 h)
    refine lv_iconst (v := (0 : Int32)) hx hb dX5_isLast_27 (by decide) ?_
    obtain ⟨hz9, hF⟩ := chk_some hF
    obtain rfl := Option.some.inj hF
    exact W.zret (v := (0 : Int32)) (ty := .boolean) hx hb hr (nar_z hz9).1 (fun t ht hW => ⟨⟨_, (), rfl, rfl, ⟨by rw [ht]; exact hP, va_K.moved hW.alike hK, hD⟩⟩, hS.F ht⟩) hS.2.2 dX5_isLast_28
  · rw [if_neg c6] at hF
    refine lv_iconst (v := (1 : Int32)) hx hb dX5_isLast_21 (by decide) ?_
    obtain ⟨hz9, hF⟩ := chk_some hF
    obtain rfl := Option.some.inj hF
    exact W.zret (v := (1 : Int32)) (ty := .boolean) hx hb hr (nar_z hz9).1 (fun t ht hW => ⟨⟨_, (), rfl, rfl, ⟨by rw [ht]; exact hP, va_K.moved hW.alike hK, hD⟩⟩, hS.F ht⟩) hS.2.2 dX5_isLast_22
set_option maxRecDepth 20000 in
theorem gX5_load_X8_stopPlace : GoodIn wuX5_load (wsV RX5 50 RX8 yX8_stopPlace wuX8_stopPlace) := gu_V mw_1313 mw_1314 mw_1315 mw_167 mw_1316
theorem dX5_load_0 : decode cX5_load 0 = .ok (.aload_n 0, 1) := by decide +kernel
theorem dX5_load_1 : decode cX5_load 1 = .ok (.aload_n 1, 1) := by decide +kernel
theorem dX5_load_2 : decode cX5_load 2 = .ok (.getfield 34, 3) := by decide +kernel
theorem dX5_load_5 : decode cX5_load 5 = .ok (.putfield 40, 3) := by decide +kernel
theorem dX5_load_8 : decode cX5_load 8 = .ok (.aload_n 0, 1) := by decide +kernel
theorem dX5_load_9 : decode cX5_load 9 = .ok (.bipush 8, 2) := by decide +kernel
theorem dX5_load_11 : decode cX5_load 11 = .ok (.aload_n 1, 1) := by decide +kernel
theorem dX5_load_12 : decode cX5_load 12 = .ok (.getfield 43, 3) := by decide +kernel
theorem dX5_load_15 : decode cX5_load 15 = .ok (.iconst 1, 1) := by decide +kernel
theorem dX5_load_16 : decode cX5_load 16 = .ok (.isub, 1) := by decide +kernel
theorem dX5_load_17 : decode cX5_load 17 = .ok (.imul, 1) := by decide +kernel
theorem dX5_load_18 : decode cX5_load 18 = .ok (.putfield 47, 3) := by decide +kernel
theorem dX5_load_21 : decode cX5_load 21 = .ok (.aload_n 0, 1) := by decide +kernel
theorem dX5_load_22 : decode cX5_load 22 = .ok (.aload_n 1, 1) := by decide +kernel
theorem dX5_load_23 : decode cX5_load 23 = .ok (.invokevirtual 50, 3) := by decide +kernel
theorem dX5_load_26 : decode cX5_load 26 = .ok (.putfield 54, 3) := by decide +kernel
theorem dX5_load_29 : decode cX5_load 29 = .ok (.aload_n 0, 1) := by decide +kernel
theorem dX5_load_30 : decode cX5_load 30 = .ok (.iconst 0, 1) := by decide +kernel
theorem dX5_load_31 : decode cX5_load 31 = .ok (.putfield 57, 3) := by decide +kernel
theorem dX5_load_34 : decode cX5_load 34 = .ok (.aload_n 0, 1) := by decide +kernel
theorem dX5_load_35 : decode cX5_load 35 = .ok (.iconst 0, 1) := by decide +kernel
theorem dX5_load_36 : decode cX5_load 36 = .ok (.putfield 60, 3) := by decide +kernel
theorem dX5_load_39 : decode cX5_load 39 = .ok (.aload_n 0, 1) := by decide +kernel
theorem dX5_load_40 : decode cX5_load 40 = .ok (.iconst 0, 1) := by decide +kernel
theorem dX5_load_41 : decode cX5_load 41 = .ok (.putfield 63, 3) := by decide +kernel
theorem dX5_load_44 : decode cX5_load 44 = .ok (.aload_n 0, 1) := by decide +kernel
theorem dX5_load_45 : decode cX5_load 45 = .ok (.iconst 0, 1) := by decide +kernel
theorem dX5_load_46 : decode cX5_load 46 = .ok (.putfield 66, 3) := by decide +kernel
theorem dX5_load_49 : decode cX5_load 49 = .ok (.aload_n 0, 1) := by decide +kernel
theorem dX5_load_50 : decode cX5_load 50 = .ok (.iconst 0, 1) := by decide +kernel
theorem dX5_load_51 : decode cX5_load 51 = .ok (.putfield 70, 3) := by decide +kernel
theorem dX5_load_54 : decode cX5_load 54 = .ok (.aload_n 0, 1) := by decide +kernel
theorem dX5_load_55 : decode cX5_load 55 = .ok (.iconst 0, 1) := by decide +kernel
theorem dX5_load_56 : decode cX5_load 56 = .ok (.putfield 73, 3) := by decide +kernel
theorem dX5_load_59 : decode cX5_load 59 = .ok (.return_, 1) := by decide +kernel
def FX5_load (G : GG) (M : DD) (a : Nat) (p0 : Option Nat) : Option (DD) :=
  dr G 8 p0 fun b2 =>
  ltt (uP M a 0 ((M.2 b2 8))) fun M3 =>
  ltt (M3.1 b2 9) fun x4 =>
  ltt ((x4 - ((1 : Int32)))) fun x5 =>
  ltt ((((8 : Int32)) * x5)) fun x6 =>
  ltt (uI M3 a 1 x6) fun M7 =>
  bnd (FX8_stopPlace G M7 b2) fun y8 =>
  ltt (uI y8.1 a 3 y8.2) fun M9 =>
  ltt (uI M9 a 2 ((0 : Int32))) fun M10 =>
  ltt (uI M10 a 4 ((0 : Int32))) fun M11 =>
  ltt (uI M11 a 5 ((0 : Int32))) fun M12 =>
  chk (((0 : Int32)) = 0 ∨ ((0 : Int32)) = 1) <|
  ltt (uI M12 a 6 ((0 : Int32))) fun M13 =>
  chk (((0 : Int32)) = 0 ∨ ((0 : Int32)) = 1) <|
  ltt (uI M13 a 7 ((0 : Int32))) fun M14 =>
  ltt (uI M14 a 12 ((0 : Int32))) fun M15 =>
  some M15
set_option maxHeartbeats 4000000 in
set_option maxRecDepth 100000 in
theorem kX5_load (l : Launch) (D : va_G) (ct : CT) (ad : Nat → Nat) (Z : Nat → Nat) (G : GG) (M : DD) (sz : Nat) (a : Nat) (p0 : Option Nat) (y : DD) (hc : a < G.1) (hk : G.2.1 a = 5) (hF : FX5_load G M a p0 = some y) : Met l yX5_load wuX5_load ({ frames := 1, cells := 0, slots := 0, locals := 22 }) (va_Pc [.ref (ad a), va_re ad p0] (kB D ct ad Z G M sz)) (va_Qv (fun (_ : Unit) => True) (fun _ t => kE D ct ad G (wA ad G sz) y t) (wA ad G sz)) 0 0 (wA ad G sz) := by
  refine Met.ofW (cc := cX5_load) (maxL := 2) (ret := none) (by decide) rfl ?_
  intro p e s m args below meth c s₁ B hml hv
  obtain ⟨rfl, hsz, hP, hK, hD0, hZ, hN⟩ := hv
  have hx := B.exec
  have hb := B.bytes
  have hr := B.returns
  have hts := atoms_spec (ws := wuX5_load) B.pre
  have hown : s.vm.findClass RX5 = some m.cls := findClass_of_methodNamed B.named
  have hlocks := B.notSynchronized
  subst hsz
  have hD := wD_self (sz := s.heap.size) hD0
  have hA9 : ∀ q, s.heap.size ≤ q → wA ad G s.heap.size q := fun q h => Or.inr h
  generalize hAe : wA ad G s.heap.size = A at hD hA9 hZ ⊢
  have hS : va_S A s.heap s.heap [] := va_S.rf
  have hl := lv_entry ([.ref (ad a), va_re ad p0]) (n := 2) (by cases p0 <;> exact Nat.le_of_ble_eq_true rfl)
  rw [lg_entry_eq]
  generalize (lg_sl ([.ref (ad a), va_re ad p0]) ++ List.replicate (2 - (lg_sl ([.ref (ad a), va_re ad p0])).length) Slot.unset).toArray = ls at hl ⊢
  have hl : lv_has ls 2 [(0, .ref (ad a)), (1, va_re ad p0)] := by have e9 : lv_args 0 [.ref (ad a), va_re ad p0] = [(0, .ref (ad a)), (1, va_re ad p0)] := (by cases p0 <;> rfl); rw [e9] at hl; exact hl
  unfold FX5_load at hF
  refine lv_aload_n hx hb dX5_load_0 rfl (lv_at hl 0 rfl) ?_
  refine lv_aloadq_n hx hb dX5_load_1 rfl (lv_at hl 1 rfl) ?_
  obtain ⟨b2, ho2, hc2, hk2, hF⟩ := dr_some hF
  refine W_st (st' := [.ref (ad b2), .ref (ad a)]) (by rw [va_some ho2]) ?_
  refine va_get (D := D) (ci := 8) (v := va_re ad (M.2 b2 8)) (C := RX8) (T := TX8) (N := 15) hx hb hts (mus hf_X8) hown hK hP b2 (wld_o ct ad G M hc2 hk2 (by decide)) rfl 8 (by decide) (hts (.fieldLink RX5 34 "VideoSuite$Units" "payload" "[B") (mu mw_225)) (fun _ h9 => h9) rfl dX5_load_2 ?_
  refine va_put (D := D) (ci := 5) (v := va_re ad ((M.2 b2 8))) (ty := (.array .byte)) (C := RX5) (T := TX5) (N := 17) hx hb hts (mus hf_X5) tyX5 tyX5_ok nmX5 hown hK hP hD hS a (wld_o ct ad G M hc hk (by decide)) rfl 0 (by decide) (hts (.fieldLink RX5 40 "VideoSuite$Reader" "data" "[B") (mu mw_287)) (fun _ h9 => h9) rfl (by decide +kernel) (nar_q ad (Or.inr ⟨_, rfl⟩) ((M.2 b2 8))).1 (nar_q ad (Or.inr ⟨_, rfl⟩) ((M.2 b2 8))).2 (Nat.le_of_ble_eq_true rfl) dX5_load_5 (fun H locs hP hD hS => ?_)
  obtain ⟨M3, eM3, hF⟩ := ltt_some hF
  rw [set_oP ct ad G M hc hk (by decide) (by rfl), ← eM3] at hP hD
  refine lv_aload_n hx hb dX5_load_8 rfl (lv_at hl 0 rfl) ?_
  refine lv_bipush (v := (8 : Int32)) hx hb dX5_load_9 (by decide) ?_
  refine lv_aloadq_n hx hb dX5_load_11 rfl (lv_at hl 1 rfl) ?_
  refine W_st (st' := [.ref (ad b2), .int (8 : Int32), .ref (ad a)]) (by rw [va_some ho2]) ?_
  refine va_get (D := D) (ci := 8) (v := .int (M3.1 b2 9)) (C := RX8) (T := TX8) (N := 15) hx hb hts (mus hf_X8) hown hK hP b2 (wld_o ct ad G M3 hc2 hk2 (by decide)) rfl 9 (by decide) (hts (.fieldLink RX5 43 "VideoSuite$Units" "payloadSize" "I") (mu mw_226)) (fun _ h9 => h9) rfl dX5_load_12 ?_
  obtain ⟨x4, ex4, hF⟩ := ltt_some hF
  refine lv_topi (fun zx4 ezx4 => ?_)
  obtain rfl : x4 = zx4 := ex4.trans ezx4.symm
  refine lv_iconst (v := (1 : Int32)) hx hb dX5_load_15 (by decide) ?_
  refine lv_isub hx hb dX5_load_16 ?_
  obtain ⟨x5, ex5, hF⟩ := ltt_some hF
  refine lv_topi (fun zx5 ezx5 => ?_)
  obtain rfl : x5 = zx5 := ex5.trans ezx5.symm
  refine lv_imul hx hb dX5_load_17 ?_
  obtain ⟨x6, ex6, hF⟩ := ltt_some hF
  refine lv_topi (fun zx6 ezx6 => ?_)
  obtain rfl : x6 = zx6 := ex6.trans ezx6.symm
  refine va_put (D := D) (ci := 5) (v := .int x6) (ty := .int) (C := RX5) (T := TX5) (N := 17) hx hb hts (mus hf_X5) tyX5 tyX5_ok nmX5 hown hK hP hD hS a (wld_o ct ad G M3 hc hk (by decide)) rfl 1 (by decide) (hts (.fieldLink RX5 47 "VideoSuite$Reader" "total" "I") (mu mw_288)) (fun _ h9 => h9) rfl (by decide +kernel) rfl rfl (Nat.le_of_ble_eq_true rfl) dX5_load_18 (fun H locs hP hD hS => ?_)
  obtain ⟨M7, eM7, hF⟩ := ltt_some hF
  rw [set_oI ct ad G M3 hc hk (by decide) (by rfl), ← eM7] at hP hD
  refine lv_aload_n hx hb dX5_load_21 rfl (lv_at hl 0 rfl) ?_
  refine lv_aloadq_n hx hb dX5_load_22 rfl (lv_at hl 1 rfl) ?_
  refine W_st (st' := [.ref (ad b2), .ref (ad a)]) (by rw [va_some ho2]) ?_
  obtain ⟨y8, hy8, hF⟩ := bnd_some hF
  have hf9 := wA_in hD hA9 hS
  refine va_calli (va_runV (As := []) (rest := [.ref (ad a)]) ⟨hx, hb, hml, hown, hts⟩ (kX8_stopPlace l D ct ad Z G M7 H.size b2 y8 hc2 hk2 hy8) (cwV 0 hts gX5_load_X8_stopPlace rfl rfl rfl (by decide +kernel) ⟨Nat.le_of_ble_eq_true rfl, Nat.le_of_ble_eq_true rfl⟩) ⟨fun a U g mk q => by obtain ⟨q0, q1, qP, qK, qD, qZ, qN⟩ := q; exact ⟨q0, q1, qP, va_K.moved (u := U) (U := U.calling g mk a) (Vm.Alike.refl U.vm) qK, qD, sF.moved (u := U) (U := U.calling g mk a) (Vm.Alike.refl U.vm) qZ, nF.same rfl qN⟩, va_recv hK hP (ci := 8) (q0 := b2) rfl (wld_o ct ad G M7 hc2 hk2 (by decide)), fun U hU hW => ⟨rfl, by rw [hU], by rw [hU]; exact hP, va_K.moved hW.alike hK, hD.weaken (fun _ _ _ _ => trivial), by rw [hU]; exact ((hZ.kept hS.2.1).narrow hf9).moved hW.alike, hN.warm hW⟩⟩ rfl rfl hl.1 rfl (lv_room (Nat.le_of_ble_eq_true rfl)) dX5_load_23 ⟨(Nat.zero_le _), (Nat.zero_le _)⟩) hS (fun q _ h => hf9 q h) hf9 (fun r u t H locs ht hvm hw hB hz1 hk1 hS => ?_)
  obtain ⟨hP, hK9, hD9⟩ := hB
  rw [ht] at hP
  try dsimp only at hw
  subst hw
  have hD := hD9.weaken (fun _ q _ h => hf9 q.1 h)
  refine va_put (D := D) (ci := 5) (v := .int y8.2) (ty := .int) (C := RX5) (T := TX5) (N := 17) hx hb hts (mus hf_X5) tyX5 tyX5_ok nmX5 hown hK hP hD hS a (wld_o ct ad G y8.1 hc hk (by decide)) rfl 3 (by decide) (hts (.fieldLink RX5 54 "VideoSuite$Reader" "stop" "I") (mu mw_291)) (fun _ h9 => h9) rfl (by decide +kernel) rfl rfl (Nat.le_of_ble_eq_true rfl) dX5_load_26 (fun H locs hP hD hS => ?_)
  obtain ⟨M9, eM9, hF⟩ := ltt_some hF
  rw [set_oI ct ad G y8.1 hc hk (by decide) (by rfl), ← eM9] at hP hD
  refine lv_aload_n hx hb dX5_load_29 rfl (lv_at hl 0 rfl) ?_
  refine lv_iconst (v := (0 : Int32)) hx hb dX5_load_30 (by decide) ?_
  refine va_put (D := D) (ci := 5) (v := .int (0 : Int32)) (ty := .int) (C := RX5) (T := TX5) (N := 17) hx hb hts (mus hf_X5) tyX5 tyX5_ok nmX5 hown hK hP hD hS a (wld_o ct ad G M9 hc hk (by decide)) rfl 2 (by decide) (hts (.fieldLink RX5 57 "VideoSuite$Reader" "place" "I") (mu mw_289)) (fun _ h9 => h9) rfl (by decide +kernel) rfl rfl (Nat.le_of_ble_eq_true rfl) dX5_load_31 (fun H locs hP hD hS => ?_)
  obtain ⟨M10, eM10, hF⟩ := ltt_some hF
  rw [set_oI ct ad G M9 hc hk (by decide) (by rfl), ← eM10] at hP hD
  refine lv_aload_n hx hb dX5_load_34 rfl (lv_at hl 0 rfl) ?_
  refine lv_iconst (v := (0 : Int32)) hx hb dX5_load_35 (by decide) ?_
  refine va_put (D := D) (ci := 5) (v := .int (0 : Int32)) (ty := .int) (C := RX5) (T := TX5) (N := 17) hx hb hts (mus hf_X5) tyX5 tyX5_ok nmX5 hown hK hP hD hS a (wld_o ct ad G M10 hc hk (by decide)) rfl 4 (by decide) (hts (.fieldLink RX5 60 "VideoSuite$Reader" "begin" "I") (mu mw_292)) (fun _ h9 => h9) rfl (by decide +kernel) rfl rfl (Nat.le_of_ble_eq_true rfl) dX5_load_36 (fun H locs hP hD hS => ?_)
  obtain ⟨M11, eM11, hF⟩ := ltt_some hF
  rw [set_oI ct ad G M10 hc hk (by decide) (by rfl), ← eM11] at hP hD
  refine lv_aload_n hx hb dX5_load_39 rfl (lv_at hl 0 rfl) ?_
  refine lv_iconst (v := (0 : Int32)) hx hb dX5_load_40 (by decide) ?_
  refine va_put (D := D) (ci := 5) (v := .int (0 : Int32)) (ty := .int) (C := RX5) (T := TX5) (N := 17) hx hb hts (mus hf_X5) tyX5 tyX5_ok nmX5 hown hK hP hD hS a (wld_o ct ad G M11 hc hk (by decide)) rfl 5 (by decide) (hts (.fieldLink RX5 63 "VideoSuite$Reader" "lastBegin" "I") (mu mw_294)) (fun _ h9 => h9) rfl (by decide +kernel) rfl rfl (Nat.le_of_ble_eq_true rfl) dX5_load_41 (fun H locs hP hD hS => ?_)
  obtain ⟨M12, eM12, hF⟩ := ltt_some hF
  rw [set_oI ct ad G M11 hc hk (by decide) (by rfl), ← eM12] at hP hD
  refine lv_aload_n hx hb dX5_load_44 rfl (lv_at hl 0 rfl) ?_
  refine lv_iconst (v := (0 : Int32)) hx hb dX5_load_45 (by decide) ?_
  obtain ⟨hz9, hF⟩ := chk_some hF
  refine va_put (D := D) (ci := 5) (v := .int (0 : Int32)) (ty := .boolean) (C := RX5) (T := TX5) (N := 17) hx hb hts (mus hf_X5) tyX5 tyX5_ok nmX5 hown hK hP hD hS a (wld_o ct ad G M12 hc hk (by decide)) rfl 6 (by decide) (hts (.fieldLink RX5 66 "VideoSuite$Reader" "arith" "Z") (mu mw_295)) (fun _ h9 => h9) rfl (by decide +kernel) (nar_z hz9).1 (nar_z hz9).2 (Nat.le_of_ble_eq_true rfl) dX5_load_46 (fun H locs hP hD hS => ?_)
  obtain ⟨M13, eM13, hF⟩ := ltt_some hF
  rw [set_oI ct ad G M12 hc hk (by decide) (by rfl), ← eM13] at hP hD
  refine lv_aload_n hx hb dX5_load_49 rfl (lv_at hl 0 rfl) ?_
  refine lv_iconst (v := (0 : Int32)) hx hb dX5_load_50 (by decide) ?_
  obtain ⟨hz9, hF⟩ := chk_some hF
  refine va_put (D := D) (ci := 5) (v := .int (0 : Int32)) (ty := .boolean) (C := RX5) (T := TX5) (N := 17) hx hb hts (mus hf_X5) tyX5 tyX5_ok nmX5 hown hK hP hD hS a (wld_o ct ad G M13 hc hk (by decide)) rfl 7 (by decide) (hts (.fieldLink RX5 70 "VideoSuite$Reader" "inData" "Z") (mu mw_296)) (fun _ h9 => h9) rfl (by decide +kernel) (nar_z hz9).1 (nar_z hz9).2 (Nat.le_of_ble_eq_true rfl) dX5_load_51 (fun H locs hP hD hS => ?_)
  obtain ⟨M14, eM14, hF⟩ := ltt_some hF
  rw [set_oI ct ad G M13 hc hk (by decide) (by rfl), ← eM14] at hP hD
  refine lv_aload_n hx hb dX5_load_54 rfl (lv_at hl 0 rfl) ?_
  refine lv_iconst (v := (0 : Int32)) hx hb dX5_load_55 (by decide) ?_
  refine va_put (D := D) (ci := 5) (v := .int (0 : Int32)) (ty := .int) (C := RX5) (T := TX5) (N := 17) hx hb hts (mus hf_X5) tyX5 tyX5_ok nmX5 hown hK hP hD hS a (wld_o ct ad G M14 hc hk (by decide)) rfl 12 (by decide) (hts (.fieldLink RX5 73 "VideoSuite$Reader" "elementCount" "I") (mu mw_302)) (fun _ h9 => h9) rfl (by decide +kernel) rfl rfl (Nat.le_of_ble_eq_true rfl) dX5_load_56 (fun H locs hP hD hS => ?_)
  obtain ⟨M15, eM15, hF⟩ := ltt_some hF
  rw [set_oI ct ad G M14 hc hk (by decide) (by rfl), ← eM15] at hP hD
  obtain rfl := Option.some.inj hF
  exact W.vret hx hb hr (fun t ht hW => ⟨⟨(), rfl, trivial, ⟨by rw [ht]; exact hP, va_K.moved hW.alike hK, hD⟩⟩, hS.F ht⟩) hS.2.2 dX5_load_59
set_option maxRecDepth 20000 in
theorem gX5_number_X5_record : GoodIn wuX5_number (wsV RX5 137 RX5 yX5_record wuX5_record) := gu_V mw_1346 mw_1348 mw_33 mw_169 mw_1349
set_option maxRecDepth 20000 in
theorem gX5_number_X5_bit : GoodIn wuX5_number (wsV RX5 134 RX5 yX5_bit wuX5_bit) := gu_V mw_1331 mw_1332 mw_1333 mw_169 mw_1334
set_option maxRecDepth 20000 in
theorem dX5_number_0 : decode cX5_number 0 = .ok (.aload_n 0, 1) := by decide +kernel
theorem dX5_number_1 : decode cX5_number 1 = .ok (.aload_n 0, 1) := by decide +kernel
theorem dX5_number_2 : decode cX5_number 2 = .ok (.getfield 57, 3) := by decide +kernel
theorem dX5_number_5 : decode cX5_number 5 = .ok (.putfield 60, 3) := by decide +kernel
theorem dX5_number_8 : decode cX5_number 8 = .ok (.iload_n 2, 1) := by decide +kernel
theorem dX5_number_9 : decode cX5_number 9 = .ok (.iconst 2, 1) := by decide +kernel
theorem dX5_number_10 : decode cX5_number 10 = .ok (.if_icmp .ne 24, 3) := by decide +kernel
theorem dX5_number_13 : decode cX5_number 13 = .ok (.lload 5, 2) := by decide +kernel
theorem dX5_number_15 : decode cX5_number 15 = .ok (.lconst 1, 1) := by decide +kernel
theorem dX5_number_16 : decode cX5_number 16 = .ok (.lcmp, 1) := by decide +kernel
theorem dX5_number_17 : decode cX5_number 17 = .ok (.ifCond .ne 17, 3) := by decide +kernel
theorem dX5_number_20 : decode cX5_number 20 = .ok (.iconst 1, 1) := by decide +kernel
theorem dX5_number_21 : decode cX5_number 21 = .ok (.aload_n 0, 1) := by decide +kernel
theorem dX5_number_22 : decode cX5_number 22 = .ok (.iload_n 1, 1) := by decide +kernel
theorem dX5_number_23 : decode cX5_number 23 = .ok (.iconst 0, 1) := by decide +kernel
theorem dX5_number_24 : decode cX5_number 24 = .ok (.invokevirtual 134, 3) := by decide +kernel
theorem dX5_number_27 : decode cX5_number 27 = .ok (.isub, 1) := by decide +kernel
theorem dX5_number_28 : decode cX5_number 28 = .ok (.i2l, 1) := by decide +kernel
theorem dX5_number_29 : decode cX5_number 29 = .ok (.lstore 7, 2) := by decide +kernel
theorem dX5_number_31 : decode cX5_number 31 = .ok (.goto 129, 3) := by decide +kernel
theorem dX5_number_34 : decode cX5_number 34 = .ok (.iconst 0, 1) := by decide +kernel
theorem dX5_number_35 : decode cX5_number 35 = .ok (.istore 9, 2) := by decide +kernel
theorem dX5_number_37 : decode cX5_number 37 = .ok (.iload 9, 2) := by decide +kernel
theorem dX5_number_39 : decode cX5_number 39 = .ok (.bipush 32, 2) := by decide +kernel
theorem dX5_number_41 : decode cX5_number 41 = .ok (.if_icmp .ge 19, 3) := by decide +kernel
theorem dX5_number_44 : decode cX5_number 44 = .ok (.aload_n 0, 1) := by decide +kernel
theorem dX5_number_45 : decode cX5_number 45 = .ok (.iload_n 1, 1) := by decide +kernel
theorem dX5_number_46 : decode cX5_number 46 = .ok (.iload 9, 2) := by decide +kernel
theorem dX5_number_48 : decode cX5_number 48 = .ok (.invokevirtual 134, 3) := by decide +kernel
theorem dX5_number_51 : decode cX5_number 51 = .ok (.ifCond .ne 9, 3) := by decide +kernel
theorem dX5_number_54 : decode cX5_number 54 = .ok (.iinc 9 1, 3) := by decide +kernel
theorem dX5_number_57 : decode cX5_number 57 = .ok (.goto (-20), 3) := by decide +kernel
theorem dX5_number_60 : decode cX5_number 60 = .ok (.iload 9, 2) := by decide +kernel
theorem dX5_number_62 : decode cX5_number 62 = .ok (.bipush 31, 2) := by decide +kernel
theorem dX5_number_64 : decode cX5_number 64 = .ok (.if_icmp .le 12, 3) := by decide +kernel
theorem dX5_number_67 : decode cX5_number 67 = .ok (.aload_n 0, 1) := by decide +kernel
theorem dX5_number_68 : decode cX5_number 68 = .ok (.iconst 2, 1) := by decide +kernel
theorem dX5_number_69 : decode cX5_number 69 = .ok (.aload_n 0, 1) := by decide +kernel
theorem dX5_number_70 : decode cX5_number 70 = .ok (.getfield 60, 3) := by decide +kernel
theorem dX5_number_73 : decode cX5_number 73 = .ok (.invokevirtual 89, 3) := by decide +kernel
theorem dX5_number_76 : decode cX5_number 76 = .ok (.lconst 0, 1) := by decide +kernel
theorem dX5_number_77 : decode cX5_number 77 = .ok (.lstore 10, 2) := by decide +kernel
theorem dX5_number_79 : decode cX5_number 79 = .ok (.iconst 0, 1) := by decide +kernel
theorem dX5_number_80 : decode cX5_number 80 = .ok (.istore 12, 2) := by decide +kernel
theorem dX5_number_82 : decode cX5_number 82 = .ok (.iload 12, 2) := by decide +kernel
theorem dX5_number_84 : decode cX5_number 84 = .ok (.iload 9, 2) := by decide +kernel
theorem dX5_number_86 : decode cX5_number 86 = .ok (.if_icmp .ge 29, 3) := by decide +kernel
theorem dX5_number_89 : decode cX5_number 89 = .ok (.lload 10, 2) := by decide +kernel
theorem dX5_number_91 : decode cX5_number 91 = .ok (.iconst 1, 1) := by decide +kernel
theorem dX5_number_92 : decode cX5_number 92 = .ok (.lshl, 1) := by decide +kernel
theorem dX5_number_93 : decode cX5_number 93 = .ok (.aload_n 0, 1) := by decide +kernel
theorem dX5_number_94 : decode cX5_number 94 = .ok (.iload_n 1, 1) := by decide +kernel
theorem dX5_number_95 : decode cX5_number 95 = .ok (.iload 9, 2) := by decide +kernel
theorem dX5_number_97 : decode cX5_number 97 = .ok (.iconst 1, 1) := by decide +kernel
theorem dX5_number_98 : decode cX5_number 98 = .ok (.iadd, 1) := by decide +kernel
theorem dX5_number_99 : decode cX5_number 99 = .ok (.iload 12, 2) := by decide +kernel
theorem dX5_number_101 : decode cX5_number 101 = .ok (.iadd, 1) := by decide +kernel
theorem dX5_number_102 : decode cX5_number 102 = .ok (.invokevirtual 134, 3) := by decide +kernel
theorem dX5_number_105 : decode cX5_number 105 = .ok (.i2l, 1) := by decide +kernel
theorem dX5_number_106 : decode cX5_number 106 = .ok (.lor, 1) := by decide +kernel
theorem dX5_number_107 : decode cX5_number 107 = .ok (.lstore 10, 2) := by decide +kernel
theorem dX5_number_109 : decode cX5_number 109 = .ok (.iinc 12 1, 3) := by decide +kernel
theorem dX5_number_112 : decode cX5_number 112 = .ok (.goto (-30), 3) := by decide +kernel
theorem dX5_number_115 : decode cX5_number 115 = .ok (.lconst 1, 1) := by decide +kernel
theorem dX5_number_116 : decode cX5_number 116 = .ok (.iload 9, 2) := by decide +kernel
theorem dX5_number_118 : decode cX5_number 118 = .ok (.lshl, 1) := by decide +kernel
theorem dX5_number_119 : decode cX5_number 119 = .ok (.lconst 1, 1) := by decide +kernel
theorem dX5_number_120 : decode cX5_number 120 = .ok (.lsub, 1) := by decide +kernel
theorem dX5_number_121 : decode cX5_number 121 = .ok (.lload 10, 2) := by decide +kernel
theorem dX5_number_123 : decode cX5_number 123 = .ok (.ladd, 1) := by decide +kernel
theorem dX5_number_124 : decode cX5_number 124 = .ok (.lstore 7, 2) := by decide +kernel
theorem dX5_number_126 : decode cX5_number 126 = .ok (.iload_n 2, 1) := by decide +kernel
theorem dX5_number_127 : decode cX5_number 127 = .ok (.iconst 1, 1) := by decide +kernel
theorem dX5_number_128 : decode cX5_number 128 = .ok (.if_icmp .ne 32, 3) := by decide +kernel
theorem dX5_number_131 : decode cX5_number 131 = .ok (.lload 7, 2) := by decide +kernel
theorem dX5_number_133 : decode cX5_number 133 = .ok (.lconst 1, 1) := by decide +kernel
theorem dX5_number_134 : decode cX5_number 134 = .ok (.land, 1) := by decide +kernel
theorem dX5_number_135 : decode cX5_number 135 = .ok (.lconst 1, 1) := by decide +kernel
theorem dX5_number_136 : decode cX5_number 136 = .ok (.lcmp, 1) := by decide +kernel
theorem dX5_number_137 : decode cX5_number 137 = .ok (.ifCond .ne 14, 3) := by decide +kernel
theorem dX5_number_140 : decode cX5_number 140 = .ok (.lload 7, 2) := by decide +kernel
theorem dX5_number_142 : decode cX5_number 142 = .ok (.lconst 1, 1) := by decide +kernel
theorem dX5_number_143 : decode cX5_number 143 = .ok (.ladd, 1) := by decide +kernel
theorem dX5_number_144 : decode cX5_number 144 = .ok (.ldc2_w 140, 3) := by decide +kernel
theorem dX5_number_147 : decode cX5_number 147 = .ok (.ldiv, 1) := by decide +kernel
theorem dX5_number_148 : decode cX5_number 148 = .ok (.goto 10, 3) := by decide +kernel
theorem dX5_number_151 : decode cX5_number 151 = .ok (.lload 7, 2) := by decide +kernel
theorem dX5_number_153 : decode cX5_number 153 = .ok (.ldc2_w 140, 3) := by decide +kernel
theorem dX5_number_156 : decode cX5_number 156 = .ok (.ldiv, 1) := by decide +kernel
theorem dX5_number_157 : decode cX5_number 157 = .ok (.lneg, 1) := by decide +kernel
theorem dX5_number_158 : decode cX5_number 158 = .ok (.lstore 7, 2) := by decide +kernel
theorem dX5_number_160 : decode cX5_number 160 = .ok (.lload 7, 2) := by decide +kernel
theorem dX5_number_162 : decode cX5_number 162 = .ok (.lload_n 3, 1) := by decide +kernel
theorem dX5_number_163 : decode cX5_number 163 = .ok (.lcmp, 1) := by decide +kernel
theorem dX5_number_164 : decode cX5_number 164 = .ok (.ifCond .lt 11, 3) := by decide +kernel
theorem dX5_number_167 : decode cX5_number 167 = .ok (.lload 7, 2) := by decide +kernel
theorem dX5_number_169 : decode cX5_number 169 = .ok (.lload 5, 2) := by decide +kernel
theorem dX5_number_171 : decode cX5_number 171 = .ok (.lcmp, 1) := by decide +kernel
theorem dX5_number_172 : decode cX5_number 172 = .ok (.ifCond .le 12, 3) := by decide +kernel
theorem dX5_number_175 : decode cX5_number 175 = .ok (.aload_n 0, 1) := by decide +kernel
theorem dX5_number_176 : decode cX5_number 176 = .ok (.iconst 2, 1) := by decide +kernel
theorem dX5_number_177 : decode cX5_number 177 = .ok (.aload_n 0, 1) := by decide +kernel
theorem dX5_number_178 : decode cX5_number 178 = .ok (.getfield 60, 3) := by decide +kernel
theorem dX5_number_181 : decode cX5_number 181 = .ok (.invokevirtual 89, 3) := by decide +kernel
theorem dX5_number_184 : decode cX5_number 184 = .ok (.aload_n 0, 1) := by decide +kernel
theorem dX5_number_185 : decode cX5_number 185 = .ok (.lload 7, 2) := by decide +kernel
theorem dX5_number_187 : decode cX5_number 187 = .ok (.l2i, 1) := by decide +kernel
theorem dX5_number_188 : decode cX5_number 188 = .ok (.invokevirtual 137, 3) := by decide +kernel
theorem dX5_number_191 : decode cX5_number 191 = .ok (.lload 7, 2) := by decide +kernel
theorem dX5_number_193 : decode cX5_number 193 = .ok (.l2i, 1) := by decide +kernel
theorem dX5_number_194 : decode cX5_number 194 = .ok (.ireturn, 1) := by decide +kernel
def FX5_number (G : GG) (M : DD) (a : Nat) (p0 : Int32) (p1 : Int32) (p2 : Int64) (p3 : Int64) : Option (DD × Int32) :=
  ltt (M.1 a 2) fun x1 =>
  ltt (uI M a 4 x1) fun M2 =>
  bnd (if p1 = ((2 : Int32)) then (ltt (lg_cmp p3 ((1 : Int64))) fun x52 =>
  bnd (if x52 = ((0 : Int32)) then (bnd (FX5_bit G M2 a p0 ((0 : Int32))) fun y91 =>
  ltt ((((1 : Int32)) - y91.2)) fun x92 =>
  ltt (x92.toInt64) fun x93 =>
  some (x93, y91.1)) else
  (bnd (itr (fun (s56 : Int32 × DD) => ((if ((32 : Int32)) ≤ s56.1 then (some (.inr (s56.1, s56.2))) else
  (bnd (FX5_bit G s56.2 a p0 s56.1) fun y88 =>
  if y88.2 = ((0 : Int32)) then (ltt (s56.1 + (1 : Int32)) fun x90 =>
  some (.inl (x90, y88.1))) else
  (some (.inr (s56.1, y88.1))))) : Option ((Int32 × DD) ⊕ (Int32 × DD)))) 1000000 ((0 : Int32), M2)) fun (y55 : Int32 × DD) =>
  bnd (if y55.1 ≤ ((31 : Int32)) then (some (y55.2)) else
  (ltt (y55.2.1 a 4) fun x85 =>
  none)) fun (y58 : DD) =>
  bnd (itr (fun (s60 : Int64 × Int32 × DD) => ((if y55.1 ≤ s60.2.1 then (some (.inr (s60.1, s60.2.1, s60.2.2))) else
  (ltt (s60.1 <<< (((1 : Int32)).toInt64 &&& 63)) fun x77 =>
  ltt ((y55.1 + ((1 : Int32)))) fun x78 =>
  ltt ((x78 + s60.2.1)) fun x79 =>
  bnd (FX5_bit G s60.2.2 a p0 x79) fun y80 =>
  ltt (y80.2.toInt64) fun x81 =>
  ltt (x77 ||| x81) fun x82 =>
  ltt (s60.2.1 + (1 : Int32)) fun x83 =>
  some (.inl (x82, x83, y80.1)))) : Option ((Int64 × Int32 × DD) ⊕ (Int64 × Int32 × DD)))) 1000000 ((0 : Int64), (0 : Int32), y58)) fun (y59 : Int64 × Int32 × DD) =>
  ltt (((1 : Int64)) <<< (y55.1.toInt64 &&& 63)) fun x62 =>
  ltt (x62 - ((1 : Int64))) fun x63 =>
  ltt (x63 + y59.1) fun x64 =>
  bnd (if p1 = ((1 : Int32)) then (ltt (x64 &&& ((1 : Int64))) fun x67 =>
  ltt (lg_cmp x67 ((1 : Int64))) fun x68 =>
  bnd (if x68 = ((0 : Int32)) then (ltt (x64 + ((1 : Int64))) fun x73 =>
  chk (¬ ((2 : Int64)) = 0) <|
  ltt (x73 / ((2 : Int64))) fun x74 =>
  some (x74)) else
  (chk (¬ ((2 : Int64)) = 0) <|
  ltt (x64 / ((2 : Int64))) fun x71 =>
  ltt (-x71) fun x72 =>
  some (x72))) fun (y69 : Int64) =>
  some (y69)) else
  (some (x64))) fun (y65 : Int64) =>
  some (y65, y59.2.2))) fun (y53 : Int64 × DD) =>
  some (y53.1, y53.2)) else
  (bnd (itr (fun (s17 : Int32 × DD) => ((if ((32 : Int32)) ≤ s17.1 then (some (.inr (s17.1, s17.2))) else
  (bnd (FX5_bit G s17.2 a p0 s17.1) fun y49 =>
  if y49.2 = ((0 : Int32)) then (ltt (s17.1 + (1 : Int32)) fun x51 =>
  some (.inl (x51, y49.1))) else
  (some (.inr (s17.1, y49.1))))) : Option ((Int32 × DD) ⊕ (Int32 × DD)))) 1000000 ((0 : Int32), M2)) fun (y16 : Int32 × DD) =>
  bnd (if y16.1 ≤ ((31 : Int32)) then (some (y16.2)) else
  (ltt (y16.2.1 a 4) fun x46 =>
  none)) fun (y19 : DD) =>
  bnd (itr (fun (s21 : Int64 × Int32 × DD) => ((if y16.1 ≤ s21.2.1 then (some (.inr (s21.1, s21.2.1, s21.2.2))) else
  (ltt (s21.1 <<< (((1 : Int32)).toInt64 &&& 63)) fun x38 =>
  ltt ((y16.1 + ((1 : Int32)))) fun x39 =>
  ltt ((x39 + s21.2.1)) fun x40 =>
  bnd (FX5_bit G s21.2.2 a p0 x40) fun y41 =>
  ltt (y41.2.toInt64) fun x42 =>
  ltt (x38 ||| x42) fun x43 =>
  ltt (s21.2.1 + (1 : Int32)) fun x44 =>
  some (.inl (x43, x44, y41.1)))) : Option ((Int64 × Int32 × DD) ⊕ (Int64 × Int32 × DD)))) 1000000 ((0 : Int64), (0 : Int32), y19)) fun (y20 : Int64 × Int32 × DD) =>
  ltt (((1 : Int64)) <<< (y16.1.toInt64 &&& 63)) fun x23 =>
  ltt (x23 - ((1 : Int64))) fun x24 =>
  ltt (x24 + y20.1) fun x25 =>
  bnd (if p1 = ((1 : Int32)) then (ltt (x25 &&& ((1 : Int64))) fun x28 =>
  ltt (lg_cmp x28 ((1 : Int64))) fun x29 =>
  bnd (if x29 = ((0 : Int32)) then (ltt (x25 + ((1 : Int64))) fun x34 =>
  chk (¬ ((2 : Int64)) = 0) <|
  ltt (x34 / ((2 : Int64))) fun x35 =>
  some (x35)) else
  (chk (¬ ((2 : Int64)) = 0) <|
  ltt (x25 / ((2 : Int64))) fun x32 =>
  ltt (-x32) fun x33 =>
  some (x33))) fun (y30 : Int64) =>
  some (y30)) else
  (some (x25))) fun (y26 : Int64) =>
  some (y26, y20.2.2))) fun (y3 : Int64 × DD) =>
  ltt (lg_cmp y3.1 p2) fun x4 =>
  bnd (if x4 < ((0 : Int32)) then (ltt (y3.2.1 a 4) fun x14 =>
  none) else
  (some (y3.2))) fun (y5 : DD) =>
  ltt (lg_cmp y3.1 p3) fun x6 =>
  bnd (if x6 ≤ ((0 : Int32)) then (some (y5)) else
  (ltt (y5.1 a 4) fun x12 =>
  none)) fun (y7 : DD) =>
  ltt (y3.1.toInt32) fun x8 =>
  bnd (FX5_record G y7 a x8) fun y9 =>
  ltt (y3.1.toInt32) fun x10 =>
  some (y9, x10)
set_option maxHeartbeats 4000000 in
set_option maxRecDepth 100000 in
theorem kX5_number (l : Launch) (D : va_G) (ct : CT) (ad : Nat → Nat) (Z : Nat → Nat) (G : GG) (M : DD) (sz : Nat) (a : Nat) (p0 : Int32) (p1 : Int32) (p2 : Int64) (p3 : Int64) (y : DD × Int32) (hc : a < G.1) (hk : G.2.1 a = 5) (hF : FX5_number G M a p0 p1 p2 p3 = some y) : Met l yX5_number wuX5_number ({ frames := 1, cells := 0, slots := 0, locals := 27 }) (va_Pc [.ref (ad a), .int p0, .int p1, .long p2, .long p3] (kB D ct ad Z G M sz)) (va_Qi (fun (q : Int32) (_ : Unit) => q = y.2) (fun _ t => kE D ct ad G (wA ad G sz) y.1 t) (wA ad G sz)) 0 0 (wA ad G sz) := by
  refine Met.ofW (cc := cX5_number) (maxL := 13) (ret := (some .int)) (by decide) rfl ?_
  intro p e s m args below meth c s₁ B hml hv
  obtain ⟨rfl, hsz, hP, hK, hD0, hZ, hN⟩ := hv
  have hx := B.exec
  have hb := B.bytes
  have hr := B.returns
  have hts := atoms_spec (ws := wuX5_number) B.pre
  have hown : s.vm.findClass RX5 = some m.cls := findClass_of_methodNamed B.named
  have hlocks := B.notSynchronized
  subst hsz
  have hD := wD_self (sz := s.heap.size) hD0
  have hA9 : ∀ q, s.heap.size ≤ q → wA ad G s.heap.size q := fun q h => Or.inr h
  generalize hAe : wA ad G s.heap.size = A at hD hA9 hZ ⊢
  have hS : va_S A s.heap s.heap [] := va_S.rf
  have hl := lv_entry ([.ref (ad a), .int p0, .int p1, .long p2, .long p3]) (n := 13) (Nat.le_of_ble_eq_true rfl)
  rw [lg_entry_eq]
  generalize (lg_sl ([.ref (ad a), .int p0, .int p1, .long p2, .long p3]) ++ List.replicate (13 - (lg_sl ([.ref (ad a), .int p0, .int p1, .long p2, .long p3])).length) Slot.unset).toArray = ls at hl ⊢
  have hl : lv_has ls 13 [(0, .ref (ad a)), (1, .int p0), (2, .int p1), (3, .long p2), (5, .long p3)] := hl
  unfold FX5_number at hF
  refine lv_aload_n hx hb dX5_number_0 rfl (lv_at hl 0 rfl) ?_
  refine lv_aload_n hx hb dX5_number_1 rfl (lv_at hl 0 rfl) ?_
  refine va_get (D := D) (ci := 5) (v := .int (M.1 a 2)) (C := RX5) (T := TX5) (N := 17) hx hb hts (mus hf_X5) hown hK hP a (wld_o ct ad G M hc hk (by decide)) rfl 2 (by decide) (hts (.fieldLink RX5 57 "VideoSuite$Reader" "place" "I") (mu mw_289)) (fun _ h9 => h9) rfl dX5_number_2 ?_
  obtain ⟨x1, ex1, hF⟩ := ltt_some hF
  refine lv_topi (fun zx1 ezx1 => ?_)
  obtain rfl : x1 = zx1 := ex1.trans ezx1.symm
  refine va_put (D := D) (ci := 5) (v := .int x1) (ty := .int) (C := RX5) (T := TX5) (N := 17) hx hb hts (mus hf_X5) tyX5 tyX5_ok nmX5 hown hK hP hD hS a (wld_o ct ad G M hc hk (by decide)) rfl 4 (by decide) (hts (.fieldLink RX5 60 "VideoSuite$Reader" "begin" "I") (mu mw_292)) (fun _ h9 => h9) rfl (by decide +kernel) rfl rfl (Nat.le_of_ble_eq_true rfl) dX5_number_5 (fun H locs hP hD hS => ?_)
  obtain ⟨M2, eM2, hF⟩ := ltt_some hF
  rw [set_oI ct ad G M hc hk (by decide) (by rfl), ← eM2] at hP hD
  refine lv_iload_n hx hb dX5_number_8 rfl (lv_at hl 2 rfl) ?_
  refine lv_iconst (v := (2 : Int32)) hx hb dX5_number_9 (by decide) ?_
  obtain ⟨y3, hy3, hF⟩ := bnd_some hF
  have J3 : ∀ (H : Heap) (locs : List Loc) (ls : Array Slot), va_P D classes (wld ct ad G y3.2) H → va_D A (wld ct ad G y3.2) → va_S A s.heap H locs → lv_has ls 13 [(7, .long y3.1), (0, .ref (ad a)), (1, .int p0), (2, .int p1), (3, .long p2), (5, .long p3)] → W p l e (headSpec wuX5_number ({ frames := 1, cells := 0, slots := 0, locals := 27 })).room s m ([.ref (ad a), .int p0, .int p1, .long p2, .long p3] : List Value).toArray below meth c H locs 0 0 (MQ below (va_Qi (fun (q : Int32) (_ : Unit) => q = y.2) (fun _ t => kE D ct ad G A y.1 t) A) ([.ref (ad a), .int p0, .int p1, .long p2, .long p3] : List Value).toArray s 0 0 A) (F0 m 160 ls []) := by
    intro H locs ls hP hD hS hl
    refine lv_lload hx hb dX5_number_160 (lv_at hl 0 rfl) ?_
    refine lv_lload_n hx hb dX5_number_162 rfl (lv_at hl 4 rfl) ?_
    refine W.lcmp hx hb dX5_number_163 ?_
    obtain ⟨x4, ex4, hF⟩ := ltt_some hF
    refine lv_topi (fun zx4 ezx4 => ?_)
    obtain rfl : x4 = zx4 := ex4.trans ezx4.symm
    obtain ⟨y5, hy5, hF⟩ := bnd_some hF
    have J5 : ∀ (H : Heap) (locs : List Loc) (ls : Array Slot), va_P D classes (wld ct ad G y5) H → va_D A (wld ct ad G y5) → va_S A s.heap H locs → lv_has ls 13 [(7, .long y3.1), (0, .ref (ad a)), (1, .int p0), (2, .int p1), (3, .long p2), (5, .long p3)] → W p l e (headSpec wuX5_number ({ frames := 1, cells := 0, slots := 0, locals := 27 })).room s m ([.ref (ad a), .int p0, .int p1, .long p2, .long p3] : List Value).toArray below meth c H locs 0 0 (MQ below (va_Qi (fun (q : Int32) (_ : Unit) => q = y.2) (fun _ t => kE D ct ad G A y.1 t) A) ([.ref (ad a), .int p0, .int p1, .long p2, .long p3] : List Value).toArray s 0 0 A) (F0 m 167 ls []) := by
      intro H locs ls hP hD hS hl
      refine lv_lload hx hb dX5_number_167 (lv_at hl 0 rfl) ?_
      refine lv_lload hx hb dX5_number_169 (lv_at hl 5 rfl) ?_
      refine W.lcmp hx hb dX5_number_171 ?_
      obtain ⟨x6, ex6, hF⟩ := ltt_some hF
      refine lv_topi (fun zx6 ezx6 => ?_)
      obtain rfl : x6 = zx6 := ex6.trans ezx6.symm
      obtain ⟨y7, hy7, hF⟩ := bnd_some hF
      have J7 : ∀ (H : Heap) (locs : List Loc) (ls : Array Slot), va_P D classes (wld ct ad G y7) H → va_D A (wld ct ad G y7) → va_S A s.heap H locs → lv_has ls 13 [(7, .long y3.1), (0, .ref (ad a)), (1, .int p0), (2, .int p1), (3, .long p2), (5, .long p3)] → W p l e (headSpec wuX5_number ({ frames := 1, cells := 0, slots := 0, locals := 27 })).room s m ([.ref (ad a), .int p0, .int p1, .long p2, .long p3] : List Value).toArray below meth c H locs 0 0 (MQ below (va_Qi (fun (q : Int32) (_ : Unit) => q = y.2) (fun _ t => kE D ct ad G A y.1 t) A) ([.ref (ad a), .int p0, .int p1, .long p2, .long p3] : List Value).toArray s 0 0 A) (F0 m 184 ls []) := by
        intro H locs ls hP hD hS hl
        refine lv_aload_n hx hb dX5_number_184 rfl (lv_at hl 1 rfl) ?_
        refine lv_lload hx hb dX5_number_185 (lv_at hl 0 rfl) ?_
        refine lv_l2i (v := y3.1.toInt32) hx hb dX5_number_187 rfl ?_
        obtain ⟨x8, ex8, hF⟩ := ltt_some hF
        refine lv_topi (fun zx8 ezx8 => ?_)
        obtain rfl : x8 = zx8 := ex8.trans ezx8.symm
        obtain ⟨y9, hy9, hF⟩ := bnd_some hF
        have hf9 := wA_in hD hA9 hS
        refine va_callv (va_runV (As := [.int x8]) (rest := []) ⟨hx, hb, hml, hown, hts⟩ (kX5_record l D ct ad Z G y7 H.size a x8 y9 hc hk hy9) (cwV 1 hts gX5_number_X5_record rfl rfl rfl (by decide +kernel) ⟨Nat.le_of_ble_eq_true rfl, Nat.le_of_ble_eq_true rfl⟩) ⟨fun a U g mk q => by obtain ⟨q0, q1, qP, qK, qD, qZ, qN⟩ := q; exact ⟨q0, q1, qP, va_K.moved (u := U) (U := U.calling g mk a) (Vm.Alike.refl U.vm) qK, qD, sF.moved (u := U) (U := U.calling g mk a) (Vm.Alike.refl U.vm) qZ, nF.same rfl qN⟩, va_recv hK hP (ci := 5) (q0 := a) rfl (wld_o ct ad G y7 hc hk (by decide)), fun U hU hW => ⟨rfl, by rw [hU], by rw [hU]; exact hP, va_K.moved hW.alike hK, hD.weaken (fun _ _ _ _ => trivial), by rw [hU]; exact ((hZ.kept hS.2.1).narrow hf9).moved hW.alike, hN.warm hW⟩⟩ rfl rfl hl.1 rfl (lv_room (Nat.le_of_ble_eq_true rfl)) dX5_number_188 ⟨(Nat.zero_le _), (Nat.zero_le _)⟩) hS (fun q _ h => hf9 q h) hf9 (fun u t H locs ht hvm hw hB hz1 hk1 hS => ?_)
        obtain ⟨hP, hK9, hD9⟩ := hB
        rw [ht] at hP
        have hD := hD9.weaken (fun _ q _ h => hf9 q.1 h)
        refine lv_lload hx hb dX5_number_191 (lv_at hl 0 rfl) ?_
        refine lv_l2i (v := y3.1.toInt32) hx hb dX5_number_193 rfl ?_
        obtain ⟨x10, ex10, hF⟩ := ltt_some hF
        refine lv_topi (fun zx10 ezx10 => ?_)
        obtain rfl : x10 = zx10 := ex10.trans ezx10.symm
        obtain rfl := Option.some.inj hF
        exact W.iret (v := x10) hx hb hr (fun t ht hW => ⟨⟨_, (), rfl, rfl, ⟨by rw [ht]; exact hP, va_K.moved hW.alike hK, hD⟩⟩, hS.F ht⟩) hS.2.2 dX5_number_194
      clear hF
      have hF := hy7
      clear hy7
      refine lv_if_le (tgt := 184) hx hb dX5_number_172 (by decide) (fun c11 => ?_) (fun c11 => ?_)
      · rw [if_pos c11] at hF
        obtain rfl := Option.some.inj hF
        exact J7 _ _ _ hP hD hS (lv_sub hl [0, 1, 2, 3, 4, 5] rfl)
      · rw [if_neg c11] at hF
        refine lv_aload_n hx hb dX5_number_175 rfl (lv_at hl 1 rfl) ?_
        refine lv_iconst (v := (2 : Int32)) hx hb dX5_number_176 (by decide) ?_
        refine lv_aload_n hx hb dX5_number_177 rfl (lv_at hl 1 rfl) ?_
        refine va_get (D := D) (ci := 5) (v := .int (y5.1 a 4)) (C := RX5) (T := TX5) (N := 17) hx hb hts (mus hf_X5) hown hK hP a (wld_o ct ad G y5 hc hk (by decide)) rfl 4 (by decide) (hts (.fieldLink RX5 60 "VideoSuite$Reader" "begin" "I") (mu mw_292)) (fun _ h9 => h9) rfl dX5_number_178 ?_
        obtain ⟨x12, ex12, hF⟩ := ltt_some hF
        refine lv_topi (fun zx12 ezx12 => ?_)
        obtain rfl : x12 = zx12 := ex12.trans ezx12.symm
        cases hF
    clear hF
    have hF := hy5
    clear hy5
    refine lv_if_lt (tgt := 175) hx hb dX5_number_164 (by decide) (fun c13 => ?_) (fun c13 => ?_)
    · rw [if_pos c13] at hF
      refine lv_aload_n hx hb dX5_number_175 rfl (lv_at hl 1 rfl) ?_
      refine lv_iconst (v := (2 : Int32)) hx hb dX5_number_176 (by decide) ?_
      refine lv_aload_n hx hb dX5_number_177 rfl (lv_at hl 1 rfl) ?_
      refine va_get (D := D) (ci := 5) (v := .int (y3.2.1 a 4)) (C := RX5) (T := TX5) (N := 17) hx hb hts (mus hf_X5) hown hK hP a (wld_o ct ad G y3.2 hc hk (by decide)) rfl 4 (by decide) (hts (.fieldLink RX5 60 "VideoSuite$Reader" "begin" "I") (mu mw_292)) (fun _ h9 => h9) rfl dX5_number_178 ?_
      obtain ⟨x14, ex14, hF⟩ := ltt_some hF
      refine lv_topi (fun zx14 ezx14 => ?_)
      obtain rfl : x14 = zx14 := ex14.trans ezx14.symm
      cases hF
    · rw [if_neg c13] at hF
      obtain rfl := Option.some.inj hF
      exact J5 _ _ _ hP hD hS (lv_sub hl [0, 1, 2, 3, 4, 5] rfl)
  clear hF
  have hF := hy3
  clear hy3
  refine lv_icmp_ne (tgt := 34) hx hb dX5_number_10 (by decide) (fun c15 => ?_) (fun c15 => ?_)
  · rw [if_neg c15] at hF
    refine lv_iconst (v := (0 : Int32)) hx hb dX5_number_34 (by decide) ?_
    refine lv_istore (lv' := [(9, .int (0 : Int32)), (0, .ref (ad a)), (1, .int p0), (2, .int p1), (3, .long p2), (5, .long p3)]) hx hb dX5_number_35 hl (by decide) rfl (fun ls hl => ?_)
    obtain ⟨y16, hy16, hF⟩ := bnd_some hF
    have K16 : ∀ (H : Heap) (locs : List Loc) (ls : Array Slot), va_P D classes (wld ct ad G y16.2) H → va_D A (wld ct ad G y16.2) → va_S A s.heap H locs → lv_has ls 13 [(9, .int y16.1), (0, .ref (ad a)), (1, .int p0), (2, .int p1), (3, .long p2), (5, .long p3)] → W p l e (headSpec wuX5_number ({ frames := 1, cells := 0, slots := 0, locals := 27 })).room s m ([.ref (ad a), .int p0, .int p1, .long p2, .long p3] : List Value).toArray below meth c H locs 0 0 (MQ below (va_Qi (fun (q : Int32) (_ : Unit) => q = y.2) (fun _ t => kE D ct ad G A y.1 t) A) ([.ref (ad a), .int p0, .int p1, .long p2, .long p3] : List Value).toArray s 0 0 A) (F0 m 60 ls []) := by
      intro H locs ls hP hD hS hl
      refine lv_iload hx hb dX5_number_60 (lv_at hl 0 rfl) ?_
      refine lv_bipush (v := (31 : Int32)) hx hb dX5_number_62 (by decide) ?_
      obtain ⟨y19, hy19, hF⟩ := bnd_some hF
      have J19 : ∀ (H : Heap) (locs : List Loc) (ls : Array Slot), va_P D classes (wld ct ad G y19) H → va_D A (wld ct ad G y19) → va_S A s.heap H locs → lv_has ls 13 [(9, .int y16.1), (0, .ref (ad a)), (1, .int p0), (2, .int p1), (3, .long p2), (5, .long p3)] → W p l e (headSpec wuX5_number ({ frames := 1, cells := 0, slots := 0, locals := 27 })).room s m ([.ref (ad a), .int p0, .int p1, .long p2, .long p3] : List Value).toArray below meth c H locs 0 0 (MQ below (va_Qi (fun (q : Int32) (_ : Unit) => q = y.2) (fun _ t => kE D ct ad G A y.1 t) A) ([.ref (ad a), .int p0, .int p1, .long p2, .long p3] : List Value).toArray s 0 0 A) (F0 m 76 ls []) := by
        intro H locs ls hP hD hS hl
        refine lv_lconst (v := (0 : Int64)) hx hb dX5_number_76 rfl ?_
        refine lv_lstore (lv' := [(10, .long (0 : Int64)), (9, .int y16.1), (0, .ref (ad a)), (1, .int p0), (2, .int p1), (3, .long p2), (5, .long p3)]) hx hb dX5_number_77 hl (by decide) rfl (fun ls hl => ?_)
        refine lv_iconst (v := (0 : Int32)) hx hb dX5_number_79 (by decide) ?_
        refine lv_istore (lv' := [(12, .int (0 : Int32)), (10, .long (0 : Int64)), (9, .int y16.1), (0, .ref (ad a)), (1, .int p0), (2, .int p1), (3, .long p2), (5, .long p3)]) hx hb dX5_number_80 hl (by decide) rfl (fun ls hl => ?_)
        obtain ⟨y20, hy20, hF⟩ := bnd_some hF
        have K20 : ∀ (H : Heap) (locs : List Loc) (ls : Array Slot), va_P D classes (wld ct ad G y20.2.2) H → va_D A (wld ct ad G y20.2.2) → va_S A s.heap H locs → lv_has ls 13 [(12, .int y20.2.1), (10, .long y20.1), (9, .int y16.1), (0, .ref (ad a)), (1, .int p0), (2, .int p1), (3, .long p2), (5, .long p3)] → W p l e (headSpec wuX5_number ({ frames := 1, cells := 0, slots := 0, locals := 27 })).room s m ([.ref (ad a), .int p0, .int p1, .long p2, .long p3] : List Value).toArray below meth c H locs 0 0 (MQ below (va_Qi (fun (q : Int32) (_ : Unit) => q = y.2) (fun _ t => kE D ct ad G A y.1 t) A) ([.ref (ad a), .int p0, .int p1, .long p2, .long p3] : List Value).toArray s 0 0 A) (F0 m 115 ls []) := by
          intro H locs ls hP hD hS hl
          refine lv_lconst (v := (1 : Int64)) hx hb dX5_number_115 rfl ?_
          refine lv_iload hx hb dX5_number_116 (lv_at hl 2 rfl) ?_
          refine lv_lshl (v := ((1 : Int64)) <<< (y16.1.toInt64 &&& 63)) hx hb dX5_number_118 rfl ?_
          obtain ⟨x23, ex23, hF⟩ := ltt_some hF
          refine lv_topl (fun zx23 ezx23 => ?_)
          obtain rfl : x23 = zx23 := ex23.trans ezx23.symm
          refine lv_lconst (v := (1 : Int64)) hx hb dX5_number_119 rfl ?_
          refine lv_lsub hx hb dX5_number_120 ?_
          obtain ⟨x24, ex24, hF⟩ := ltt_some hF
          refine lv_topl (fun zx24 ezx24 => ?_)
          obtain rfl : x24 = zx24 := ex24.trans ezx24.symm
          refine lv_lload hx hb dX5_number_121 (lv_at hl 1 rfl) ?_
          refine lv_ladd hx hb dX5_number_123 ?_
          obtain ⟨x25, ex25, hF⟩ := ltt_some hF
          refine lv_topl (fun zx25 ezx25 => ?_)
          obtain rfl : x25 = zx25 := ex25.trans ezx25.symm
          refine lv_lstore (lv' := [(7, .long x25), (12, .int y20.2.1), (10, .long y20.1), (9, .int y16.1), (0, .ref (ad a)), (1, .int p0), (2, .int p1), (3, .long p2), (5, .long p3)]) hx hb dX5_number_124 hl (by decide) rfl (fun ls hl => ?_)
          refine lv_iload_n hx hb dX5_number_126 rfl (lv_at hl 6 rfl) ?_
          refine lv_iconst (v := (1 : Int32)) hx hb dX5_number_127 (by decide) ?_
          obtain ⟨y26, hy26, hF⟩ := bnd_some hF
          have J26 : ∀ (H : Heap) (locs : List Loc) (ls : Array Slot), va_P D classes (wld ct ad G y20.2.2) H → va_D A (wld ct ad G y20.2.2) → va_S A s.heap H locs → lv_has ls 13 [(7, .long y26), (12, .int y20.2.1), (10, .long y20.1), (9, .int y16.1), (0, .ref (ad a)), (1, .int p0), (2, .int p1), (3, .long p2), (5, .long p3)] → W p l e (headSpec wuX5_number ({ frames := 1, cells := 0, slots := 0, locals := 27 })).room s m ([.ref (ad a), .int p0, .int p1, .long p2, .long p3] : List Value).toArray below meth c H locs 0 0 (MQ below (va_Qi (fun (q : Int32) (_ : Unit) => q = y.2) (fun _ t => kE D ct ad G A y.1 t) A) ([.ref (ad a), .int p0, .int p1, .long p2, .long p3] : List Value).toArray s 0 0 A) (F0 m 160 ls []) := by
            intro H locs ls hP hD hS hl
            obtain rfl := Option.some.inj hF
            exact J3 _ _ _ hP hD hS (lv_sub hl [0, 4, 5, 6, 7, 8] rfl)
          clear hF
          have hF := hy26
          clear hy26
          refine lv_icmp_ne (tgt := 160) hx hb dX5_number_128 (by decide) (fun c27 => ?_) (fun c27 => ?_)
          · rw [if_neg c27] at hF
            obtain rfl := Option.some.inj hF
            exact J26 _ _ _ hP hD hS (lv_sub hl [0, 1, 2, 3, 4, 5, 6, 7, 8] rfl)
          · rw [if_pos c27] at hF
            refine lv_lload hx hb dX5_number_131 (lv_at hl 0 rfl) ?_
            refine lv_lconst (v := (1 : Int64)) hx hb dX5_number_133 rfl ?_
            refine lv_land hx hb dX5_number_134 ?_
            obtain ⟨x28, ex28, hF⟩ := ltt_some hF
            refine lv_topl (fun zx28 ezx28 => ?_)
            obtain rfl : x28 = zx28 := ex28.trans ezx28.symm
            refine lv_lconst (v := (1 : Int64)) hx hb dX5_number_135 rfl ?_
            refine W.lcmp hx hb dX5_number_136 ?_
            obtain ⟨x29, ex29, hF⟩ := ltt_some hF
            refine lv_topi (fun zx29 ezx29 => ?_)
            obtain rfl : x29 = zx29 := ex29.trans ezx29.symm
            obtain ⟨y30, hy30, hF⟩ := bnd_some hF
            have J30 : ∀ (H : Heap) (locs : List Loc) (ls : Array Slot), va_P D classes (wld ct ad G y20.2.2) H → va_D A (wld ct ad G y20.2.2) → va_S A s.heap H locs → lv_has ls 13 [(7, .long x25), (12, .int y20.2.1), (10, .long y20.1), (9, .int y16.1), (0, .ref (ad a)), (1, .int p0), (2, .int p1), (3, .long p2), (5, .long p3)] → W p l e (headSpec wuX5_number ({ frames := 1, cells := 0, slots := 0, locals := 27 })).room s m ([.ref (ad a), .int p0, .int p1, .long p2, .long p3] : List Value).toArray below meth c H locs 0 0 (MQ below (va_Qi (fun (q : Int32) (_ : Unit) => q = y.2) (fun _ t => kE D ct ad G A y.1 t) A) ([.ref (ad a), .int p0, .int p1, .long p2, .long p3] : List Value).toArray s 0 0 A) (F0 m 158 ls [.long y30]) := by
              intro H locs ls hP hD hS hl
              refine lv_lstore (lv' := [(7, .long y30), (12, .int y20.2.1), (10, .long y20.1), (9, .int y16.1), (0, .ref (ad a)), (1, .int p0), (2, .int p1), (3, .long p2), (5, .long p3)]) hx hb dX5_number_158 hl (by decide) rfl (fun ls hl => ?_)
              obtain rfl := Option.some.inj hF
              exact J26 _ _ _ hP hD hS (lv_sub hl [0, 1, 2, 3, 4, 5, 6, 7, 8] rfl)
            clear hF
            have hF := hy30
            clear hy30
            refine lv_if_ne (tgt := 151) hx hb dX5_number_137 (by decide) (fun c31 => ?_) (fun c31 => ?_)
            · rw [if_neg c31] at hF
              refine lv_lload hx hb dX5_number_151 (lv_at hl 0 rfl) ?_
              refine lv_ldc2 (v := (2 : Int64)) hx hb hown (hts (.constantLong RX5 140 (2 : Int64)) (mu mw_1345)) dX5_number_153 ?_
              obtain ⟨hne, hF⟩ := chk_some hF
              refine lv_ldiv hx hb dX5_number_156 hne ?_
              obtain ⟨x32, ex32, hF⟩ := ltt_some hF
              refine lv_topl (fun zx32 ezx32 => ?_)
              obtain rfl : x32 = zx32 := ex32.trans ezx32.symm
              refine lv_lneg hx hb dX5_number_157 ?_
              obtain ⟨x33, ex33, hF⟩ := ltt_some hF
              refine lv_topl (fun zx33 ezx33 => ?_)
              obtain rfl : x33 = zx33 := ex33.trans ezx33.symm
              obtain rfl := Option.some.inj hF
              exact J30 _ _ _ hP hD hS (lv_sub hl [0, 1, 2, 3, 4, 5, 6, 7, 8] rfl)
            · rw [if_pos c31] at hF
              refine lv_lload hx hb dX5_number_140 (lv_at hl 0 rfl) ?_
              refine lv_lconst (v := (1 : Int64)) hx hb dX5_number_142 rfl ?_
              refine lv_ladd hx hb dX5_number_143 ?_
              obtain ⟨x34, ex34, hF⟩ := ltt_some hF
              refine lv_topl (fun zx34 ezx34 => ?_)
              obtain rfl : x34 = zx34 := ex34.trans ezx34.symm
              refine lv_ldc2 (v := (2 : Int64)) hx hb hown (hts (.constantLong RX5 140 (2 : Int64)) (mu mw_1345)) dX5_number_144 ?_
              obtain ⟨hne, hF⟩ := chk_some hF
              refine lv_ldiv hx hb dX5_number_147 hne ?_
              obtain ⟨x35, ex35, hF⟩ := ltt_some hF
              refine lv_topl (fun zx35 ezx35 => ?_)
              obtain rfl : x35 = zx35 := ex35.trans ezx35.symm
              refine lv_goto (tgt := 158) hx hb dX5_number_148 (by decide) ?_
              obtain rfl := Option.some.inj hF
              exact J30 _ _ _ hP hD hS (lv_sub hl [0, 1, 2, 3, 4, 5, 6, 7, 8] rfl)
        clear hF
        refine itr_rule (fun (s21 : Int64 × Int32 × DD) => ∀ (H : Heap) (locs : List Loc) (ls : Array Slot), va_P D classes (wld ct ad G s21.2.2) H → va_D A (wld ct ad G s21.2.2) → va_S A s.heap H locs → lv_has ls 13 [(12, .int s21.2.1), (10, .long s21.1), (9, .int y16.1), (0, .ref (ad a)), (1, .int p0), (2, .int p1), (3, .long p2), (5, .long p3)] → W p l e (headSpec wuX5_number ({ frames := 1, cells := 0, slots := 0, locals := 27 })).room s m ([.ref (ad a), .int p0, .int p1, .long p2, .long p3] : List Value).toArray below meth c H locs 0 0 (MQ below (va_Qi (fun (q : Int32) (_ : Unit) => q = y.2) (fun _ t => kE D ct ad G A y.1 t) A) ([.ref (ad a), .int p0, .int p1, .long p2, .long p3] : List Value).toArray s 0 0 A) (F0 m 82 ls [])) ?_ _ _ hy20 _ _ _ hP hD hS (lv_sub hl [0, 1, 2, 3, 4, 5, 6, 7] rfl)
        rintro s21 ⟨z36, hF, hwz36⟩ H locs ls hP hD hS hl
        try dsimp only at hF
        refine lv_iload hx hb dX5_number_82 (lv_at hl 0 rfl) ?_
        refine lv_iload hx hb dX5_number_84 (lv_at hl 2 rfl) ?_
        refine lv_icmp_ge (tgt := 115) hx hb dX5_number_86 (by decide) (fun c37 => ?_) (fun c37 => ?_)
        · rw [if_pos c37] at hF
          obtain rfl := Option.some.inj hF
          subst hwz36
          exact K20 _ _ _ hP hD hS (lv_sub hl [0, 1, 2, 3, 4, 5, 6, 7] rfl)
        · rw [if_neg c37] at hF
          refine lv_lload hx hb dX5_number_89 (lv_at hl 1 rfl) ?_
          refine lv_iconst (v := (1 : Int32)) hx hb dX5_number_91 (by decide) ?_
          refine lv_lshl (v := s21.1 <<< (((1 : Int32)).toInt64 &&& 63)) hx hb dX5_number_92 rfl ?_
          obtain ⟨x38, ex38, hF⟩ := ltt_some hF
          refine lv_topl (fun zx38 ezx38 => ?_)
          obtain rfl : x38 = zx38 := ex38.trans ezx38.symm
          refine lv_aload_n hx hb dX5_number_93 rfl (lv_at hl 3 rfl) ?_
          refine lv_iload_n hx hb dX5_number_94 rfl (lv_at hl 4 rfl) ?_
          refine lv_iload hx hb dX5_number_95 (lv_at hl 2 rfl) ?_
          refine lv_iconst (v := (1 : Int32)) hx hb dX5_number_97 (by decide) ?_
          refine lv_iadd hx hb dX5_number_98 ?_
          obtain ⟨x39, ex39, hF⟩ := ltt_some hF
          refine lv_topi (fun zx39 ezx39 => ?_)
          obtain rfl : x39 = zx39 := ex39.trans ezx39.symm
          refine lv_iload hx hb dX5_number_99 (lv_at hl 0 rfl) ?_
          refine lv_iadd hx hb dX5_number_101 ?_
          obtain ⟨x40, ex40, hF⟩ := ltt_some hF
          refine lv_topi (fun zx40 ezx40 => ?_)
          obtain rfl : x40 = zx40 := ex40.trans ezx40.symm
          obtain ⟨y41, hy41, hF⟩ := bnd_some hF
          have hf9 := wA_in hD hA9 hS
          refine va_calli (va_runV (As := [.int p0, .int x40]) (rest := [.long x38]) ⟨hx, hb, hml, hown, hts⟩ (kX5_bit l D ct ad Z G s21.2.2 H.size a p0 x40 y41 hc hk hy41) (cwV 2 hts gX5_number_X5_bit rfl rfl rfl (by decide +kernel) ⟨Nat.le_of_ble_eq_true rfl, Nat.le_of_ble_eq_true rfl⟩) ⟨fun a U g mk q => by obtain ⟨q0, q1, qP, qK, qD, qZ, qN⟩ := q; exact ⟨q0, q1, qP, va_K.moved (u := U) (U := U.calling g mk a) (Vm.Alike.refl U.vm) qK, qD, sF.moved (u := U) (U := U.calling g mk a) (Vm.Alike.refl U.vm) qZ, nF.same rfl qN⟩, va_recv hK hP (ci := 5) (q0 := a) rfl (wld_o ct ad G s21.2.2 hc hk (by decide)), fun U hU hW => ⟨rfl, by rw [hU], by rw [hU]; exact hP, va_K.moved hW.alike hK, hD.weaken (fun _ _ _ _ => trivial), by rw [hU]; exact ((hZ.kept hS.2.1).narrow hf9).moved hW.alike, hN.warm hW⟩⟩ rfl rfl hl.1 rfl (lv_room (Nat.le_of_ble_eq_true rfl)) dX5_number_102 ⟨(Nat.zero_le _), (Nat.zero_le _)⟩) hS (fun q _ h => hf9 q h) hf9 (fun r u t H locs ht hvm hw hB hz1 hk1 hS => ?_)
          obtain ⟨hP, hK9, hD9⟩ := hB
          rw [ht] at hP
          try dsimp only at hw
          subst hw
          have hD := hD9.weaken (fun _ q _ h => hf9 q.1 h)
          refine lv_i2l (v := y41.2.toInt64) hx hb dX5_number_105 rfl ?_
          obtain ⟨x42, ex42, hF⟩ := ltt_some hF
          refine lv_topl (fun zx42 ezx42 => ?_)
          obtain rfl : x42 = zx42 := ex42.trans ezx42.symm
          refine lv_lor hx hb dX5_number_106 ?_
          obtain ⟨x43, ex43, hF⟩ := ltt_some hF
          refine lv_topl (fun zx43 ezx43 => ?_)
          obtain rfl : x43 = zx43 := ex43.trans ezx43.symm
          refine lv_lstore (lv' := [(10, .long x43), (12, .int s21.2.1), (9, .int y16.1), (0, .ref (ad a)), (1, .int p0), (2, .int p1), (3, .long p2), (5, .long p3)]) hx hb dX5_number_107 hl (by decide) rfl (fun ls hl => ?_)
          obtain ⟨x44, ex44, hF⟩ := ltt_some hF
          refine lv_iinc (v := x44) (lv' := [(12, .int x44), (10, .long x43), (9, .int y16.1), (0, .ref (ad a)), (1, .int p0), (2, .int p1), (3, .long p2), (5, .long p3)]) hx hb dX5_number_109 hl (k := 1) rfl (by rw [ex44]; rfl) (by decide) rfl (fun ls hl => ?_)
          refine lv_goto (tgt := 82) hx hb dX5_number_112 (by decide) ?_
          obtain rfl := Option.some.inj hF
          exact hwz36 _ _ _ hP hD hS (lv_sub hl [0, 1, 2, 3, 4, 5, 6, 7] rfl)
      clear hF
      have hF := hy19
      clear hy19
      refine lv_icmp_le (tgt := 76) hx hb dX5_number_64 (by decide) (fun c45 => ?_) (fun c45 => ?_)
      · rw [if_pos c45] at hF
        obtain rfl := Option.some.inj hF
        exact J19 _ _ _ hP hD hS (lv_sub hl [0, 1, 2, 3, 4, 5] rfl)
      · rw [if_neg c45] at hF
        refine lv_aload_n hx hb dX5_number_67 rfl (lv_at hl 1 rfl) ?_
        refine lv_iconst (v := (2 : Int32)) hx hb dX5_number_68 (by decide) ?_
        refine lv_aload_n hx hb dX5_number_69 rfl (lv_at hl 1 rfl) ?_
        refine va_get (D := D) (ci := 5) (v := .int (y16.2.1 a 4)) (C := RX5) (T := TX5) (N := 17) hx hb hts (mus hf_X5) hown hK hP a (wld_o ct ad G y16.2 hc hk (by decide)) rfl 4 (by decide) (hts (.fieldLink RX5 60 "VideoSuite$Reader" "begin" "I") (mu mw_292)) (fun _ h9 => h9) rfl dX5_number_70 ?_
        obtain ⟨x46, ex46, hF⟩ := ltt_some hF
        refine lv_topi (fun zx46 ezx46 => ?_)
        obtain rfl : x46 = zx46 := ex46.trans ezx46.symm
        cases hF
    clear hF
    refine itr_rule (fun (s17 : Int32 × DD) => ∀ (H : Heap) (locs : List Loc) (ls : Array Slot), va_P D classes (wld ct ad G s17.2) H → va_D A (wld ct ad G s17.2) → va_S A s.heap H locs → lv_has ls 13 [(9, .int s17.1), (0, .ref (ad a)), (1, .int p0), (2, .int p1), (3, .long p2), (5, .long p3)] → W p l e (headSpec wuX5_number ({ frames := 1, cells := 0, slots := 0, locals := 27 })).room s m ([.ref (ad a), .int p0, .int p1, .long p2, .long p3] : List Value).toArray below meth c H locs 0 0 (MQ below (va_Qi (fun (q : Int32) (_ : Unit) => q = y.2) (fun _ t => kE D ct ad G A y.1 t) A) ([.ref (ad a), .int p0, .int p1, .long p2, .long p3] : List Value).toArray s 0 0 A) (F0 m 37 ls [])) ?_ _ _ hy16 _ _ _ hP hD hS (lv_sub hl [0, 1, 2, 3, 4, 5] rfl)
    rintro s17 ⟨z47, hF, hwz47⟩ H locs ls hP hD hS hl
    try dsimp only at hF
    refine lv_iload hx hb dX5_number_37 (lv_at hl 0 rfl) ?_
    refine lv_bipush (v := (32 : Int32)) hx hb dX5_number_39 (by decide) ?_
    refine lv_icmp_ge (tgt := 60) hx hb dX5_number_41 (by decide) (fun c48 => ?_) (fun c48 => ?_)
    · rw [if_pos c48] at hF
      obtain rfl := Option.some.inj hF
      subst hwz47
      exact K16 _ _ _ hP hD hS (lv_sub hl [0, 1, 2, 3, 4, 5] rfl)
    · rw [if_neg c48] at hF
      refine lv_aload_n hx hb dX5_number_44 rfl (lv_at hl 1 rfl) ?_
      refine lv_iload_n hx hb dX5_number_45 rfl (lv_at hl 2 rfl) ?_
      refine lv_iload hx hb dX5_number_46 (lv_at hl 0 rfl) ?_
      obtain ⟨y49, hy49, hF⟩ := bnd_some hF
      have hf9 := wA_in hD hA9 hS
      refine va_calli (va_runV (As := [.int p0, .int s17.1]) (rest := []) ⟨hx, hb, hml, hown, hts⟩ (kX5_bit l D ct ad Z G s17.2 H.size a p0 s17.1 y49 hc hk hy49) (cwV 2 hts gX5_number_X5_bit rfl rfl rfl (by decide +kernel) ⟨Nat.le_of_ble_eq_true rfl, Nat.le_of_ble_eq_true rfl⟩) ⟨fun a U g mk q => by obtain ⟨q0, q1, qP, qK, qD, qZ, qN⟩ := q; exact ⟨q0, q1, qP, va_K.moved (u := U) (U := U.calling g mk a) (Vm.Alike.refl U.vm) qK, qD, sF.moved (u := U) (U := U.calling g mk a) (Vm.Alike.refl U.vm) qZ, nF.same rfl qN⟩, va_recv hK hP (ci := 5) (q0 := a) rfl (wld_o ct ad G s17.2 hc hk (by decide)), fun U hU hW => ⟨rfl, by rw [hU], by rw [hU]; exact hP, va_K.moved hW.alike hK, hD.weaken (fun _ _ _ _ => trivial), by rw [hU]; exact ((hZ.kept hS.2.1).narrow hf9).moved hW.alike, hN.warm hW⟩⟩ rfl rfl hl.1 rfl (lv_room (Nat.le_of_ble_eq_true rfl)) dX5_number_48 ⟨(Nat.zero_le _), (Nat.zero_le _)⟩) hS (fun q _ h => hf9 q h) hf9 (fun r u t H locs ht hvm hw hB hz1 hk1 hS => ?_)
      obtain ⟨hP, hK9, hD9⟩ := hB
      rw [ht] at hP
      try dsimp only at hw
      subst hw
      have hD := hD9.weaken (fun _ q _ h => hf9 q.1 h)
      refine lv_if_ne (tgt := 60) hx hb dX5_number_51 (by decide) (fun c50 => ?_) (fun c50 => ?_)
      · rw [if_neg c50] at hF
        obtain rfl := Option.some.inj hF
        subst hwz47
        exact K16 _ _ _ hP hD hS (lv_sub hl [0, 1, 2, 3, 4, 5] rfl)
      · rw [if_pos c50] at hF
        obtain ⟨x51, ex51, hF⟩ := ltt_some hF
        refine lv_iinc (v := x51) (lv' := [(9, .int x51), (0, .ref (ad a)), (1, .int p0), (2, .int p1), (3, .long p2), (5, .long p3)]) hx hb dX5_number_54 hl (k := 0) rfl (by rw [ex51]; rfl) (by decide) rfl (fun ls hl => ?_)
        refine lv_goto (tgt := 37) hx hb dX5_number_57 (by decide) ?_
        obtain rfl := Option.some.inj hF
        exact hwz47 _ _ _ hP hD hS (lv_sub hl [0, 1, 2, 3, 4, 5] rfl)
  · rw [if_pos c15] at hF
    refine lv_lload hx hb dX5_number_13 (lv_at hl 4 rfl) ?_
    refine lv_lconst (v := (1 : Int64)) hx hb dX5_number_15 rfl ?_
    refine W.lcmp hx hb dX5_number_16 ?_
    obtain ⟨x52, ex52, hF⟩ := ltt_some hF
    refine lv_topi (fun zx52 ezx52 => ?_)
    obtain rfl : x52 = zx52 := ex52.trans ezx52.symm
    obtain ⟨y53, hy53, hF⟩ := bnd_some hF
    have J53 : ∀ (H : Heap) (locs : List Loc) (ls : Array Slot), va_P D classes (wld ct ad G y53.2) H → va_D A (wld ct ad G y53.2) → va_S A s.heap H locs → lv_has ls 13 [(7, .long y53.1), (0, .ref (ad a)), (1, .int p0), (2, .int p1), (3, .long p2), (5, .long p3)] → W p l e (headSpec wuX5_number ({ frames := 1, cells := 0, slots := 0, locals := 27 })).room s m ([.ref (ad a), .int p0, .int p1, .long p2, .long p3] : List Value).toArray below meth c H locs 0 0 (MQ below (va_Qi (fun (q : Int32) (_ : Unit) => q = y.2) (fun _ t => kE D ct ad G A y.1 t) A) ([.ref (ad a), .int p0, .int p1, .long p2, .long p3] : List Value).toArray s 0 0 A) (F0 m 160 ls []) := by
      intro H locs ls hP hD hS hl
      obtain rfl := Option.some.inj hF
      exact J3 _ _ _ hP hD hS (lv_sub hl [0, 1, 2, 3, 4, 5] rfl)
    clear hF
    have hF := hy53
    clear hy53
    refine lv_if_ne (tgt := 34) hx hb dX5_number_17 (by decide) (fun c54 => ?_) (fun c54 => ?_)
    · rw [if_neg c54] at hF
      refine lv_iconst (v := (0 : Int32)) hx hb dX5_number_34 (by decide) ?_
      refine lv_istore (lv' := [(9, .int (0 : Int32)), (0, .ref (ad a)), (1, .int p0), (2, .int p1), (3, .long p2), (5, .long p3)]) hx hb dX5_number_35 hl (by decide) rfl (fun ls hl => ?_)
      obtain ⟨y55, hy55, hF⟩ := bnd_some hF
      have K55 : ∀ (H : Heap) (locs : List Loc) (ls : Array Slot), va_P D classes (wld ct ad G y55.2) H → va_D A (wld ct ad G y55.2) → va_S A s.heap H locs → lv_has ls 13 [(9, .int y55.1), (0, .ref (ad a)), (1, .int p0), (2, .int p1), (3, .long p2), (5, .long p3)] → W p l e (headSpec wuX5_number ({ frames := 1, cells := 0, slots := 0, locals := 27 })).room s m ([.ref (ad a), .int p0, .int p1, .long p2, .long p3] : List Value).toArray below meth c H locs 0 0 (MQ below (va_Qi (fun (q : Int32) (_ : Unit) => q = y.2) (fun _ t => kE D ct ad G A y.1 t) A) ([.ref (ad a), .int p0, .int p1, .long p2, .long p3] : List Value).toArray s 0 0 A) (F0 m 60 ls []) := by
        intro H locs ls hP hD hS hl
        refine lv_iload hx hb dX5_number_60 (lv_at hl 0 rfl) ?_
        refine lv_bipush (v := (31 : Int32)) hx hb dX5_number_62 (by decide) ?_
        obtain ⟨y58, hy58, hF⟩ := bnd_some hF
        have J58 : ∀ (H : Heap) (locs : List Loc) (ls : Array Slot), va_P D classes (wld ct ad G y58) H → va_D A (wld ct ad G y58) → va_S A s.heap H locs → lv_has ls 13 [(9, .int y55.1), (0, .ref (ad a)), (1, .int p0), (2, .int p1), (3, .long p2), (5, .long p3)] → W p l e (headSpec wuX5_number ({ frames := 1, cells := 0, slots := 0, locals := 27 })).room s m ([.ref (ad a), .int p0, .int p1, .long p2, .long p3] : List Value).toArray below meth c H locs 0 0 (MQ below (va_Qi (fun (q : Int32) (_ : Unit) => q = y.2) (fun _ t => kE D ct ad G A y.1 t) A) ([.ref (ad a), .int p0, .int p1, .long p2, .long p3] : List Value).toArray s 0 0 A) (F0 m 76 ls []) := by
          intro H locs ls hP hD hS hl
          refine lv_lconst (v := (0 : Int64)) hx hb dX5_number_76 rfl ?_
          refine lv_lstore (lv' := [(10, .long (0 : Int64)), (9, .int y55.1), (0, .ref (ad a)), (1, .int p0), (2, .int p1), (3, .long p2), (5, .long p3)]) hx hb dX5_number_77 hl (by decide) rfl (fun ls hl => ?_)
          refine lv_iconst (v := (0 : Int32)) hx hb dX5_number_79 (by decide) ?_
          refine lv_istore (lv' := [(12, .int (0 : Int32)), (10, .long (0 : Int64)), (9, .int y55.1), (0, .ref (ad a)), (1, .int p0), (2, .int p1), (3, .long p2), (5, .long p3)]) hx hb dX5_number_80 hl (by decide) rfl (fun ls hl => ?_)
          obtain ⟨y59, hy59, hF⟩ := bnd_some hF
          have K59 : ∀ (H : Heap) (locs : List Loc) (ls : Array Slot), va_P D classes (wld ct ad G y59.2.2) H → va_D A (wld ct ad G y59.2.2) → va_S A s.heap H locs → lv_has ls 13 [(12, .int y59.2.1), (10, .long y59.1), (9, .int y55.1), (0, .ref (ad a)), (1, .int p0), (2, .int p1), (3, .long p2), (5, .long p3)] → W p l e (headSpec wuX5_number ({ frames := 1, cells := 0, slots := 0, locals := 27 })).room s m ([.ref (ad a), .int p0, .int p1, .long p2, .long p3] : List Value).toArray below meth c H locs 0 0 (MQ below (va_Qi (fun (q : Int32) (_ : Unit) => q = y.2) (fun _ t => kE D ct ad G A y.1 t) A) ([.ref (ad a), .int p0, .int p1, .long p2, .long p3] : List Value).toArray s 0 0 A) (F0 m 115 ls []) := by
            intro H locs ls hP hD hS hl
            refine lv_lconst (v := (1 : Int64)) hx hb dX5_number_115 rfl ?_
            refine lv_iload hx hb dX5_number_116 (lv_at hl 2 rfl) ?_
            refine lv_lshl (v := ((1 : Int64)) <<< (y55.1.toInt64 &&& 63)) hx hb dX5_number_118 rfl ?_
            obtain ⟨x62, ex62, hF⟩ := ltt_some hF
            refine lv_topl (fun zx62 ezx62 => ?_)
            obtain rfl : x62 = zx62 := ex62.trans ezx62.symm
            refine lv_lconst (v := (1 : Int64)) hx hb dX5_number_119 rfl ?_
            refine lv_lsub hx hb dX5_number_120 ?_
            obtain ⟨x63, ex63, hF⟩ := ltt_some hF
            refine lv_topl (fun zx63 ezx63 => ?_)
            obtain rfl : x63 = zx63 := ex63.trans ezx63.symm
            refine lv_lload hx hb dX5_number_121 (lv_at hl 1 rfl) ?_
            refine lv_ladd hx hb dX5_number_123 ?_
            obtain ⟨x64, ex64, hF⟩ := ltt_some hF
            refine lv_topl (fun zx64 ezx64 => ?_)
            obtain rfl : x64 = zx64 := ex64.trans ezx64.symm
            refine lv_lstore (lv' := [(7, .long x64), (12, .int y59.2.1), (10, .long y59.1), (9, .int y55.1), (0, .ref (ad a)), (1, .int p0), (2, .int p1), (3, .long p2), (5, .long p3)]) hx hb dX5_number_124 hl (by decide) rfl (fun ls hl => ?_)
            refine lv_iload_n hx hb dX5_number_126 rfl (lv_at hl 6 rfl) ?_
            refine lv_iconst (v := (1 : Int32)) hx hb dX5_number_127 (by decide) ?_
            obtain ⟨y65, hy65, hF⟩ := bnd_some hF
            have J65 : ∀ (H : Heap) (locs : List Loc) (ls : Array Slot), va_P D classes (wld ct ad G y59.2.2) H → va_D A (wld ct ad G y59.2.2) → va_S A s.heap H locs → lv_has ls 13 [(7, .long y65), (12, .int y59.2.1), (10, .long y59.1), (9, .int y55.1), (0, .ref (ad a)), (1, .int p0), (2, .int p1), (3, .long p2), (5, .long p3)] → W p l e (headSpec wuX5_number ({ frames := 1, cells := 0, slots := 0, locals := 27 })).room s m ([.ref (ad a), .int p0, .int p1, .long p2, .long p3] : List Value).toArray below meth c H locs 0 0 (MQ below (va_Qi (fun (q : Int32) (_ : Unit) => q = y.2) (fun _ t => kE D ct ad G A y.1 t) A) ([.ref (ad a), .int p0, .int p1, .long p2, .long p3] : List Value).toArray s 0 0 A) (F0 m 160 ls []) := by
              intro H locs ls hP hD hS hl
              obtain rfl := Option.some.inj hF
              exact J53 _ _ _ hP hD hS (lv_sub hl [0, 4, 5, 6, 7, 8] rfl)
            clear hF
            have hF := hy65
            clear hy65
            refine lv_icmp_ne (tgt := 160) hx hb dX5_number_128 (by decide) (fun c66 => ?_) (fun c66 => ?_)
            · rw [if_neg c66] at hF
              obtain rfl := Option.some.inj hF
              exact J65 _ _ _ hP hD hS (lv_sub hl [0, 1, 2, 3, 4, 5, 6, 7, 8] rfl)
            · rw [if_pos c66] at hF
              refine lv_lload hx hb dX5_number_131 (lv_at hl 0 rfl) ?_
              refine lv_lconst (v := (1 : Int64)) hx hb dX5_number_133 rfl ?_
              refine lv_land hx hb dX5_number_134 ?_
              obtain ⟨x67, ex67, hF⟩ := ltt_some hF
              refine lv_topl (fun zx67 ezx67 => ?_)
              obtain rfl : x67 = zx67 := ex67.trans ezx67.symm
              refine lv_lconst (v := (1 : Int64)) hx hb dX5_number_135 rfl ?_
              refine W.lcmp hx hb dX5_number_136 ?_
              obtain ⟨x68, ex68, hF⟩ := ltt_some hF
              refine lv_topi (fun zx68 ezx68 => ?_)
              obtain rfl : x68 = zx68 := ex68.trans ezx68.symm
              obtain ⟨y69, hy69, hF⟩ := bnd_some hF
              have J69 : ∀ (H : Heap) (locs : List Loc) (ls : Array Slot), va_P D classes (wld ct ad G y59.2.2) H → va_D A (wld ct ad G y59.2.2) → va_S A s.heap H locs → lv_has ls 13 [(7, .long x64), (12, .int y59.2.1), (10, .long y59.1), (9, .int y55.1), (0, .ref (ad a)), (1, .int p0), (2, .int p1), (3, .long p2), (5, .long p3)] → W p l e (headSpec wuX5_number ({ frames := 1, cells := 0, slots := 0, locals := 27 })).room s m ([.ref (ad a), .int p0, .int p1, .long p2, .long p3] : List Value).toArray below meth c H locs 0 0 (MQ below (va_Qi (fun (q : Int32) (_ : Unit) => q = y.2) (fun _ t => kE D ct ad G A y.1 t) A) ([.ref (ad a), .int p0, .int p1, .long p2, .long p3] : List Value).toArray s 0 0 A) (F0 m 158 ls [.long y69]) := by
                intro H locs ls hP hD hS hl
                refine lv_lstore (lv' := [(7, .long y69), (12, .int y59.2.1), (10, .long y59.1), (9, .int y55.1), (0, .ref (ad a)), (1, .int p0), (2, .int p1), (3, .long p2), (5, .long p3)]) hx hb dX5_number_158 hl (by decide) rfl (fun ls hl => ?_)
                obtain rfl := Option.some.inj hF
                exact J65 _ _ _ hP hD hS (lv_sub hl [0, 1, 2, 3, 4, 5, 6, 7, 8] rfl)
              clear hF
              have hF := hy69
              clear hy69
              refine lv_if_ne (tgt := 151) hx hb dX5_number_137 (by decide) (fun c70 => ?_) (fun c70 => ?_)
              · rw [if_neg c70] at hF
                refine lv_lload hx hb dX5_number_151 (lv_at hl 0 rfl) ?_
                refine lv_ldc2 (v := (2 : Int64)) hx hb hown (hts (.constantLong RX5 140 (2 : Int64)) (mu mw_1345)) dX5_number_153 ?_
                obtain ⟨hne, hF⟩ := chk_some hF
                refine lv_ldiv hx hb dX5_number_156 hne ?_
                obtain ⟨x71, ex71, hF⟩ := ltt_some hF
                refine lv_topl (fun zx71 ezx71 => ?_)
                obtain rfl : x71 = zx71 := ex71.trans ezx71.symm
                refine lv_lneg hx hb dX5_number_157 ?_
                obtain ⟨x72, ex72, hF⟩ := ltt_some hF
                refine lv_topl (fun zx72 ezx72 => ?_)
                obtain rfl : x72 = zx72 := ex72.trans ezx72.symm
                obtain rfl := Option.some.inj hF
                exact J69 _ _ _ hP hD hS (lv_sub hl [0, 1, 2, 3, 4, 5, 6, 7, 8] rfl)
              · rw [if_pos c70] at hF
                refine lv_lload hx hb dX5_number_140 (lv_at hl 0 rfl) ?_
                refine lv_lconst (v := (1 : Int64)) hx hb dX5_number_142 rfl ?_
                refine lv_ladd hx hb dX5_number_143 ?_
                obtain ⟨x73, ex73, hF⟩ := ltt_some hF
                refine lv_topl (fun zx73 ezx73 => ?_)
                obtain rfl : x73 = zx73 := ex73.trans ezx73.symm
                refine lv_ldc2 (v := (2 : Int64)) hx hb hown (hts (.constantLong RX5 140 (2 : Int64)) (mu mw_1345)) dX5_number_144 ?_
                obtain ⟨hne, hF⟩ := chk_some hF
                refine lv_ldiv hx hb dX5_number_147 hne ?_
                obtain ⟨x74, ex74, hF⟩ := ltt_some hF
                refine lv_topl (fun zx74 ezx74 => ?_)
                obtain rfl : x74 = zx74 := ex74.trans ezx74.symm
                refine lv_goto (tgt := 158) hx hb dX5_number_148 (by decide) ?_
                obtain rfl := Option.some.inj hF
                exact J69 _ _ _ hP hD hS (lv_sub hl [0, 1, 2, 3, 4, 5, 6, 7, 8] rfl)
          clear hF
          refine itr_rule (fun (s60 : Int64 × Int32 × DD) => ∀ (H : Heap) (locs : List Loc) (ls : Array Slot), va_P D classes (wld ct ad G s60.2.2) H → va_D A (wld ct ad G s60.2.2) → va_S A s.heap H locs → lv_has ls 13 [(12, .int s60.2.1), (10, .long s60.1), (9, .int y55.1), (0, .ref (ad a)), (1, .int p0), (2, .int p1), (3, .long p2), (5, .long p3)] → W p l e (headSpec wuX5_number ({ frames := 1, cells := 0, slots := 0, locals := 27 })).room s m ([.ref (ad a), .int p0, .int p1, .long p2, .long p3] : List Value).toArray below meth c H locs 0 0 (MQ below (va_Qi (fun (q : Int32) (_ : Unit) => q = y.2) (fun _ t => kE D ct ad G A y.1 t) A) ([.ref (ad a), .int p0, .int p1, .long p2, .long p3] : List Value).toArray s 0 0 A) (F0 m 82 ls [])) ?_ _ _ hy59 _ _ _ hP hD hS (lv_sub hl [0, 1, 2, 3, 4, 5, 6, 7] rfl)
          rintro s60 ⟨z75, hF, hwz75⟩ H locs ls hP hD hS hl
          try dsimp only at hF
          refine lv_iload hx hb dX5_number_82 (lv_at hl 0 rfl) ?_
          refine lv_iload hx hb dX5_number_84 (lv_at hl 2 rfl) ?_
          refine lv_icmp_ge (tgt := 115) hx hb dX5_number_86 (by decide) (fun c76 => ?_) (fun c76 => ?_)
          · rw [if_pos c76] at hF
            obtain rfl := Option.some.inj hF
            subst hwz75
            exact K59 _ _ _ hP hD hS (lv_sub hl [0, 1, 2, 3, 4, 5, 6, 7] rfl)
          · rw [if_neg c76] at hF
            refine lv_lload hx hb dX5_number_89 (lv_at hl 1 rfl) ?_
            refine lv_iconst (v := (1 : Int32)) hx hb dX5_number_91 (by decide) ?_
            refine lv_lshl (v := s60.1 <<< (((1 : Int32)).toInt64 &&& 63)) hx hb dX5_number_92 rfl ?_
            obtain ⟨x77, ex77, hF⟩ := ltt_some hF
            refine lv_topl (fun zx77 ezx77 => ?_)
            obtain rfl : x77 = zx77 := ex77.trans ezx77.symm
            refine lv_aload_n hx hb dX5_number_93 rfl (lv_at hl 3 rfl) ?_
            refine lv_iload_n hx hb dX5_number_94 rfl (lv_at hl 4 rfl) ?_
            refine lv_iload hx hb dX5_number_95 (lv_at hl 2 rfl) ?_
            refine lv_iconst (v := (1 : Int32)) hx hb dX5_number_97 (by decide) ?_
            refine lv_iadd hx hb dX5_number_98 ?_
            obtain ⟨x78, ex78, hF⟩ := ltt_some hF
            refine lv_topi (fun zx78 ezx78 => ?_)
            obtain rfl : x78 = zx78 := ex78.trans ezx78.symm
            refine lv_iload hx hb dX5_number_99 (lv_at hl 0 rfl) ?_
            refine lv_iadd hx hb dX5_number_101 ?_
            obtain ⟨x79, ex79, hF⟩ := ltt_some hF
            refine lv_topi (fun zx79 ezx79 => ?_)
            obtain rfl : x79 = zx79 := ex79.trans ezx79.symm
            obtain ⟨y80, hy80, hF⟩ := bnd_some hF
            have hf9 := wA_in hD hA9 hS
            refine va_calli (va_runV (As := [.int p0, .int x79]) (rest := [.long x77]) ⟨hx, hb, hml, hown, hts⟩ (kX5_bit l D ct ad Z G s60.2.2 H.size a p0 x79 y80 hc hk hy80) (cwV 2 hts gX5_number_X5_bit rfl rfl rfl (by decide +kernel) ⟨Nat.le_of_ble_eq_true rfl, Nat.le_of_ble_eq_true rfl⟩) ⟨fun a U g mk q => by obtain ⟨q0, q1, qP, qK, qD, qZ, qN⟩ := q; exact ⟨q0, q1, qP, va_K.moved (u := U) (U := U.calling g mk a) (Vm.Alike.refl U.vm) qK, qD, sF.moved (u := U) (U := U.calling g mk a) (Vm.Alike.refl U.vm) qZ, nF.same rfl qN⟩, va_recv hK hP (ci := 5) (q0 := a) rfl (wld_o ct ad G s60.2.2 hc hk (by decide)), fun U hU hW => ⟨rfl, by rw [hU], by rw [hU]; exact hP, va_K.moved hW.alike hK, hD.weaken (fun _ _ _ _ => trivial), by rw [hU]; exact ((hZ.kept hS.2.1).narrow hf9).moved hW.alike, hN.warm hW⟩⟩ rfl rfl hl.1 rfl (lv_room (Nat.le_of_ble_eq_true rfl)) dX5_number_102 ⟨(Nat.zero_le _), (Nat.zero_le _)⟩) hS (fun q _ h => hf9 q h) hf9 (fun r u t H locs ht hvm hw hB hz1 hk1 hS => ?_)
            obtain ⟨hP, hK9, hD9⟩ := hB
            rw [ht] at hP
            try dsimp only at hw
            subst hw
            have hD := hD9.weaken (fun _ q _ h => hf9 q.1 h)
            refine lv_i2l (v := y80.2.toInt64) hx hb dX5_number_105 rfl ?_
            obtain ⟨x81, ex81, hF⟩ := ltt_some hF
            refine lv_topl (fun zx81 ezx81 => ?_)
            obtain rfl : x81 = zx81 := ex81.trans ezx81.symm
            refine lv_lor hx hb dX5_number_106 ?_
            obtain ⟨x82, ex82, hF⟩ := ltt_some hF
            refine lv_topl (fun zx82 ezx82 => ?_)
            obtain rfl : x82 = zx82 := ex82.trans ezx82.symm
            refine lv_lstore (lv' := [(10, .long x82), (12, .int s60.2.1), (9, .int y55.1), (0, .ref (ad a)), (1, .int p0), (2, .int p1), (3, .long p2), (5, .long p3)]) hx hb dX5_number_107 hl (by decide) rfl (fun ls hl => ?_)
            obtain ⟨x83, ex83, hF⟩ := ltt_some hF
            refine lv_iinc (v := x83) (lv' := [(12, .int x83), (10, .long x82), (9, .int y55.1), (0, .ref (ad a)), (1, .int p0), (2, .int p1), (3, .long p2), (5, .long p3)]) hx hb dX5_number_109 hl (k := 1) rfl (by rw [ex83]; rfl) (by decide) rfl (fun ls hl => ?_)
            refine lv_goto (tgt := 82) hx hb dX5_number_112 (by decide) ?_
            obtain rfl := Option.some.inj hF
            exact hwz75 _ _ _ hP hD hS (lv_sub hl [0, 1, 2, 3, 4, 5, 6, 7] rfl)
        clear hF
        have hF := hy58
        clear hy58
        refine lv_icmp_le (tgt := 76) hx hb dX5_number_64 (by decide) (fun c84 => ?_) (fun c84 => ?_)
        · rw [if_pos c84] at hF
          obtain rfl := Option.some.inj hF
          exact J58 _ _ _ hP hD hS (lv_sub hl [0, 1, 2, 3, 4, 5] rfl)
        · rw [if_neg c84] at hF
          refine lv_aload_n hx hb dX5_number_67 rfl (lv_at hl 1 rfl) ?_
          refine lv_iconst (v := (2 : Int32)) hx hb dX5_number_68 (by decide) ?_
          refine lv_aload_n hx hb dX5_number_69 rfl (lv_at hl 1 rfl) ?_
          refine va_get (D := D) (ci := 5) (v := .int (y55.2.1 a 4)) (C := RX5) (T := TX5) (N := 17) hx hb hts (mus hf_X5) hown hK hP a (wld_o ct ad G y55.2 hc hk (by decide)) rfl 4 (by decide) (hts (.fieldLink RX5 60 "VideoSuite$Reader" "begin" "I") (mu mw_292)) (fun _ h9 => h9) rfl dX5_number_70 ?_
          obtain ⟨x85, ex85, hF⟩ := ltt_some hF
          refine lv_topi (fun zx85 ezx85 => ?_)
          obtain rfl : x85 = zx85 := ex85.trans ezx85.symm
          cases hF
      clear hF
      refine itr_rule (fun (s56 : Int32 × DD) => ∀ (H : Heap) (locs : List Loc) (ls : Array Slot), va_P D classes (wld ct ad G s56.2) H → va_D A (wld ct ad G s56.2) → va_S A s.heap H locs → lv_has ls 13 [(9, .int s56.1), (0, .ref (ad a)), (1, .int p0), (2, .int p1), (3, .long p2), (5, .long p3)] → W p l e (headSpec wuX5_number ({ frames := 1, cells := 0, slots := 0, locals := 27 })).room s m ([.ref (ad a), .int p0, .int p1, .long p2, .long p3] : List Value).toArray below meth c H locs 0 0 (MQ below (va_Qi (fun (q : Int32) (_ : Unit) => q = y.2) (fun _ t => kE D ct ad G A y.1 t) A) ([.ref (ad a), .int p0, .int p1, .long p2, .long p3] : List Value).toArray s 0 0 A) (F0 m 37 ls [])) ?_ _ _ hy55 _ _ _ hP hD hS (lv_sub hl [0, 1, 2, 3, 4, 5] rfl)
      rintro s56 ⟨z86, hF, hwz86⟩ H locs ls hP hD hS hl
      try dsimp only at hF
      refine lv_iload hx hb dX5_number_37 (lv_at hl 0 rfl) ?_
      refine lv_bipush (v := (32 : Int32)) hx hb dX5_number_39 (by decide) ?_
      refine lv_icmp_ge (tgt := 60) hx hb dX5_number_41 (by decide) (fun c87 => ?_) (fun c87 => ?_)
      · rw [if_pos c87] at hF
        obtain rfl := Option.some.inj hF
        subst hwz86
        exact K55 _ _ _ hP hD hS (lv_sub hl [0, 1, 2, 3, 4, 5] rfl)
      · rw [if_neg c87] at hF
        refine lv_aload_n hx hb dX5_number_44 rfl (lv_at hl 1 rfl) ?_
        refine lv_iload_n hx hb dX5_number_45 rfl (lv_at hl 2 rfl) ?_
        refine lv_iload hx hb dX5_number_46 (lv_at hl 0 rfl) ?_
        obtain ⟨y88, hy88, hF⟩ := bnd_some hF
        have hf9 := wA_in hD hA9 hS
        refine va_calli (va_runV (As := [.int p0, .int s56.1]) (rest := []) ⟨hx, hb, hml, hown, hts⟩ (kX5_bit l D ct ad Z G s56.2 H.size a p0 s56.1 y88 hc hk hy88) (cwV 2 hts gX5_number_X5_bit rfl rfl rfl (by decide +kernel) ⟨Nat.le_of_ble_eq_true rfl, Nat.le_of_ble_eq_true rfl⟩) ⟨fun a U g mk q => by obtain ⟨q0, q1, qP, qK, qD, qZ, qN⟩ := q; exact ⟨q0, q1, qP, va_K.moved (u := U) (U := U.calling g mk a) (Vm.Alike.refl U.vm) qK, qD, sF.moved (u := U) (U := U.calling g mk a) (Vm.Alike.refl U.vm) qZ, nF.same rfl qN⟩, va_recv hK hP (ci := 5) (q0 := a) rfl (wld_o ct ad G s56.2 hc hk (by decide)), fun U hU hW => ⟨rfl, by rw [hU], by rw [hU]; exact hP, va_K.moved hW.alike hK, hD.weaken (fun _ _ _ _ => trivial), by rw [hU]; exact ((hZ.kept hS.2.1).narrow hf9).moved hW.alike, hN.warm hW⟩⟩ rfl rfl hl.1 rfl (lv_room (Nat.le_of_ble_eq_true rfl)) dX5_number_48 ⟨(Nat.zero_le _), (Nat.zero_le _)⟩) hS (fun q _ h => hf9 q h) hf9 (fun r u t H locs ht hvm hw hB hz1 hk1 hS => ?_)
        obtain ⟨hP, hK9, hD9⟩ := hB
        rw [ht] at hP
        try dsimp only at hw
        subst hw
        have hD := hD9.weaken (fun _ q _ h => hf9 q.1 h)
        refine lv_if_ne (tgt := 60) hx hb dX5_number_51 (by decide) (fun c89 => ?_) (fun c89 => ?_)
        · rw [if_neg c89] at hF
          obtain rfl := Option.some.inj hF
          subst hwz86
          exact K55 _ _ _ hP hD hS (lv_sub hl [0, 1, 2, 3, 4, 5] rfl)
        · rw [if_pos c89] at hF
          obtain ⟨x90, ex90, hF⟩ := ltt_some hF
          refine lv_iinc (v := x90) (lv' := [(9, .int x90), (0, .ref (ad a)), (1, .int p0), (2, .int p1), (3, .long p2), (5, .long p3)]) hx hb dX5_number_54 hl (k := 0) rfl (by rw [ex90]; rfl) (by decide) rfl (fun ls hl => ?_)
          refine lv_goto (tgt := 37) hx hb dX5_number_57 (by decide) ?_
          obtain rfl := Option.some.inj hF
          exact hwz86 _ _ _ hP hD hS (lv_sub hl [0, 1, 2, 3, 4, 5] rfl)
    · rw [if_pos c54] at hF
      refine lv_iconst (v := (1 : Int32)) hx hb dX5_number_20 (by decide) ?_
      refine lv_aload_n hx hb dX5_number_21 rfl (lv_at hl 0 rfl) ?_
      refine lv_iload_n hx hb dX5_number_22 rfl (lv_at hl 1 rfl) ?_
      refine lv_iconst (v := (0 : Int32)) hx hb dX5_number_23 (by decide) ?_
      obtain ⟨y91, hy91, hF⟩ := bnd_some hF
      have hf9 := wA_in hD hA9 hS
      refine va_calli (va_runV (As := [.int p0, .int (0 : Int32)]) (rest := [.int (1 : Int32)]) ⟨hx, hb, hml, hown, hts⟩ (kX5_bit l D ct ad Z G M2 H.size a p0 ((0 : Int32)) y91 hc hk hy91) (cwV 2 hts gX5_number_X5_bit rfl rfl rfl (by decide +kernel) ⟨Nat.le_of_ble_eq_true rfl, Nat.le_of_ble_eq_true rfl⟩) ⟨fun a U g mk q => by obtain ⟨q0, q1, qP, qK, qD, qZ, qN⟩ := q; exact ⟨q0, q1, qP, va_K.moved (u := U) (U := U.calling g mk a) (Vm.Alike.refl U.vm) qK, qD, sF.moved (u := U) (U := U.calling g mk a) (Vm.Alike.refl U.vm) qZ, nF.same rfl qN⟩, va_recv hK hP (ci := 5) (q0 := a) rfl (wld_o ct ad G M2 hc hk (by decide)), fun U hU hW => ⟨rfl, by rw [hU], by rw [hU]; exact hP, va_K.moved hW.alike hK, hD.weaken (fun _ _ _ _ => trivial), by rw [hU]; exact ((hZ.kept hS.2.1).narrow hf9).moved hW.alike, hN.warm hW⟩⟩ rfl rfl hl.1 rfl (lv_room (Nat.le_of_ble_eq_true rfl)) dX5_number_24 ⟨(Nat.zero_le _), (Nat.zero_le _)⟩) hS (fun q _ h => hf9 q h) hf9 (fun r u t H locs ht hvm hw hB hz1 hk1 hS => ?_)
      obtain ⟨hP, hK9, hD9⟩ := hB
      rw [ht] at hP
      try dsimp only at hw
      subst hw
      have hD := hD9.weaken (fun _ q _ h => hf9 q.1 h)
      refine lv_isub hx hb dX5_number_27 ?_
      obtain ⟨x92, ex92, hF⟩ := ltt_some hF
      refine lv_topi (fun zx92 ezx92 => ?_)
      obtain rfl : x92 = zx92 := ex92.trans ezx92.symm
      refine lv_i2l (v := x92.toInt64) hx hb dX5_number_28 rfl ?_
      obtain ⟨x93, ex93, hF⟩ := ltt_some hF
      refine lv_topl (fun zx93 ezx93 => ?_)
      obtain rfl : x93 = zx93 := ex93.trans ezx93.symm
      refine lv_lstore (lv' := [(7, .long x93), (0, .ref (ad a)), (1, .int p0), (2, .int p1), (3, .long p2), (5, .long p3)]) hx hb dX5_number_29 hl (by decide) rfl (fun ls hl => ?_)
      refine lv_goto (tgt := 160) hx hb dX5_number_31 (by decide) ?_
      obtain rfl := Option.some.inj hF
      exact J53 _ _ _ hP hD hS (lv_sub hl [0, 1, 2, 3, 4, 5] rfl)
set_option maxRecDepth 20000 in
theorem gX5_oneLevel_X5_record : GoodIn wuX5_oneLevel (wsV RX5 137 RX5 yX5_record wuX5_record) := gu_V mw_1346 mw_1348 mw_33 mw_169 mw_1349
set_option maxRecDepth 20000 in
set_option maxRecDepth 20000 in
theorem gX5_oneLevel_X5_fixed : GoodIn wuX5_oneLevel (wsV RX5 130 RX5 yX5_fixed wuX5_fixed) := gu_V mw_2214 mw_1356 mw_1357 mw_169 mw_1358
set_option maxRecDepth 20000 in
theorem gX5_oneLevel_X5_bit : GoodIn wuX5_oneLevel (wsV RX5 134 RX5 yX5_bit wuX5_bit) := gu_V mw_1331 mw_1332 mw_1333 mw_169 mw_1334
set_option maxRecDepth 20000 in
theorem dX5_oneLevel_0 : decode cX5_oneLevel 0 = .ok (.aload_n 0, 1) := by decide +kernel
theorem dX5_oneLevel_1 : decode cX5_oneLevel 1 = .ok (.aload_n 0, 1) := by decide +kernel
theorem dX5_oneLevel_2 : decode cX5_oneLevel 2 = .ok (.getfield 57, 3) := by decide +kernel
theorem dX5_oneLevel_5 : decode cX5_oneLevel 5 = .ok (.putfield 60, 3) := by decide +kernel
theorem dX5_oneLevel_8 : decode cX5_oneLevel 8 = .ok (.iconst 0, 1) := by decide +kernel
theorem dX5_oneLevel_9 : decode cX5_oneLevel 9 = .ok (.istore_n 3, 1) := by decide +kernel
theorem dX5_oneLevel_10 : decode cX5_oneLevel 10 = .ok (.iload_n 3, 1) := by decide +kernel
theorem dX5_oneLevel_11 : decode cX5_oneLevel 11 = .ok (.bipush 16, 2) := by decide +kernel
theorem dX5_oneLevel_13 : decode cX5_oneLevel 13 = .ok (.if_icmp .ge 19, 3) := by decide +kernel
theorem dX5_oneLevel_16 : decode cX5_oneLevel 16 = .ok (.aload_n 0, 1) := by decide +kernel
theorem dX5_oneLevel_17 : decode cX5_oneLevel 17 = .ok (.bipush 13, 2) := by decide +kernel
theorem dX5_oneLevel_19 : decode cX5_oneLevel 19 = .ok (.iload_n 3, 1) := by decide +kernel
theorem dX5_oneLevel_20 : decode cX5_oneLevel 20 = .ok (.invokevirtual 134, 3) := by decide +kernel
theorem dX5_oneLevel_23 : decode cX5_oneLevel 23 = .ok (.ifCond .ne 9, 3) := by decide +kernel
theorem dX5_oneLevel_26 : decode cX5_oneLevel 26 = .ok (.iinc 3 1, 3) := by decide +kernel
theorem dX5_oneLevel_29 : decode cX5_oneLevel 29 = .ok (.goto (-19), 3) := by decide +kernel
theorem dX5_oneLevel_32 : decode cX5_oneLevel 32 = .ok (.iload_n 3, 1) := by decide +kernel
theorem dX5_oneLevel_33 : decode cX5_oneLevel 33 = .ok (.bipush 15, 2) := by decide +kernel
theorem dX5_oneLevel_35 : decode cX5_oneLevel 35 = .ok (.if_icmp .le 12, 3) := by decide +kernel
theorem dX5_oneLevel_38 : decode cX5_oneLevel 38 = .ok (.aload_n 0, 1) := by decide +kernel
theorem dX5_oneLevel_39 : decode cX5_oneLevel 39 = .ok (.iconst 2, 1) := by decide +kernel
theorem dX5_oneLevel_40 : decode cX5_oneLevel 40 = .ok (.aload_n 0, 1) := by decide +kernel
theorem dX5_oneLevel_41 : decode cX5_oneLevel 41 = .ok (.getfield 60, 3) := by decide +kernel
theorem dX5_oneLevel_44 : decode cX5_oneLevel 44 = .ok (.invokevirtual 89, 3) := by decide +kernel
theorem dX5_oneLevel_47 : decode cX5_oneLevel 47 = .ok (.aload_n 0, 1) := by decide +kernel
theorem dX5_oneLevel_48 : decode cX5_oneLevel 48 = .ok (.iload_n 3, 1) := by decide +kernel
theorem dX5_oneLevel_49 : decode cX5_oneLevel 49 = .ok (.invokevirtual 137, 3) := by decide +kernel
theorem dX5_oneLevel_52 : decode cX5_oneLevel 52 = .ok (.iload_n 3, 1) := by decide +kernel
theorem dX5_oneLevel_53 : decode cX5_oneLevel 53 = .ok (.bipush 15, 2) := by decide +kernel
theorem dX5_oneLevel_55 : decode cX5_oneLevel 55 = .ok (.if_icmp .ne 8, 3) := by decide +kernel
theorem dX5_oneLevel_58 : decode cX5_oneLevel 58 = .ok (.bipush 12, 2) := by decide +kernel
theorem dX5_oneLevel_60 : decode cX5_oneLevel 60 = .ok (.goto 18, 3) := by decide +kernel
theorem dX5_oneLevel_63 : decode cX5_oneLevel 63 = .ok (.iload_n 3, 1) := by decide +kernel
theorem dX5_oneLevel_64 : decode cX5_oneLevel 64 = .ok (.bipush 14, 2) := by decide +kernel
theorem dX5_oneLevel_66 : decode cX5_oneLevel 66 = .ok (.if_icmp .ne 11, 3) := by decide +kernel
theorem dX5_oneLevel_69 : decode cX5_oneLevel 69 = .ok (.iload_n 1, 1) := by decide +kernel
theorem dX5_oneLevel_70 : decode cX5_oneLevel 70 = .ok (.ifCond .ne 7, 3) := by decide +kernel
theorem dX5_oneLevel_73 : decode cX5_oneLevel 73 = .ok (.iconst 4, 1) := by decide +kernel
theorem dX5_oneLevel_74 : decode cX5_oneLevel 74 = .ok (.goto 4, 3) := by decide +kernel
theorem dX5_oneLevel_77 : decode cX5_oneLevel 77 = .ok (.iload_n 1, 1) := by decide +kernel
theorem dX5_oneLevel_78 : decode cX5_oneLevel 78 = .ok (.istore 4, 2) := by decide +kernel
theorem dX5_oneLevel_80 : decode cX5_oneLevel 80 = .ok (.iload_n 3, 1) := by decide +kernel
theorem dX5_oneLevel_81 : decode cX5_oneLevel 81 = .ok (.bipush 15, 2) := by decide +kernel
theorem dX5_oneLevel_83 : decode cX5_oneLevel 83 = .ok (.if_icmp .ge 7, 3) := by decide +kernel
theorem dX5_oneLevel_86 : decode cX5_oneLevel 86 = .ok (.iload_n 3, 1) := by decide +kernel
theorem dX5_oneLevel_87 : decode cX5_oneLevel 87 = .ok (.goto 5, 3) := by decide +kernel
theorem dX5_oneLevel_90 : decode cX5_oneLevel 90 = .ok (.bipush 15, 2) := by decide +kernel
theorem dX5_oneLevel_92 : decode cX5_oneLevel 92 = .ok (.iload_n 1, 1) := by decide +kernel
theorem dX5_oneLevel_93 : decode cX5_oneLevel 93 = .ok (.ishl, 1) := by decide +kernel
theorem dX5_oneLevel_94 : decode cX5_oneLevel 94 = .ok (.istore 5, 2) := by decide +kernel
theorem dX5_oneLevel_96 : decode cX5_oneLevel 96 = .ok (.iload 4, 2) := by decide +kernel
theorem dX5_oneLevel_98 : decode cX5_oneLevel 98 = .ok (.ifCond .le 16, 3) := by decide +kernel
theorem dX5_oneLevel_101 : decode cX5_oneLevel 101 = .ok (.iload 5, 2) := by decide +kernel
theorem dX5_oneLevel_103 : decode cX5_oneLevel 103 = .ok (.aload_n 0, 1) := by decide +kernel
theorem dX5_oneLevel_104 : decode cX5_oneLevel 104 = .ok (.bipush 14, 2) := by decide +kernel
theorem dX5_oneLevel_106 : decode cX5_oneLevel 106 = .ok (.iload 4, 2) := by decide +kernel
theorem dX5_oneLevel_108 : decode cX5_oneLevel 108 = .ok (.invokevirtual 130, 3) := by decide +kernel
theorem dX5_oneLevel_111 : decode cX5_oneLevel 111 = .ok (.iadd, 1) := by decide +kernel
theorem dX5_oneLevel_112 : decode cX5_oneLevel 112 = .ok (.istore 5, 2) := by decide +kernel
theorem dX5_oneLevel_114 : decode cX5_oneLevel 114 = .ok (.iload 5, 2) := by decide +kernel
theorem dX5_oneLevel_116 : decode cX5_oneLevel 116 = .ok (.iload_n 3, 1) := by decide +kernel
theorem dX5_oneLevel_117 : decode cX5_oneLevel 117 = .ok (.bipush 15, 2) := by decide +kernel
theorem dX5_oneLevel_119 : decode cX5_oneLevel 119 = .ok (.if_icmp .ne 12, 3) := by decide +kernel
theorem dX5_oneLevel_122 : decode cX5_oneLevel 122 = .ok (.iload_n 1, 1) := by decide +kernel
theorem dX5_oneLevel_123 : decode cX5_oneLevel 123 = .ok (.ifCond .ne 8, 3) := by decide +kernel
theorem dX5_oneLevel_126 : decode cX5_oneLevel 126 = .ok (.bipush 15, 2) := by decide +kernel
theorem dX5_oneLevel_128 : decode cX5_oneLevel 128 = .ok (.goto 4, 3) := by decide +kernel
theorem dX5_oneLevel_131 : decode cX5_oneLevel 131 = .ok (.iconst 0, 1) := by decide +kernel
theorem dX5_oneLevel_132 : decode cX5_oneLevel 132 = .ok (.iadd, 1) := by decide +kernel
theorem dX5_oneLevel_133 : decode cX5_oneLevel 133 = .ok (.istore 5, 2) := by decide +kernel
theorem dX5_oneLevel_135 : decode cX5_oneLevel 135 = .ok (.iload 5, 2) := by decide +kernel
theorem dX5_oneLevel_137 : decode cX5_oneLevel 137 = .ok (.iload_n 2, 1) := by decide +kernel
theorem dX5_oneLevel_138 : decode cX5_oneLevel 138 = .ok (.ifCond .eq 7, 3) := by decide +kernel
theorem dX5_oneLevel_141 : decode cX5_oneLevel 141 = .ok (.iconst 2, 1) := by decide +kernel
theorem dX5_oneLevel_142 : decode cX5_oneLevel 142 = .ok (.goto 4, 3) := by decide +kernel
theorem dX5_oneLevel_145 : decode cX5_oneLevel 145 = .ok (.iconst 0, 1) := by decide +kernel
theorem dX5_oneLevel_146 : decode cX5_oneLevel 146 = .ok (.iadd, 1) := by decide +kernel
theorem dX5_oneLevel_147 : decode cX5_oneLevel 147 = .ok (.istore 5, 2) := by decide +kernel
theorem dX5_oneLevel_149 : decode cX5_oneLevel 149 = .ok (.iload 5, 2) := by decide +kernel
theorem dX5_oneLevel_151 : decode cX5_oneLevel 151 = .ok (.iconst 1, 1) := by decide +kernel
theorem dX5_oneLevel_152 : decode cX5_oneLevel 152 = .ok (.iand, 1) := by decide +kernel
theorem dX5_oneLevel_153 : decode cX5_oneLevel 153 = .ok (.ifCond .ne 12, 3) := by decide +kernel
theorem dX5_oneLevel_156 : decode cX5_oneLevel 156 = .ok (.iload 5, 2) := by decide +kernel
theorem dX5_oneLevel_158 : decode cX5_oneLevel 158 = .ok (.iconst 2, 1) := by decide +kernel
theorem dX5_oneLevel_159 : decode cX5_oneLevel 159 = .ok (.iadd, 1) := by decide +kernel
theorem dX5_oneLevel_160 : decode cX5_oneLevel 160 = .ok (.iconst 2, 1) := by decide +kernel
theorem dX5_oneLevel_161 : decode cX5_oneLevel 161 = .ok (.idiv, 1) := by decide +kernel
theorem dX5_oneLevel_162 : decode cX5_oneLevel 162 = .ok (.goto 10, 3) := by decide +kernel
theorem dX5_oneLevel_165 : decode cX5_oneLevel 165 = .ok (.iload 5, 2) := by decide +kernel
theorem dX5_oneLevel_167 : decode cX5_oneLevel 167 = .ok (.iconst 1, 1) := by decide +kernel
theorem dX5_oneLevel_168 : decode cX5_oneLevel 168 = .ok (.iadd, 1) := by decide +kernel
theorem dX5_oneLevel_169 : decode cX5_oneLevel 169 = .ok (.ineg, 1) := by decide +kernel
theorem dX5_oneLevel_170 : decode cX5_oneLevel 170 = .ok (.iconst 2, 1) := by decide +kernel
theorem dX5_oneLevel_171 : decode cX5_oneLevel 171 = .ok (.idiv, 1) := by decide +kernel
theorem dX5_oneLevel_172 : decode cX5_oneLevel 172 = .ok (.ireturn, 1) := by decide +kernel
def FX5_oneLevel (G : GG) (M : DD) (a : Nat) (p0 : Int32) (p1 : Int32) : Option (DD × Int32) :=
  ltt (M.1 a 2) fun x1 =>
  ltt (uI M a 4 x1) fun M2 =>
  bnd (itr (fun (s4 : Int32 × DD) => ((if ((16 : Int32)) ≤ s4.1 then (some (.inr (s4.1, s4.2))) else
  (bnd (FX5_bit G s4.2 a ((13 : Int32)) s4.1) fun y41 =>
  if y41.2 = ((0 : Int32)) then (ltt (s4.1 + (1 : Int32)) fun x43 =>
  some (.inl (x43, y41.1))) else
  (some (.inr (s4.1, y41.1))))) : Option ((Int32 × DD) ⊕ (Int32 × DD)))) 1000000 ((0 : Int32), M2)) fun (y3 : Int32 × DD) =>
  bnd (if y3.1 ≤ ((15 : Int32)) then (some (y3.2)) else
  (ltt (y3.2.1 a 4) fun x38 =>
  none)) fun (y6 : DD) =>
  bnd (FX5_record G y6 a y3.1) fun y7 =>
  bnd (if y3.1 = ((15 : Int32)) then (some ((12 : Int32))) else
  (bnd (if y3.1 = ((14 : Int32)) then (bnd (if p0 = ((0 : Int32)) then (some ((4 : Int32))) else
  (some (p0))) fun (y35 : Int32) =>
  some (y35)) else
  (some (p0))) fun (y33 : Int32) =>
  some (y33))) fun (y8 : Int32) =>
  bnd (if ((15 : Int32)) ≤ y3.1 then (some ((15 : Int32))) else
  (some (y3.1))) fun (y9 : Int32) =>
  ltt ((y9 <<< (p0 &&& 31))) fun x10 =>
  bnd (if y8 ≤ ((0 : Int32)) then (some (x10, y7)) else
  (bnd (FX5_fixed G y7 a ((14 : Int32)) y8) fun y29 =>
  ltt ((x10 + y29.2)) fun x30 =>
  some (x30, y29.1))) fun (y11 : Int32 × DD) =>
  bnd (if y3.1 = ((15 : Int32)) then (bnd (if p0 = ((0 : Int32)) then (some ((15 : Int32))) else
  (some ((0 : Int32)))) fun (y26 : Int32) =>
  some (y26)) else
  (some ((0 : Int32)))) fun (y12 : Int32) =>
  ltt ((y11.1 + y12)) fun x13 =>
  bnd (if p1 = ((0 : Int32)) then (some ((0 : Int32))) else
  (some ((2 : Int32)))) fun (y14 : Int32) =>
  ltt ((x13 + y14)) fun x15 =>
  ltt ((x15 &&& ((1 : Int32)))) fun x16 =>
  bnd (if x16 = ((0 : Int32)) then (ltt ((x15 + ((2 : Int32)))) fun x22 =>
  ltt (x22 / ((2 : Int32))) fun x23 =>
  some (x23)) else
  (ltt ((x15 + ((1 : Int32)))) fun x19 =>
  ltt (-x19) fun x20 =>
  ltt (x20 / ((2 : Int32))) fun x21 =>
  some (x21))) fun (y17 : Int32) =>
  some (y11.2, y17)
set_option maxHeartbeats 4000000 in
set_option maxRecDepth 100000 in
theorem kX5_oneLevel (l : Launch) (D : va_G) (ct : CT) (ad : Nat → Nat) (Z : Nat → Nat) (G : GG) (M : DD) (sz : Nat) (a : Nat) (p0 : Int32) (p1 : Int32) (y : DD × Int32) (hc : a < G.1) (hk : G.2.1 a = 5) (hF : FX5_oneLevel G M a p0 p1 = some y) : Met l yX5_oneLevel wuX5_oneLevel ({ frames := 2, cells := 0, slots := 0, locals := 51 }) (va_Pc [.ref (ad a), .int p0, .int p1] (kB D ct ad Z G M sz)) (va_Qi (fun (q : Int32) (_ : Unit) => q = y.2) (fun _ t => kE D ct ad G (wA ad G sz) y.1 t) (wA ad G sz)) 0 0 (wA ad G sz) := by
  refine Met.ofW (cc := cX5_oneLevel) (maxL := 6) (ret := (some .int)) (by decide) rfl ?_
  intro p e s m args below meth c s₁ B hml hv
  obtain ⟨rfl, hsz, hP, hK, hD0, hZ, hN⟩ := hv
  have hx := B.exec
  have hb := B.bytes
  have hr := B.returns
  have hts := atoms_spec (ws := wuX5_oneLevel) B.pre
  have hown : s.vm.findClass RX5 = some m.cls := findClass_of_methodNamed B.named
  have hlocks := B.notSynchronized
  subst hsz
  have hD := wD_self (sz := s.heap.size) hD0
  have hA9 : ∀ q, s.heap.size ≤ q → wA ad G s.heap.size q := fun q h => Or.inr h
  generalize hAe : wA ad G s.heap.size = A at hD hA9 hZ ⊢
  have hS : va_S A s.heap s.heap [] := va_S.rf
  have hl := lv_entry ([.ref (ad a), .int p0, .int p1]) (n := 6) (Nat.le_of_ble_eq_true rfl)
  rw [lg_entry_eq]
  generalize (lg_sl ([.ref (ad a), .int p0, .int p1]) ++ List.replicate (6 - (lg_sl ([.ref (ad a), .int p0, .int p1])).length) Slot.unset).toArray = ls at hl ⊢
  have hl : lv_has ls 6 [(0, .ref (ad a)), (1, .int p0), (2, .int p1)] := hl
  unfold FX5_oneLevel at hF
  refine lv_aload_n hx hb dX5_oneLevel_0 rfl (lv_at hl 0 rfl) ?_
  refine lv_aload_n hx hb dX5_oneLevel_1 rfl (lv_at hl 0 rfl) ?_
  refine va_get (D := D) (ci := 5) (v := .int (M.1 a 2)) (C := RX5) (T := TX5) (N := 17) hx hb hts (mus hf_X5) hown hK hP a (wld_o ct ad G M hc hk (by decide)) rfl 2 (by decide) (hts (.fieldLink RX5 57 "VideoSuite$Reader" "place" "I") (mu mw_289)) (fun _ h9 => h9) rfl dX5_oneLevel_2 ?_
  obtain ⟨x1, ex1, hF⟩ := ltt_some hF
  refine lv_topi (fun zx1 ezx1 => ?_)
  obtain rfl : x1 = zx1 := ex1.trans ezx1.symm
  refine va_put (D := D) (ci := 5) (v := .int x1) (ty := .int) (C := RX5) (T := TX5) (N := 17) hx hb hts (mus hf_X5) tyX5 tyX5_ok nmX5 hown hK hP hD hS a (wld_o ct ad G M hc hk (by decide)) rfl 4 (by decide) (hts (.fieldLink RX5 60 "VideoSuite$Reader" "begin" "I") (mu mw_292)) (fun _ h9 => h9) rfl (by decide +kernel) rfl rfl (Nat.le_of_ble_eq_true rfl) dX5_oneLevel_5 (fun H locs hP hD hS => ?_)
  obtain ⟨M2, eM2, hF⟩ := ltt_some hF
  rw [set_oI ct ad G M hc hk (by decide) (by rfl), ← eM2] at hP hD
  refine lv_iconst (v := (0 : Int32)) hx hb dX5_oneLevel_8 (by decide) ?_
  refine lv_istore_n (lv' := [(3, .int (0 : Int32)), (0, .ref (ad a)), (1, .int p0), (2, .int p1)]) hx hb dX5_oneLevel_9 rfl hl (by decide) rfl (fun ls hl => ?_)
  obtain ⟨y3, hy3, hF⟩ := bnd_some hF
  have K3 : ∀ (H : Heap) (locs : List Loc) (ls : Array Slot), va_P D classes (wld ct ad G y3.2) H → va_D A (wld ct ad G y3.2) → va_S A s.heap H locs → lv_has ls 6 [(3, .int y3.1), (0, .ref (ad a)), (1, .int p0), (2, .int p1)] → W p l e (headSpec wuX5_oneLevel ({ frames := 2, cells := 0, slots := 0, locals := 51 })).room s m ([.ref (ad a), .int p0, .int p1] : List Value).toArray below meth c H locs 0 0 (MQ below (va_Qi (fun (q : Int32) (_ : Unit) => q = y.2) (fun _ t => kE D ct ad G A y.1 t) A) ([.ref (ad a), .int p0, .int p1] : List Value).toArray s 0 0 A) (F0 m 32 ls []) := by
    intro H locs ls hP hD hS hl
    refine lv_iload_n hx hb dX5_oneLevel_32 rfl (lv_at hl 0 rfl) ?_
    refine lv_bipush (v := (15 : Int32)) hx hb dX5_oneLevel_33 (by decide) ?_
    obtain ⟨y6, hy6, hF⟩ := bnd_some hF
    have J6 : ∀ (H : Heap) (locs : List Loc) (ls : Array Slot), va_P D classes (wld ct ad G y6) H → va_D A (wld ct ad G y6) → va_S A s.heap H locs → lv_has ls 6 [(3, .int y3.1), (0, .ref (ad a)), (1, .int p0), (2, .int p1)] → W p l e (headSpec wuX5_oneLevel ({ frames := 2, cells := 0, slots := 0, locals := 51 })).room s m ([.ref (ad a), .int p0, .int p1] : List Value).toArray below meth c H locs 0 0 (MQ below (va_Qi (fun (q : Int32) (_ : Unit) => q = y.2) (fun _ t => kE D ct ad G A y.1 t) A) ([.ref (ad a), .int p0, .int p1] : List Value).toArray s 0 0 A) (F0 m 47 ls []) := by
      intro H locs ls hP hD hS hl
      refine lv_aload_n hx hb dX5_oneLevel_47 rfl (lv_at hl 1 rfl) ?_
      refine lv_iload_n hx hb dX5_oneLevel_48 rfl (lv_at hl 0 rfl) ?_
      obtain ⟨y7, hy7, hF⟩ := bnd_some hF
      have hf9 := wA_in hD hA9 hS
      refine va_callv (va_runV (As := [.int y3.1]) (rest := []) ⟨hx, hb, hml, hown, hts⟩ (kX5_record l D ct ad Z G y6 H.size a y3.1 y7 hc hk hy7) (cwV 1 hts gX5_oneLevel_X5_record rfl rfl rfl (by decide +kernel) ⟨Nat.le_of_ble_eq_true rfl, Nat.le_of_ble_eq_true rfl⟩) ⟨fun a U g mk q => by obtain ⟨q0, q1, qP, qK, qD, qZ, qN⟩ := q; exact ⟨q0, q1, qP, va_K.moved (u := U) (U := U.calling g mk a) (Vm.Alike.refl U.vm) qK, qD, sF.moved (u := U) (U := U.calling g mk a) (Vm.Alike.refl U.vm) qZ, nF.same rfl qN⟩, va_recv hK hP (ci := 5) (q0 := a) rfl (wld_o ct ad G y6 hc hk (by decide)), fun U hU hW => ⟨rfl, by rw [hU], by rw [hU]; exact hP, va_K.moved hW.alike hK, hD.weaken (fun _ _ _ _ => trivial), by rw [hU]; exact ((hZ.kept hS.2.1).narrow hf9).moved hW.alike, hN.warm hW⟩⟩ rfl rfl hl.1 rfl (lv_room (Nat.le_of_ble_eq_true rfl)) dX5_oneLevel_49 ⟨(Nat.zero_le _), (Nat.zero_le _)⟩) hS (fun q _ h => hf9 q h) hf9 (fun u t H locs ht hvm hw hB hz1 hk1 hS => ?_)
      obtain ⟨hP, hK9, hD9⟩ := hB
      rw [ht] at hP
      have hD := hD9.weaken (fun _ q _ h => hf9 q.1 h)
      refine lv_iload_n hx hb dX5_oneLevel_52 rfl (lv_at hl 0 rfl) ?_
      refine lv_bipush (v := (15 : Int32)) hx hb dX5_oneLevel_53 (by decide) ?_
      obtain ⟨y8, hy8, hF⟩ := bnd_some hF
      have J8 : ∀ (H : Heap) (locs : List Loc) (ls : Array Slot), va_P D classes (wld ct ad G y7) H → va_D A (wld ct ad G y7) → va_S A s.heap H locs → lv_has ls 6 [(3, .int y3.1), (0, .ref (ad a)), (1, .int p0), (2, .int p1)] → W p l e (headSpec wuX5_oneLevel ({ frames := 2, cells := 0, slots := 0, locals := 51 })).room s m ([.ref (ad a), .int p0, .int p1] : List Value).toArray below meth c H locs 0 0 (MQ below (va_Qi (fun (q : Int32) (_ : Unit) => q = y.2) (fun _ t => kE D ct ad G A y.1 t) A) ([.ref (ad a), .int p0, .int p1] : List Value).toArray s 0 0 A) (F0 m 78 ls [.int y8]) := by
        intro H locs ls hP hD hS hl
        refine lv_istore (lv' := [(4, .int y8), (3, .int y3.1), (0, .ref (ad a)), (1, .int p0), (2, .int p1)]) hx hb dX5_oneLevel_78 hl (by decide) rfl (fun ls hl => ?_)
        refine lv_iload_n hx hb dX5_oneLevel_80 rfl (lv_at hl 1 rfl) ?_
        refine lv_bipush (v := (15 : Int32)) hx hb dX5_oneLevel_81 (by decide) ?_
        obtain ⟨y9, hy9, hF⟩ := bnd_some hF
        have J9 : ∀ (H : Heap) (locs : List Loc) (ls : Array Slot), va_P D classes (wld ct ad G y7) H → va_D A (wld ct ad G y7) → va_S A s.heap H locs → lv_has ls 6 [(4, .int y8), (3, .int y3.1), (0, .ref (ad a)), (1, .int p0), (2, .int p1)] → W p l e (headSpec wuX5_oneLevel ({ frames := 2, cells := 0, slots := 0, locals := 51 })).room s m ([.ref (ad a), .int p0, .int p1] : List Value).toArray below meth c H locs 0 0 (MQ below (va_Qi (fun (q : Int32) (_ : Unit) => q = y.2) (fun _ t => kE D ct ad G A y.1 t) A) ([.ref (ad a), .int p0, .int p1] : List Value).toArray s 0 0 A) (F0 m 92 ls [.int y9]) := by
          intro H locs ls hP hD hS hl
          refine lv_iload_n hx hb dX5_oneLevel_92 rfl (lv_at hl 3 rfl) ?_
          refine lv_ishl hx hb dX5_oneLevel_93 ?_
          obtain ⟨x10, ex10, hF⟩ := ltt_some hF
          refine lv_topi (fun zx10 ezx10 => ?_)
          obtain rfl : x10 = zx10 := ex10.trans ezx10.symm
          refine lv_istore (lv' := [(5, .int x10), (4, .int y8), (3, .int y3.1), (0, .ref (ad a)), (1, .int p0), (2, .int p1)]) hx hb dX5_oneLevel_94 hl (by decide) rfl (fun ls hl => ?_)
          refine lv_iload hx hb dX5_oneLevel_96 (lv_at hl 1 rfl) ?_
          obtain ⟨y11, hy11, hF⟩ := bnd_some hF
          have J11 : ∀ (H : Heap) (locs : List Loc) (ls : Array Slot), va_P D classes (wld ct ad G y11.2) H → va_D A (wld ct ad G y11.2) → va_S A s.heap H locs → lv_has ls 6 [(5, .int y11.1), (4, .int y8), (3, .int y3.1), (0, .ref (ad a)), (1, .int p0), (2, .int p1)] → W p l e (headSpec wuX5_oneLevel ({ frames := 2, cells := 0, slots := 0, locals := 51 })).room s m ([.ref (ad a), .int p0, .int p1] : List Value).toArray below meth c H locs 0 0 (MQ below (va_Qi (fun (q : Int32) (_ : Unit) => q = y.2) (fun _ t => kE D ct ad G A y.1 t) A) ([.ref (ad a), .int p0, .int p1] : List Value).toArray s 0 0 A) (F0 m 114 ls []) := by
            intro H locs ls hP hD hS hl
            refine lv_iload hx hb dX5_oneLevel_114 (lv_at hl 0 rfl) ?_
            refine lv_iload_n hx hb dX5_oneLevel_116 rfl (lv_at hl 2 rfl) ?_
            refine lv_bipush (v := (15 : Int32)) hx hb dX5_oneLevel_117 (by decide) ?_
            obtain ⟨y12, hy12, hF⟩ := bnd_some hF
            have J12 : ∀ (H : Heap) (locs : List Loc) (ls : Array Slot), va_P D classes (wld ct ad G y11.2) H → va_D A (wld ct ad G y11.2) → va_S A s.heap H locs → lv_has ls 6 [(5, .int y11.1), (4, .int y8), (3, .int y3.1), (0, .ref (ad a)), (1, .int p0), (2, .int p1)] → W p l e (headSpec wuX5_oneLevel ({ frames := 2, cells := 0, slots := 0, locals := 51 })).room s m ([.ref (ad a), .int p0, .int p1] : List Value).toArray below meth c H locs 0 0 (MQ below (va_Qi (fun (q : Int32) (_ : Unit) => q = y.2) (fun _ t => kE D ct ad G A y.1 t) A) ([.ref (ad a), .int p0, .int p1] : List Value).toArray s 0 0 A) (F0 m 132 ls [.int y12, .int y11.1]) := by
              intro H locs ls hP hD hS hl
              refine lv_iadd hx hb dX5_oneLevel_132 ?_
              obtain ⟨x13, ex13, hF⟩ := ltt_some hF
              refine lv_topi (fun zx13 ezx13 => ?_)
              obtain rfl : x13 = zx13 := ex13.trans ezx13.symm
              refine lv_istore (lv' := [(5, .int x13), (4, .int y8), (3, .int y3.1), (0, .ref (ad a)), (1, .int p0), (2, .int p1)]) hx hb dX5_oneLevel_133 hl (by decide) rfl (fun ls hl => ?_)
              refine lv_iload hx hb dX5_oneLevel_135 (lv_at hl 0 rfl) ?_
              refine lv_iload_n hx hb dX5_oneLevel_137 rfl (lv_at hl 5 rfl) ?_
              obtain ⟨y14, hy14, hF⟩ := bnd_some hF
              have J14 : ∀ (H : Heap) (locs : List Loc) (ls : Array Slot), va_P D classes (wld ct ad G y11.2) H → va_D A (wld ct ad G y11.2) → va_S A s.heap H locs → lv_has ls 6 [(5, .int x13), (4, .int y8), (3, .int y3.1), (0, .ref (ad a)), (1, .int p0), (2, .int p1)] → W p l e (headSpec wuX5_oneLevel ({ frames := 2, cells := 0, slots := 0, locals := 51 })).room s m ([.ref (ad a), .int p0, .int p1] : List Value).toArray below meth c H locs 0 0 (MQ below (va_Qi (fun (q : Int32) (_ : Unit) => q = y.2) (fun _ t => kE D ct ad G A y.1 t) A) ([.ref (ad a), .int p0, .int p1] : List Value).toArray s 0 0 A) (F0 m 146 ls [.int y14, .int x13]) := by
                intro H locs ls hP hD hS hl
                refine lv_iadd hx hb dX5_oneLevel_146 ?_
                obtain ⟨x15, ex15, hF⟩ := ltt_some hF
                refine lv_topi (fun zx15 ezx15 => ?_)
                obtain rfl : x15 = zx15 := ex15.trans ezx15.symm
                refine lv_istore (lv' := [(5, .int x15), (4, .int y8), (3, .int y3.1), (0, .ref (ad a)), (1, .int p0), (2, .int p1)]) hx hb dX5_oneLevel_147 hl (by decide) rfl (fun ls hl => ?_)
                refine lv_iload hx hb dX5_oneLevel_149 (lv_at hl 0 rfl) ?_
                refine lv_iconst (v := (1 : Int32)) hx hb dX5_oneLevel_151 (by decide) ?_
                refine lv_iand hx hb dX5_oneLevel_152 ?_
                obtain ⟨x16, ex16, hF⟩ := ltt_some hF
                refine lv_topi (fun zx16 ezx16 => ?_)
                obtain rfl : x16 = zx16 := ex16.trans ezx16.symm
                obtain ⟨y17, hy17, hF⟩ := bnd_some hF
                have J17 : ∀ (H : Heap) (locs : List Loc) (ls : Array Slot), va_P D classes (wld ct ad G y11.2) H → va_D A (wld ct ad G y11.2) → va_S A s.heap H locs → lv_has ls 6 [(5, .int x15), (4, .int y8), (3, .int y3.1), (0, .ref (ad a)), (1, .int p0), (2, .int p1)] → W p l e (headSpec wuX5_oneLevel ({ frames := 2, cells := 0, slots := 0, locals := 51 })).room s m ([.ref (ad a), .int p0, .int p1] : List Value).toArray below meth c H locs 0 0 (MQ below (va_Qi (fun (q : Int32) (_ : Unit) => q = y.2) (fun _ t => kE D ct ad G A y.1 t) A) ([.ref (ad a), .int p0, .int p1] : List Value).toArray s 0 0 A) (F0 m 172 ls [.int y17]) := by
                  intro H locs ls hP hD hS hl
                  obtain rfl := Option.some.inj hF
                  exact W.iret (v := y17) hx hb hr (fun t ht hW => ⟨⟨_, (), rfl, rfl, ⟨by rw [ht]; exact hP, va_K.moved hW.alike hK, hD⟩⟩, hS.F ht⟩) hS.2.2 dX5_oneLevel_172
                clear hF
                have hF := hy17
                clear hy17
                refine lv_if_ne (tgt := 165) hx hb dX5_oneLevel_153 (by decide) (fun c18 => ?_) (fun c18 => ?_)
                · rw [if_neg c18] at hF
                  refine lv_iload hx hb dX5_oneLevel_165 (lv_at hl 0 rfl) ?_
                  refine lv_iconst (v := (1 : Int32)) hx hb dX5_oneLevel_167 (by decide) ?_
                  refine lv_iadd hx hb dX5_oneLevel_168 ?_
                  obtain ⟨x19, ex19, hF⟩ := ltt_some hF
                  refine lv_topi (fun zx19 ezx19 => ?_)
                  obtain rfl : x19 = zx19 := ex19.trans ezx19.symm
                  refine lv_ineg hx hb dX5_oneLevel_169 ?_
                  obtain ⟨x20, ex20, hF⟩ := ltt_some hF
                  refine lv_topi (fun zx20 ezx20 => ?_)
                  obtain rfl : x20 = zx20 := ex20.trans ezx20.symm
                  refine lv_iconst (v := (2 : Int32)) hx hb dX5_oneLevel_170 (by decide) ?_
                  refine lv_idiv hx hb dX5_oneLevel_171 (by decide) ?_
                  obtain ⟨x21, ex21, hF⟩ := ltt_some hF
                  refine lv_topi (fun zx21 ezx21 => ?_)
                  obtain rfl : x21 = zx21 := ex21.trans ezx21.symm
                  obtain rfl := Option.some.inj hF
                  exact J17 _ _ _ hP hD hS (lv_sub hl [0, 1, 2, 3, 4, 5] rfl)
                · rw [if_pos c18] at hF
                  refine lv_iload hx hb dX5_oneLevel_156 (lv_at hl 0 rfl) ?_
                  refine lv_iconst (v := (2 : Int32)) hx hb dX5_oneLevel_158 (by decide) ?_
                  refine lv_iadd hx hb dX5_oneLevel_159 ?_
                  obtain ⟨x22, ex22, hF⟩ := ltt_some hF
                  refine lv_topi (fun zx22 ezx22 => ?_)
                  obtain rfl : x22 = zx22 := ex22.trans ezx22.symm
                  refine lv_iconst (v := (2 : Int32)) hx hb dX5_oneLevel_160 (by decide) ?_
                  refine lv_idiv hx hb dX5_oneLevel_161 (by decide) ?_
                  obtain ⟨x23, ex23, hF⟩ := ltt_some hF
                  refine lv_topi (fun zx23 ezx23 => ?_)
                  obtain rfl : x23 = zx23 := ex23.trans ezx23.symm
                  refine lv_goto (tgt := 172) hx hb dX5_oneLevel_162 (by decide) ?_
                  obtain rfl := Option.some.inj hF
                  exact J17 _ _ _ hP hD hS (lv_sub hl [0, 1, 2, 3, 4, 5] rfl)
              clear hF
              have hF := hy14
              clear hy14
              refine lv_if_eq (tgt := 145) hx hb dX5_oneLevel_138 (by decide) (fun c24 => ?_) (fun c24 => ?_)
              · rw [if_pos c24] at hF
                refine lv_iconst (v := (0 : Int32)) hx hb dX5_oneLevel_145 (by decide) ?_
                obtain rfl := Option.some.inj hF
                exact J14 _ _ _ hP hD hS (lv_sub hl [0, 1, 2, 3, 4, 5] rfl)
              · rw [if_neg c24] at hF
                refine lv_iconst (v := (2 : Int32)) hx hb dX5_oneLevel_141 (by decide) ?_
                refine lv_goto (tgt := 146) hx hb dX5_oneLevel_142 (by decide) ?_
                obtain rfl := Option.some.inj hF
                exact J14 _ _ _ hP hD hS (lv_sub hl [0, 1, 2, 3, 4, 5] rfl)
            clear hF
            have hF := hy12
            clear hy12
            refine lv_icmp_ne (tgt := 131) hx hb dX5_oneLevel_119 (by decide) (fun c25 => ?_) (fun c25 => ?_)
            · rw [if_neg c25] at hF
              refine lv_iconst (v := (0 : Int32)) hx hb dX5_oneLevel_131 (by decide) ?_
              obtain rfl := Option.some.inj hF
              exact J12 _ _ _ hP hD hS (lv_sub hl [0, 1, 2, 3, 4, 5] rfl)
            · rw [if_pos c25] at hF
              refine lv_iload_n hx hb dX5_oneLevel_122 rfl (lv_at hl 4 rfl) ?_
              obtain ⟨y26, hy26, hF⟩ := bnd_some hF
              have J26 : ∀ (H : Heap) (locs : List Loc) (ls : Array Slot), va_P D classes (wld ct ad G y11.2) H → va_D A (wld ct ad G y11.2) → va_S A s.heap H locs → lv_has ls 6 [(5, .int y11.1), (4, .int y8), (3, .int y3.1), (0, .ref (ad a)), (1, .int p0), (2, .int p1)] → W p l e (headSpec wuX5_oneLevel ({ frames := 2, cells := 0, slots := 0, locals := 51 })).room s m ([.ref (ad a), .int p0, .int p1] : List Value).toArray below meth c H locs 0 0 (MQ below (va_Qi (fun (q : Int32) (_ : Unit) => q = y.2) (fun _ t => kE D ct ad G A y.1 t) A) ([.ref (ad a), .int p0, .int p1] : List Value).toArray s 0 0 A) (F0 m 132 ls [.int y26, .int y11.1]) := by
                intro H locs ls hP hD hS hl
                obtain rfl := Option.some.inj hF
                exact J12 _ _ _ hP hD hS (lv_sub hl [0, 1, 2, 3, 4, 5] rfl)
              clear hF
              have hF := hy26
              clear hy26
              refine lv_if_ne (tgt := 131) hx hb dX5_oneLevel_123 (by decide) (fun c27 => ?_) (fun c27 => ?_)
              · rw [if_neg c27] at hF
                refine lv_iconst (v := (0 : Int32)) hx hb dX5_oneLevel_131 (by decide) ?_
                obtain rfl := Option.some.inj hF
                exact J26 _ _ _ hP hD hS (lv_sub hl [0, 1, 2, 3, 4, 5] rfl)
              · rw [if_pos c27] at hF
                refine lv_bipush (v := (15 : Int32)) hx hb dX5_oneLevel_126 (by decide) ?_
                refine lv_goto (tgt := 132) hx hb dX5_oneLevel_128 (by decide) ?_
                obtain rfl := Option.some.inj hF
                exact J26 _ _ _ hP hD hS (lv_sub hl [0, 1, 2, 3, 4, 5] rfl)
          clear hF
          have hF := hy11
          clear hy11
          refine lv_if_le (tgt := 114) hx hb dX5_oneLevel_98 (by decide) (fun c28 => ?_) (fun c28 => ?_)
          · rw [if_pos c28] at hF
            obtain rfl := Option.some.inj hF
            exact J11 _ _ _ hP hD hS (lv_sub hl [0, 1, 2, 3, 4, 5] rfl)
          · rw [if_neg c28] at hF
            refine lv_iload hx hb dX5_oneLevel_101 (lv_at hl 0 rfl) ?_
            refine lv_aload_n hx hb dX5_oneLevel_103 rfl (lv_at hl 3 rfl) ?_
            refine lv_bipush (v := (14 : Int32)) hx hb dX5_oneLevel_104 (by decide) ?_
            refine lv_iload hx hb dX5_oneLevel_106 (lv_at hl 1 rfl) ?_
            obtain ⟨y29, hy29, hF⟩ := bnd_some hF
            have hf9 := wA_in hD hA9 hS
            refine va_calli (va_runV (As := [.int (14 : Int32), .int y8]) (rest := [.int x10]) ⟨hx, hb, hml, hown, hts⟩ (kX5_fixed l D ct ad Z G y7 H.size a ((14 : Int32)) y8 y29 hc hk hy29) (cwV 2 hts gX5_oneLevel_X5_fixed rfl rfl rfl (by decide +kernel) ⟨Nat.le_of_ble_eq_true rfl, Nat.le_of_ble_eq_true rfl⟩) ⟨fun a U g mk q => by obtain ⟨q0, q1, qP, qK, qD, qZ, qN⟩ := q; exact ⟨q0, q1, qP, va_K.moved (u := U) (U := U.calling g mk a) (Vm.Alike.refl U.vm) qK, qD, sF.moved (u := U) (U := U.calling g mk a) (Vm.Alike.refl U.vm) qZ, nF.same rfl qN⟩, va_recv hK hP (ci := 5) (q0 := a) rfl (wld_o ct ad G y7 hc hk (by decide)), fun U hU hW => ⟨rfl, by rw [hU], by rw [hU]; exact hP, va_K.moved hW.alike hK, hD.weaken (fun _ _ _ _ => trivial), by rw [hU]; exact ((hZ.kept hS.2.1).narrow hf9).moved hW.alike, hN.warm hW⟩⟩ rfl rfl hl.1 rfl (lv_room (Nat.le_of_ble_eq_true rfl)) dX5_oneLevel_108 ⟨(Nat.zero_le _), (Nat.zero_le _)⟩) hS (fun q _ h => hf9 q h) hf9 (fun r u t H locs ht hvm hw hB hz1 hk1 hS => ?_)
            obtain ⟨hP, hK9, hD9⟩ := hB
            rw [ht] at hP
            try dsimp only at hw
            subst hw
            have hD := hD9.weaken (fun _ q _ h => hf9 q.1 h)
            refine lv_iadd hx hb dX5_oneLevel_111 ?_
            obtain ⟨x30, ex30, hF⟩ := ltt_some hF
            refine lv_topi (fun zx30 ezx30 => ?_)
            obtain rfl : x30 = zx30 := ex30.trans ezx30.symm
            refine lv_istore (lv' := [(5, .int x30), (4, .int y8), (3, .int y3.1), (0, .ref (ad a)), (1, .int p0), (2, .int p1)]) hx hb dX5_oneLevel_112 hl (by decide) rfl (fun ls hl => ?_)
            obtain rfl := Option.some.inj hF
            exact J11 _ _ _ hP hD hS (lv_sub hl [0, 1, 2, 3, 4, 5] rfl)
        clear hF
        have hF := hy9
        clear hy9
        refine lv_icmp_ge (tgt := 90) hx hb dX5_oneLevel_83 (by decide) (fun c31 => ?_) (fun c31 => ?_)
        · rw [if_pos c31] at hF
          refine lv_bipush (v := (15 : Int32)) hx hb dX5_oneLevel_90 (by decide) ?_
          obtain rfl := Option.some.inj hF
          exact J9 _ _ _ hP hD hS (lv_sub hl [0, 1, 2, 3, 4] rfl)
        · rw [if_neg c31] at hF
          refine lv_iload_n hx hb dX5_oneLevel_86 rfl (lv_at hl 1 rfl) ?_
          refine lv_goto (tgt := 92) hx hb dX5_oneLevel_87 (by decide) ?_
          obtain rfl := Option.some.inj hF
          exact J9 _ _ _ hP hD hS (lv_sub hl [0, 1, 2, 3, 4] rfl)
      clear hF
      have hF := hy8
      clear hy8
      refine lv_icmp_ne (tgt := 63) hx hb dX5_oneLevel_55 (by decide) (fun c32 => ?_) (fun c32 => ?_)
      · rw [if_neg c32] at hF
        refine lv_iload_n hx hb dX5_oneLevel_63 rfl (lv_at hl 0 rfl) ?_
        refine lv_bipush (v := (14 : Int32)) hx hb dX5_oneLevel_64 (by decide) ?_
        obtain ⟨y33, hy33, hF⟩ := bnd_some hF
        have J33 : ∀ (H : Heap) (locs : List Loc) (ls : Array Slot), va_P D classes (wld ct ad G y7) H → va_D A (wld ct ad G y7) → va_S A s.heap H locs → lv_has ls 6 [(3, .int y3.1), (0, .ref (ad a)), (1, .int p0), (2, .int p1)] → W p l e (headSpec wuX5_oneLevel ({ frames := 2, cells := 0, slots := 0, locals := 51 })).room s m ([.ref (ad a), .int p0, .int p1] : List Value).toArray below meth c H locs 0 0 (MQ below (va_Qi (fun (q : Int32) (_ : Unit) => q = y.2) (fun _ t => kE D ct ad G A y.1 t) A) ([.ref (ad a), .int p0, .int p1] : List Value).toArray s 0 0 A) (F0 m 78 ls [.int y33]) := by
          intro H locs ls hP hD hS hl
          obtain rfl := Option.some.inj hF
          exact J8 _ _ _ hP hD hS (lv_sub hl [0, 1, 2, 3] rfl)
        clear hF
        have hF := hy33
        clear hy33
        refine lv_icmp_ne (tgt := 77) hx hb dX5_oneLevel_66 (by decide) (fun c34 => ?_) (fun c34 => ?_)
        · rw [if_neg c34] at hF
          refine lv_iload_n hx hb dX5_oneLevel_77 rfl (lv_at hl 2 rfl) ?_
          obtain rfl := Option.some.inj hF
          exact J33 _ _ _ hP hD hS (lv_sub hl [0, 1, 2, 3] rfl)
        · rw [if_pos c34] at hF
          refine lv_iload_n hx hb dX5_oneLevel_69 rfl (lv_at hl 2 rfl) ?_
          obtain ⟨y35, hy35, hF⟩ := bnd_some hF
          have J35 : ∀ (H : Heap) (locs : List Loc) (ls : Array Slot), va_P D classes (wld ct ad G y7) H → va_D A (wld ct ad G y7) → va_S A s.heap H locs → lv_has ls 6 [(3, .int y3.1), (0, .ref (ad a)), (1, .int p0), (2, .int p1)] → W p l e (headSpec wuX5_oneLevel ({ frames := 2, cells := 0, slots := 0, locals := 51 })).room s m ([.ref (ad a), .int p0, .int p1] : List Value).toArray below meth c H locs 0 0 (MQ below (va_Qi (fun (q : Int32) (_ : Unit) => q = y.2) (fun _ t => kE D ct ad G A y.1 t) A) ([.ref (ad a), .int p0, .int p1] : List Value).toArray s 0 0 A) (F0 m 78 ls [.int y35]) := by
            intro H locs ls hP hD hS hl
            obtain rfl := Option.some.inj hF
            exact J33 _ _ _ hP hD hS (lv_sub hl [0, 1, 2, 3] rfl)
          clear hF
          have hF := hy35
          clear hy35
          refine lv_if_ne (tgt := 77) hx hb dX5_oneLevel_70 (by decide) (fun c36 => ?_) (fun c36 => ?_)
          · rw [if_neg c36] at hF
            refine lv_iload_n hx hb dX5_oneLevel_77 rfl (lv_at hl 2 rfl) ?_
            obtain rfl := Option.some.inj hF
            exact J35 _ _ _ hP hD hS (lv_sub hl [0, 1, 2, 3] rfl)
          · rw [if_pos c36] at hF
            refine lv_iconst (v := (4 : Int32)) hx hb dX5_oneLevel_73 (by decide) ?_
            refine lv_goto (tgt := 78) hx hb dX5_oneLevel_74 (by decide) ?_
            obtain rfl := Option.some.inj hF
            exact J35 _ _ _ hP hD hS (lv_sub hl [0, 1, 2, 3] rfl)
      · rw [if_pos c32] at hF
        refine lv_bipush (v := (12 : Int32)) hx hb dX5_oneLevel_58 (by decide) ?_
        refine lv_goto (tgt := 78) hx hb dX5_oneLevel_60 (by decide) ?_
        obtain rfl := Option.some.inj hF
        exact J8 _ _ _ hP hD hS (lv_sub hl [0, 1, 2, 3] rfl)
    clear hF
    have hF := hy6
    clear hy6
    refine lv_icmp_le (tgt := 47) hx hb dX5_oneLevel_35 (by decide) (fun c37 => ?_) (fun c37 => ?_)
    · rw [if_pos c37] at hF
      obtain rfl := Option.some.inj hF
      exact J6 _ _ _ hP hD hS (lv_sub hl [0, 1, 2, 3] rfl)
    · rw [if_neg c37] at hF
      refine lv_aload_n hx hb dX5_oneLevel_38 rfl (lv_at hl 1 rfl) ?_
      refine lv_iconst (v := (2 : Int32)) hx hb dX5_oneLevel_39 (by decide) ?_
      refine lv_aload_n hx hb dX5_oneLevel_40 rfl (lv_at hl 1 rfl) ?_
      refine va_get (D := D) (ci := 5) (v := .int (y3.2.1 a 4)) (C := RX5) (T := TX5) (N := 17) hx hb hts (mus hf_X5) hown hK hP a (wld_o ct ad G y3.2 hc hk (by decide)) rfl 4 (by decide) (hts (.fieldLink RX5 60 "VideoSuite$Reader" "begin" "I") (mu mw_292)) (fun _ h9 => h9) rfl dX5_oneLevel_41 ?_
      obtain ⟨x38, ex38, hF⟩ := ltt_some hF
      refine lv_topi (fun zx38 ezx38 => ?_)
      obtain rfl : x38 = zx38 := ex38.trans ezx38.symm
      cases hF
  clear hF
  refine itr_rule (fun (s4 : Int32 × DD) => ∀ (H : Heap) (locs : List Loc) (ls : Array Slot), va_P D classes (wld ct ad G s4.2) H → va_D A (wld ct ad G s4.2) → va_S A s.heap H locs → lv_has ls 6 [(3, .int s4.1), (0, .ref (ad a)), (1, .int p0), (2, .int p1)] → W p l e (headSpec wuX5_oneLevel ({ frames := 2, cells := 0, slots := 0, locals := 51 })).room s m ([.ref (ad a), .int p0, .int p1] : List Value).toArray below meth c H locs 0 0 (MQ below (va_Qi (fun (q : Int32) (_ : Unit) => q = y.2) (fun _ t => kE D ct ad G A y.1 t) A) ([.ref (ad a), .int p0, .int p1] : List Value).toArray s 0 0 A) (F0 m 10 ls [])) ?_ _ _ hy3 _ _ _ hP hD hS (lv_sub hl [0, 1, 2, 3] rfl)
  rintro s4 ⟨z39, hF, hwz39⟩ H locs ls hP hD hS hl
  try dsimp only at hF
  refine lv_iload_n hx hb dX5_oneLevel_10 rfl (lv_at hl 0 rfl) ?_
  refine lv_bipush (v := (16 : Int32)) hx hb dX5_oneLevel_11 (by decide) ?_
  refine lv_icmp_ge (tgt := 32) hx hb dX5_oneLevel_13 (by decide) (fun c40 => ?_) (fun c40 => ?_)
  · rw [if_pos c40] at hF
    obtain rfl := Option.some.inj hF
    subst hwz39
    exact K3 _ _ _ hP hD hS (lv_sub hl [0, 1, 2, 3] rfl)
  · rw [if_neg c40] at hF
    refine lv_aload_n hx hb dX5_oneLevel_16 rfl (lv_at hl 1 rfl) ?_
    refine lv_bipush (v := (13 : Int32)) hx hb dX5_oneLevel_17 (by decide) ?_
    refine lv_iload_n hx hb dX5_oneLevel_19 rfl (lv_at hl 0 rfl) ?_
    obtain ⟨y41, hy41, hF⟩ := bnd_some hF
    have hf9 := wA_in hD hA9 hS
    refine va_calli (va_runV (As := [.int (13 : Int32), .int s4.1]) (rest := []) ⟨hx, hb, hml, hown, hts⟩ (kX5_bit l D ct ad Z G s4.2 H.size a ((13 : Int32)) s4.1 y41 hc hk hy41) (cwV 2 hts gX5_oneLevel_X5_bit rfl rfl rfl (by decide +kernel) ⟨Nat.le_of_ble_eq_true rfl, Nat.le_of_ble_eq_true rfl⟩) ⟨fun a U g mk q => by obtain ⟨q0, q1, qP, qK, qD, qZ, qN⟩ := q; exact ⟨q0, q1, qP, va_K.moved (u := U) (U := U.calling g mk a) (Vm.Alike.refl U.vm) qK, qD, sF.moved (u := U) (U := U.calling g mk a) (Vm.Alike.refl U.vm) qZ, nF.same rfl qN⟩, va_recv hK hP (ci := 5) (q0 := a) rfl (wld_o ct ad G s4.2 hc hk (by decide)), fun U hU hW => ⟨rfl, by rw [hU], by rw [hU]; exact hP, va_K.moved hW.alike hK, hD.weaken (fun _ _ _ _ => trivial), by rw [hU]; exact ((hZ.kept hS.2.1).narrow hf9).moved hW.alike, hN.warm hW⟩⟩ rfl rfl hl.1 rfl (lv_room (Nat.le_of_ble_eq_true rfl)) dX5_oneLevel_20 ⟨(Nat.zero_le _), (Nat.zero_le _)⟩) hS (fun q _ h => hf9 q h) hf9 (fun r u t H locs ht hvm hw hB hz1 hk1 hS => ?_)
    obtain ⟨hP, hK9, hD9⟩ := hB
    rw [ht] at hP
    try dsimp only at hw
    subst hw
    have hD := hD9.weaken (fun _ q _ h => hf9 q.1 h)
    refine lv_if_ne (tgt := 32) hx hb dX5_oneLevel_23 (by decide) (fun c42 => ?_) (fun c42 => ?_)
    · rw [if_neg c42] at hF
      obtain rfl := Option.some.inj hF
      subst hwz39
      exact K3 _ _ _ hP hD hS (lv_sub hl [0, 1, 2, 3] rfl)
    · rw [if_pos c42] at hF
      obtain ⟨x43, ex43, hF⟩ := ltt_some hF
      refine lv_iinc (v := x43) (lv' := [(3, .int x43), (0, .ref (ad a)), (1, .int p0), (2, .int p1)]) hx hb dX5_oneLevel_26 hl (k := 0) rfl (by rw [ex43]; rfl) (by decide) rfl (fun ls hl => ?_)
      refine lv_goto (tgt := 10) hx hb dX5_oneLevel_29 (by decide) ?_
      obtain rfl := Option.some.inj hF
      exact hwz39 _ _ _ hP hD hS (lv_sub hl [0, 1, 2, 3] rfl)
