theorem dX9_entryOf_0 : decode cX9_entryOf 0 = .ok (.iconst 0, 1) := by decide +kernel
theorem dX9_entryOf_1 : decode cX9_entryOf 1 = .ok (.istore_n 2, 1) := by decide +kernel
theorem dX9_entryOf_2 : decode cX9_entryOf 2 = .ok (.iload_n 2, 1) := by decide +kernel
theorem dX9_entryOf_3 : decode cX9_entryOf 3 = .ok (.bipush 8, 2) := by decide +kernel
theorem dX9_entryOf_5 : decode cX9_entryOf 5 = .ok (.if_icmp .ge 33, 3) := by decide +kernel
theorem dX9_entryOf_8 : decode cX9_entryOf 8 = .ok (.aload_n 0, 1) := by decide +kernel
theorem dX9_entryOf_9 : decode cX9_entryOf 9 = .ok (.getfield 11, 3) := by decide +kernel
theorem dX9_entryOf_12 : decode cX9_entryOf 12 = .ok (.iload_n 2, 1) := by decide +kernel
theorem dX9_entryOf_13 : decode cX9_entryOf 13 = .ok (.aaload, 1) := by decide +kernel
theorem dX9_entryOf_14 : decode cX9_entryOf 14 = .ok (.ifnull 18, 3) := by decide +kernel
theorem dX9_entryOf_17 : decode cX9_entryOf 17 = .ok (.aload_n 0, 1) := by decide +kernel
theorem dX9_entryOf_18 : decode cX9_entryOf 18 = .ok (.getfield 11, 3) := by decide +kernel
theorem dX9_entryOf_21 : decode cX9_entryOf 21 = .ok (.iload_n 2, 1) := by decide +kernel
theorem dX9_entryOf_22 : decode cX9_entryOf 22 = .ok (.aaload, 1) := by decide +kernel
theorem dX9_entryOf_23 : decode cX9_entryOf 23 = .ok (.getfield 161, 3) := by decide +kernel
theorem dX9_entryOf_26 : decode cX9_entryOf 26 = .ok (.iload_n 1, 1) := by decide +kernel
theorem dX9_entryOf_27 : decode cX9_entryOf 27 = .ok (.if_icmp .ne 5, 3) := by decide +kernel
theorem dX9_entryOf_30 : decode cX9_entryOf 30 = .ok (.iload_n 2, 1) := by decide +kernel
theorem dX9_entryOf_31 : decode cX9_entryOf 31 = .ok (.ireturn, 1) := by decide +kernel
theorem dX9_entryOf_32 : decode cX9_entryOf 32 = .ok (.iinc 2 1, 3) := by decide +kernel
theorem dX9_entryOf_35 : decode cX9_entryOf 35 = .ok (.goto (-33), 3) := by decide +kernel
theorem dX9_entryOf_38 : decode cX9_entryOf 38 = .ok (.iconst (-1), 1) := by decide +kernel
theorem dX9_entryOf_39 : decode cX9_entryOf 39 = .ok (.ireturn, 1) := by decide +kernel
def FX9_entryOf (G : GG) (M : DD) (a : Nat) (p0 : Int32) : Option (DD × Int32) :=
  bnd (itr (fun (s2 : Int32) => ((if ((8 : Int32)) ≤ s2 then (some (.inr (.inl (s2)))) else
  (dr G 14 ((M.2 a 3)) fun b6 =>
  chk (¬ (s2 < 0 ∨ G.2.2 b6 ≤ s2.toNatClampNeg)) <|
  if ((M.2 b6 s2.toNatClampNeg)) = none then (ltt (s2 + (1 : Int32)) fun x8 =>
  some (.inl (x8))) else
  (chk (¬ (s2 < 0 ∨ G.2.2 b6 ≤ s2.toNatClampNeg)) <|
  dr G 4 ((M.2 b6 s2.toNatClampNeg)) fun b9 =>
  ltt (M.1 b9 0) fun x10 =>
  if x10 = p0 then (some (.inr (.inr (M, s2)))) else
  (ltt (s2 + (1 : Int32)) fun x12 =>
  some (.inl (x12)))))) : Option ((Int32) ⊕ ((Int32) ⊕ (DD × Int32))))) 1000000 ((0 : Int32))) fun (y1 : (Int32) ⊕ (DD × Int32)) =>
  sel y1 (fun (z1k : Int32) =>
  some (M, (-1 : Int32))) fun r9 => some r9
set_option maxHeartbeats 4000000 in
set_option maxRecDepth 100000 in
theorem kX9_entryOf (l : Launch) (D : va_G) (ct : CT) (ad : Nat → Nat) (Z : Nat → Nat) (G : GG) (M : DD) (sz : Nat) (a : Nat) (p0 : Int32) (y : DD × Int32) (hc : a < G.1) (hk : G.2.1 a = 9) (hF : FX9_entryOf G M a p0 = some y) : Met l yX9_entryOf wuX9_entryOf ({ frames := 0, cells := 0, slots := 0, locals := 0 }) (va_Pc [.ref (ad a), .int p0] (kB D ct ad Z G M sz)) (va_Qi (fun (q : Int32) (_ : Unit) => q = y.2) (fun _ t => kE D ct ad G (wA ad G sz) y.1 t) (wA ad G sz)) 0 0 (wA ad G sz) := by
  refine Met.ofW (cc := cX9_entryOf) (maxL := 3) (ret := (some .int)) (by decide) rfl ?_
  intro p e s m args below meth c s₁ B hml hv
  obtain ⟨rfl, hsz, hP, hK, hD0, hZ, hN⟩ := hv
  have hx := B.exec
  have hb := B.bytes
  have hr := B.returns
  have hts := atoms_spec (ws := wuX9_entryOf) B.pre
  have hown : s.vm.findClass RX9 = some m.cls := findClass_of_methodNamed B.named
  have hlocks := B.notSynchronized
  subst hsz
  have hD := wD_self (sz := s.heap.size) hD0
  have hA9 : ∀ q, s.heap.size ≤ q → wA ad G s.heap.size q := fun q h => Or.inr h
  generalize hAe : wA ad G s.heap.size = A at hD hA9 hZ ⊢
  have hS : va_S A s.heap s.heap [] := va_S.rf
  have hl := lv_entry ([.ref (ad a), .int p0]) (n := 3) (Nat.le_of_ble_eq_true rfl)
  rw [lg_entry_eq]
  generalize (lg_sl ([.ref (ad a), .int p0]) ++ List.replicate (3 - (lg_sl ([.ref (ad a), .int p0])).length) Slot.unset).toArray = ls at hl ⊢
  have hl : lv_has ls 3 [(0, .ref (ad a)), (1, .int p0)] := hl
  unfold FX9_entryOf at hF
  refine lv_iconst (v := (0 : Int32)) hx hb dX9_entryOf_0 (by decide) ?_
  refine lv_istore_n (lv' := [(2, .int (0 : Int32)), (0, .ref (ad a)), (1, .int p0)]) hx hb dX9_entryOf_1 rfl hl (by decide) rfl (fun ls hl => ?_)
  obtain ⟨y1, hy1, hF⟩ := bnd_some hF
  have K1 : ∀ z1k : Int32, y1 = .inl z1k → ∀ (H : Heap) (locs : List Loc) (ls : Array Slot), va_P D classes (wld ct ad G M) H → va_D A (wld ct ad G M) → va_S A s.heap H locs → lv_has ls 3 [(2, .int z1k), (0, .ref (ad a)), (1, .int p0)] → W p l e (headSpec wuX9_entryOf ({ frames := 0, cells := 0, slots := 0, locals := 0 })).room s m ([.ref (ad a), .int p0] : List Value).toArray below meth c H locs 0 0 (MQ below (va_Qi (fun (q : Int32) (_ : Unit) => q = y.2) (fun _ t => kE D ct ad G A y.1 t) A) ([.ref (ad a), .int p0] : List Value).toArray s 0 0 A) (F0 m 38 ls []) := by
    intro z1k hz1 H locs ls hP hD hS hl
    have hF := sel_inl (hz1 ▸ hF)
    refine lv_iconst (v := (-1 : Int32)) hx hb dX9_entryOf_38 (by decide) ?_
    obtain rfl := Option.some.inj hF
    exact W.iret (v := (-1 : Int32)) hx hb hr (fun t ht hW => ⟨⟨_, (), rfl, rfl, ⟨by rw [ht]; exact hP, va_K.moved hW.alike hK, hD⟩⟩, hS.F ht⟩) hS.2.2 dX9_entryOf_39
  have hR1 := hF
  clear hF
  refine itr_rule (fun (s2 : Int32) => ∀ (H : Heap) (locs : List Loc) (ls : Array Slot), va_P D classes (wld ct ad G M) H → va_D A (wld ct ad G M) → va_S A s.heap H locs → lv_has ls 3 [(2, .int s2), (0, .ref (ad a)), (1, .int p0)] → W p l e (headSpec wuX9_entryOf ({ frames := 0, cells := 0, slots := 0, locals := 0 })).room s m ([.ref (ad a), .int p0] : List Value).toArray below meth c H locs 0 0 (MQ below (va_Qi (fun (q : Int32) (_ : Unit) => q = y.2) (fun _ t => kE D ct ad G A y.1 t) A) ([.ref (ad a), .int p0] : List Value).toArray s 0 0 A) (F0 m 2 ls [])) ?_ _ _ hy1 _ _ _ hP hD hS (lv_sub hl [0, 1, 2] rfl)
  rintro s2 ⟨z4, hF, hwz4⟩ H locs ls hP hD hS hl
  try dsimp only at hF
  refine lv_iload_n hx hb dX9_entryOf_2 rfl (lv_at hl 0 rfl) ?_
  refine lv_bipush (v := (8 : Int32)) hx hb dX9_entryOf_3 (by decide) ?_
  refine lv_icmp_ge (tgt := 38) hx hb dX9_entryOf_5 (by decide) (fun c5 => ?_) (fun c5 => ?_)
  · rw [if_pos c5] at hF
    obtain rfl := Option.some.inj hF
    exact K1 _ hwz4.symm _ _ _ hP hD hS (lv_sub hl [0, 1, 2] rfl)
  · rw [if_neg c5] at hF
    refine lv_aload_n hx hb dX9_entryOf_8 rfl (lv_at hl 1 rfl) ?_
    refine va_get (D := D) (ci := 9) (v := va_re ad (M.2 a 3)) (C := RX9) (T := TX9) (N := 20) hx hb hts (mus hf_X9) hown hK hP a (wld_o ct ad G M hc hk (by decide)) rfl 3 (by decide) (hts (.fieldLink RX9 11 "VideoSuite$Work" "lists" "[LVideoSuite$Picture;") (mu mw_435)) (fun _ h9 => h9) rfl dX9_entryOf_9 ?_
    refine lv_iload_n hx hb dX9_entryOf_12 rfl (lv_at hl 0 rfl) ?_
    obtain ⟨b6, ho6, hc6, hk6, hF⟩ := dr_some hF
    refine W_st (st' := [.int s2, .ref (ad b6)]) (by rw [va_some ho6]) ?_
    obtain ⟨hvc, hF⟩ := chk_some hF
    refine ld_q hx hb hK hP hc6 hk6 hvc dX9_entryOf_13 ?_
    refine lv_ifnullq (tgt := 32) hx hb dX9_entryOf_14 (by decide) (fun c7 => ?_) (fun c7 => ?_)
    · rw [if_pos c7] at hF
      obtain ⟨x8, ex8, hF⟩ := ltt_some hF
      refine lv_iinc (v := x8) (lv' := [(2, .int x8), (0, .ref (ad a)), (1, .int p0)]) hx hb dX9_entryOf_32 hl (k := 0) rfl (by rw [ex8]; rfl) (by decide) rfl (fun ls hl => ?_)
      refine lv_goto (tgt := 2) hx hb dX9_entryOf_35 (by decide) ?_
      obtain rfl := Option.some.inj hF
      exact hwz4 _ _ _ hP hD hS (lv_sub hl [0, 1, 2] rfl)
    · rw [if_neg c7] at hF
      refine lv_aload_n hx hb dX9_entryOf_17 rfl (lv_at hl 1 rfl) ?_
      refine va_get (D := D) (ci := 9) (v := va_re ad (M.2 a 3)) (C := RX9) (T := TX9) (N := 20) hx hb hts (mus hf_X9) hown hK hP a (wld_o ct ad G M hc hk (by decide)) rfl 3 (by decide) (hts (.fieldLink RX9 11 "VideoSuite$Work" "lists" "[LVideoSuite$Picture;") (mu mw_435)) (fun _ h9 => h9) rfl dX9_entryOf_18 ?_
      refine lv_iload_n hx hb dX9_entryOf_21 rfl (lv_at hl 0 rfl) ?_
      refine W_st (st' := [.int s2, .ref (ad b6)]) (by rw [va_some ho6]) ?_
      obtain ⟨hvc, hF⟩ := chk_some hF
      refine ld_q hx hb hK hP hc6 hk6 hvc dX9_entryOf_22 ?_
      obtain ⟨b9, ho9, hc9, hk9, hF⟩ := dr_some hF
      refine W_st (st' := [.ref (ad b9)]) (by rw [va_some ho9]) ?_
      refine va_get (D := D) (ci := 4) (v := .int (M.1 b9 0)) (C := RX4) (T := TX4) (N := 18) hx hb hts (mus hf_X4) hown hK hP b9 (wld_o ct ad G M hc9 hk9 (by decide)) rfl 0 (by decide) (hts (.fieldLink RX9 161 "VideoSuite$Picture" "id" "I") (mu mw_1419)) (fun _ h9 => h9) rfl dX9_entryOf_23 ?_
      obtain ⟨x10, ex10, hF⟩ := ltt_some hF
      refine lv_topi (fun zx10 ezx10 => ?_)
      obtain rfl : x10 = zx10 := ex10.trans ezx10.symm
      refine lv_iload_n hx hb dX9_entryOf_26 rfl (lv_at hl 2 rfl) ?_
      refine lv_icmp_ne (tgt := 32) hx hb dX9_entryOf_27 (by decide) (fun c11 => ?_) (fun c11 => ?_)
      · rw [if_neg c11] at hF
        obtain ⟨x12, ex12, hF⟩ := ltt_some hF
        refine lv_iinc (v := x12) (lv' := [(2, .int x12), (0, .ref (ad a)), (1, .int p0)]) hx hb dX9_entryOf_32 hl (k := 0) rfl (by rw [ex12]; rfl) (by decide) rfl (fun ls hl => ?_)
        refine lv_goto (tgt := 2) hx hb dX9_entryOf_35 (by decide) ?_
        obtain rfl := Option.some.inj hF
        exact hwz4 _ _ _ hP hD hS (lv_sub hl [0, 1, 2] rfl)
      · rw [if_pos c11] at hF
        refine lv_iload_n hx hb dX9_entryOf_30 rfl (lv_at hl 0 rfl) ?_
        obtain rfl := Option.some.inj hF
        have hF := sel_inr (hwz4 ▸ hR1)
        obtain rfl := Option.some.inj hF
        exact W.iret (v := s2) hx hb hr (fun t ht hW => ⟨⟨_, (), rfl, rfl, ⟨by rw [ht]; exact hP, va_K.moved hW.alike hK, hD⟩⟩, hS.F ht⟩) hS.2.2 dX9_entryOf_31
theorem dX9_init_0 : decode cX9_init 0 = .ok (.aload_n 0, 1) := by decide +kernel
theorem dX9_init_1 : decode cX9_init 1 = .ok (.invokespecial 3, 3) := by decide +kernel
theorem dX9_init_4 : decode cX9_init 4 = .ok (.aload_n 0, 1) := by decide +kernel
theorem dX9_init_5 : decode cX9_init 5 = .ok (.bipush 18, 2) := by decide +kernel
theorem dX9_init_7 : decode cX9_init 7 = .ok (.anewarray 9, 3) := by decide +kernel
theorem dX9_init_10 : decode cX9_init 10 = .ok (.putfield 11, 3) := by decide +kernel
theorem dX9_init_13 : decode cX9_init 13 = .ok (.aload_n 0, 1) := by decide +kernel
theorem dX9_init_14 : decode cX9_init 14 = .ok (.bipush 18, 2) := by decide +kernel
theorem dX9_init_16 : decode cX9_init 16 = .ok (.newarray .int, 2) := by decide +kernel
theorem dX9_init_18 : decode cX9_init 18 = .ok (.putfield 17, 3) := by decide +kernel
theorem dX9_init_21 : decode cX9_init 21 = .ok (.aload_n 0, 1) := by decide +kernel
theorem dX9_init_22 : decode cX9_init 22 = .ok (.bipush 18, 2) := by decide +kernel
theorem dX9_init_24 : decode cX9_init 24 = .ok (.newarray .int, 2) := by decide +kernel
theorem dX9_init_26 : decode cX9_init 26 = .ok (.putfield 21, 3) := by decide +kernel
theorem dX9_init_29 : decode cX9_init 29 = .ok (.aload_n 0, 1) := by decide +kernel
theorem dX9_init_30 : decode cX9_init 30 = .ok (.sipush 256, 3) := by decide +kernel
theorem dX9_init_33 : decode cX9_init 33 = .ok (.newarray .int, 2) := by decide +kernel
theorem dX9_init_35 : decode cX9_init 35 = .ok (.putfield 24, 3) := by decide +kernel
theorem dX9_init_38 : decode cX9_init 38 = .ok (.aload_n 0, 1) := by decide +kernel
theorem dX9_init_39 : decode cX9_init 39 = .ok (.sipush 512, 3) := by decide +kernel
theorem dX9_init_42 : decode cX9_init 42 = .ok (.newarray .int, 2) := by decide +kernel
theorem dX9_init_44 : decode cX9_init 44 = .ok (.putfield 27, 3) := by decide +kernel
theorem dX9_init_47 : decode cX9_init 47 = .ok (.aload_n 0, 1) := by decide +kernel
theorem dX9_init_48 : decode cX9_init 48 = .ok (.sipush 768, 3) := by decide +kernel
theorem dX9_init_51 : decode cX9_init 51 = .ok (.newarray .int, 2) := by decide +kernel
theorem dX9_init_53 : decode cX9_init 53 = .ok (.putfield 30, 3) := by decide +kernel
theorem dX9_init_56 : decode cX9_init 56 = .ok (.aload_n 0, 1) := by decide +kernel
theorem dX9_init_57 : decode cX9_init 57 = .ok (.sipush 13824, 3) := by decide +kernel
theorem dX9_init_60 : decode cX9_init 60 = .ok (.newarray .int, 2) := by decide +kernel
theorem dX9_init_62 : decode cX9_init 62 = .ok (.putfield 33, 3) := by decide +kernel
theorem dX9_init_65 : decode cX9_init 65 = .ok (.aload_n 0, 1) := by decide +kernel
theorem dX9_init_66 : decode cX9_init 66 = .ok (.bipush 96, 2) := by decide +kernel
theorem dX9_init_68 : decode cX9_init 68 = .ok (.newarray .int, 2) := by decide +kernel
theorem dX9_init_70 : decode cX9_init 70 = .ok (.putfield 36, 3) := by decide +kernel
theorem dX9_init_73 : decode cX9_init 73 = .ok (.aload_n 0, 1) := by decide +kernel
theorem dX9_init_74 : decode cX9_init 74 = .ok (.iconst 4, 1) := by decide +kernel
theorem dX9_init_75 : decode cX9_init 75 = .ok (.newarray .int, 2) := by decide +kernel
theorem dX9_init_77 : decode cX9_init 77 = .ok (.putfield 39, 3) := by decide +kernel
theorem dX9_init_80 : decode cX9_init 80 = .ok (.aload_n 0, 1) := by decide +kernel
theorem dX9_init_81 : decode cX9_init 81 = .ok (.bipush 80, 2) := by decide +kernel
theorem dX9_init_83 : decode cX9_init 83 = .ok (.newarray .int, 2) := by decide +kernel
theorem dX9_init_85 : decode cX9_init 85 = .ok (.putfield 42, 3) := by decide +kernel
theorem dX9_init_88 : decode cX9_init 88 = .ok (.aload_n 0, 1) := by decide +kernel
theorem dX9_init_89 : decode cX9_init 89 = .ok (.bipush 16, 2) := by decide +kernel
theorem dX9_init_91 : decode cX9_init 91 = .ok (.newarray .int, 2) := by decide +kernel
theorem dX9_init_93 : decode cX9_init 93 = .ok (.putfield 45, 3) := by decide +kernel
theorem dX9_init_96 : decode cX9_init 96 = .ok (.aload_n 0, 1) := by decide +kernel
theorem dX9_init_97 : decode cX9_init 97 = .ok (.bipush 64, 2) := by decide +kernel
theorem dX9_init_99 : decode cX9_init 99 = .ok (.newarray .int, 2) := by decide +kernel
theorem dX9_init_101 : decode cX9_init 101 = .ok (.putfield 48, 3) := by decide +kernel
theorem dX9_init_104 : decode cX9_init 104 = .ok (.return_, 1) := by decide +kernel
noncomputable def FX9_init (G : GG) (M : DD) (a : Nat)  : Option (NN × DD) :=
  chkP (Clo (xt G []) M) <|
  chk (¬ ((18 : Int32)) < 0 ∧ ((18 : Int32)).toNatClampNeg * 4 ≤ 536870912) <|
  ltt ((xt G []).1) fun c2 =>
  app [(14, ((18 : Int32)).toNatClampNeg)] <|
  ltt ([] ++ [(14, ((18 : Int32)).toNatClampNeg)]) fun L4 =>
  ltt (rO M c2) fun M5 =>
  ltt (uP M5 a 3 (some c2)) fun M8 =>
  chkP (Clo (xt G L4) M8) <|
  chk (¬ ((18 : Int32)) < 0 ∧ ((18 : Int32)).toNatClampNeg * 4 ≤ 536870912) <|
  ltt ((xt G L4).1) fun c10 =>
  app [(13, ((18 : Int32)).toNatClampNeg)] <|
  ltt (L4 ++ [(13, ((18 : Int32)).toNatClampNeg)]) fun L12 =>
  ltt (rO M8 c10) fun M13 =>
  ltt (uP M13 a 4 (some c10)) fun M16 =>
  chkP (Clo (xt G L12) M16) <|
  chk (¬ ((18 : Int32)) < 0 ∧ ((18 : Int32)).toNatClampNeg * 4 ≤ 536870912) <|
  ltt ((xt G L12).1) fun c18 =>
  app [(13, ((18 : Int32)).toNatClampNeg)] <|
  ltt (L12 ++ [(13, ((18 : Int32)).toNatClampNeg)]) fun L20 =>
  ltt (rO M16 c18) fun M21 =>
  ltt (uP M21 a 5 (some c18)) fun M24 =>
  chkP (Clo (xt G L20) M24) <|
  chk (¬ ((256 : Int32)) < 0 ∧ ((256 : Int32)).toNatClampNeg * 4 ≤ 536870912) <|
  ltt ((xt G L20).1) fun c26 =>
  app [(13, ((256 : Int32)).toNatClampNeg)] <|
  ltt (L20 ++ [(13, ((256 : Int32)).toNatClampNeg)]) fun L28 =>
  ltt (rO M24 c26) fun M29 =>
  ltt (uP M29 a 6 (some c26)) fun M32 =>
  chkP (Clo (xt G L28) M32) <|
  chk (¬ ((512 : Int32)) < 0 ∧ ((512 : Int32)).toNatClampNeg * 4 ≤ 536870912) <|
  ltt ((xt G L28).1) fun c34 =>
  app [(13, ((512 : Int32)).toNatClampNeg)] <|
  ltt (L28 ++ [(13, ((512 : Int32)).toNatClampNeg)]) fun L36 =>
  ltt (rO M32 c34) fun M37 =>
  ltt (uP M37 a 7 (some c34)) fun M40 =>
  chkP (Clo (xt G L36) M40) <|
  chk (¬ ((768 : Int32)) < 0 ∧ ((768 : Int32)).toNatClampNeg * 4 ≤ 536870912) <|
  ltt ((xt G L36).1) fun c42 =>
  app [(13, ((768 : Int32)).toNatClampNeg)] <|
  ltt (L36 ++ [(13, ((768 : Int32)).toNatClampNeg)]) fun L44 =>
  ltt (rO M40 c42) fun M45 =>
  ltt (uP M45 a 8 (some c42)) fun M48 =>
  chkP (Clo (xt G L44) M48) <|
  chk (¬ ((13824 : Int32)) < 0 ∧ ((13824 : Int32)).toNatClampNeg * 4 ≤ 536870912) <|
  ltt ((xt G L44).1) fun c50 =>
  app [(13, ((13824 : Int32)).toNatClampNeg)] <|
  ltt (L44 ++ [(13, ((13824 : Int32)).toNatClampNeg)]) fun L52 =>
  ltt (rO M48 c50) fun M53 =>
  ltt (uP M53 a 9 (some c50)) fun M56 =>
  chkP (Clo (xt G L52) M56) <|
  chk (¬ ((96 : Int32)) < 0 ∧ ((96 : Int32)).toNatClampNeg * 4 ≤ 536870912) <|
  ltt ((xt G L52).1) fun c58 =>
  app [(13, ((96 : Int32)).toNatClampNeg)] <|
  ltt (L52 ++ [(13, ((96 : Int32)).toNatClampNeg)]) fun L60 =>
  ltt (rO M56 c58) fun M61 =>
  ltt (uP M61 a 10 (some c58)) fun M64 =>
  chkP (Clo (xt G L60) M64) <|
  chk (¬ ((4 : Int32)) < 0 ∧ ((4 : Int32)).toNatClampNeg * 4 ≤ 536870912) <|
  ltt ((xt G L60).1) fun c66 =>
  app [(13, ((4 : Int32)).toNatClampNeg)] <|
  ltt (L60 ++ [(13, ((4 : Int32)).toNatClampNeg)]) fun L68 =>
  ltt (rO M64 c66) fun M69 =>
  ltt (uP M69 a 12 (some c66)) fun M72 =>
  chkP (Clo (xt G L68) M72) <|
  chk (¬ ((80 : Int32)) < 0 ∧ ((80 : Int32)).toNatClampNeg * 4 ≤ 536870912) <|
  ltt ((xt G L68).1) fun c74 =>
  app [(13, ((80 : Int32)).toNatClampNeg)] <|
  ltt (L68 ++ [(13, ((80 : Int32)).toNatClampNeg)]) fun L76 =>
  ltt (rO M72 c74) fun M77 =>
  ltt (uP M77 a 13 (some c74)) fun M80 =>
  chkP (Clo (xt G L76) M80) <|
  chk (¬ ((16 : Int32)) < 0 ∧ ((16 : Int32)).toNatClampNeg * 4 ≤ 536870912) <|
  ltt ((xt G L76).1) fun c82 =>
  app [(13, ((16 : Int32)).toNatClampNeg)] <|
  ltt (L76 ++ [(13, ((16 : Int32)).toNatClampNeg)]) fun L84 =>
  ltt (rO M80 c82) fun M85 =>
  ltt (uP M85 a 15 (some c82)) fun M88 =>
  chkP (Clo (xt G L84) M88) <|
  chk (¬ ((64 : Int32)) < 0 ∧ ((64 : Int32)).toNatClampNeg * 4 ≤ 536870912) <|
  ltt ((xt G L84).1) fun c90 =>
  app [(13, ((64 : Int32)).toNatClampNeg)] <|
  ltt (L84 ++ [(13, ((64 : Int32)).toNatClampNeg)]) fun L92 =>
  ltt (rO M88 c90) fun M93 =>
  ltt (uP M93 a 17 (some c90)) fun M96 =>
  some ([], M96)
set_option maxHeartbeats 4000000 in
set_option maxRecDepth 100000 in
theorem kX9_init (l : Launch) (D : va_G) (ct : CT) (ad : Nat → Nat) (Z : Nat → Nat) (G : GG) (M : DD) (sz : Nat) (a : Nat)  (y : NN × DD) (hc : a < G.1) (hk : G.2.1 a = 9) (hF : FX9_init G M a  = some y) : Met l yX9_init wuX9_init ({ frames := 1, cells := y.1.length, slots := wt y.1, locals := 20 }) (va_Pc [.ref (ad a)] (kB D ct ad Z G M sz)) (va_Qv (fun (u : Nat → Nat) => agr G.1 ad u) (fun u t => kE D ct u (xt G y.1) (wA ad G sz) y.2 t) (wA ad G sz)) y.1.length (wt y.1) (wA ad G sz) := by
  refine Met.ofW (cc := cX9_init) (maxL := 1) (ret := none) (by decide) rfl ?_
  intro p e s m args below meth c s₁ B hml hv
  obtain ⟨rfl, hsz, hP, hK, hD0, hZ, hN⟩ := hv
  have hx := B.exec
  have hb := B.bytes
  have hr := B.returns
  have hts := atoms_spec (ws := wuX9_init) B.pre
  have hown : s.vm.findClass RX9 = some m.cls := findClass_of_methodNamed B.named
  have hlocks := B.notSynchronized
  have hin : meth.name = "<init>" := (name_of_methodNamed B.named B.method).1
  subst hsz
  have hD := wD_self (sz := s.heap.size) hD0
  have hA9 : ∀ q, s.heap.size ≤ q → wA ad G s.heap.size q := fun q h => Or.inr h
  generalize hAe : wA ad G s.heap.size = A at hD hA9 hZ ⊢
  have hS : va_S A s.heap s.heap [] := va_S.rf
  have hl := lv_entry ([.ref (ad a)]) (n := 1) (Nat.le_of_ble_eq_true rfl)
  rw [lg_entry_eq]
  generalize (lg_sl ([.ref (ad a)]) ++ List.replicate (1 - (lg_sl ([.ref (ad a)])).length) Slot.unset).toArray = ls at hl ⊢
  have hl : lv_has ls 1 [(0, .ref (ad a))] := hl
  unfold FX9_init at hF
  rw [← wld_0 ct ad G M] at hP hD
  have hk := xt_k0 hc hk
  have hc := xt_l0 hc
  have hag := agr_rf G.1 ad
  obtain ⟨w0, hw0⟩ : ∃ z, z = y := ⟨_, rfl⟩
  rw [← hw0] at hF
  have hT : y.1 = [] ++ w0.1 := by rw [hw0]; rfl
  have h2 : y.2 = w0.2 := by rw [hw0]
  have hbl : y.1.length ≤ y.1.length ∧ wt y.1 ≤ wt y.1 := ⟨Nat.le_refl _, Nat.le_refl _⟩
  refine lv_aload_n hx hb dX9_init_0 rfl (lv_at hl 0 rfl) ?_
  refine W.objInit hx hb hown (hts (.methodLink RX9 3 objectInit) (mu mw_417)) (hts (.instanceMethod objectInit) (mu mw_202)) (hts (.code objectInit ⟨#[0xb1]⟩ 1 none) (mu mw_203)) rfl (by rw [hml]; exact hl.1) rfl dX9_init_1 (Nat.le_of_ble_eq_true rfl) (Nat.le_of_ble_eq_true rfl) ?_
  refine W.eq (g2 := F0 m 4 ls []) rfl ?_
  refine lv_aload_n hx hb dX9_init_4 rfl (lv_at hl 0 rfl) ?_
  refine lv_bipush (v := (18 : Int32)) hx hb dX9_init_5 (by decide) ?_
  obtain ⟨hC1, hF⟩ := chkP_some hF
  obtain ⟨hz9, hF⟩ := chk_some hF
  obtain ⟨c2, ec2, hF⟩ := ltt_some hF
  obtain ⟨w3, hF, ew3⟩ := app_some hF
  obtain ⟨L4, eL4, hF⟩ := ltt_some hF
  have hT4 : y.1 = ([] ++ [(14, ((18 : Int32)).toNatClampNeg)]) ++ w3.1 := by rw [hT, ew3]; simp only [List.append_assoc]
  obtain ⟨M5, eM5, hF⟩ := ltt_some hF
  refine new_r hx hb hown (hts (.classLink RX9 9 RX4) (mu mw_418)) (va_AO.use hN.2.1) hK hP hD hS hA9 hz9.1 hz9.2 hC1 (room_1s hT4 hbl) dX9_init_7 (fun ad6 H hn7 hP hD hS => ?_)
  rw [← ec2, ← eL4, ← eM5] at hP hD
  refine W_cs (k := L4.length) (n := wt L4) (by rw [eL4]) (by rw [eL4]) ?_
  refine W_st (st' := [.ref (ad6 c2), .ref (ad a)]) (by rw [ec2]) ?_
  have hT : y.1 = L4 ++ w3.1 := by rw [hT4, eL4]
  have h2 : y.2 = w3.2 := by rw [h2, ew3]
  have hl := lv_sub (l' := [(0, .ref (ad a))]) hl [0] rfl
  have e9 : ([(0, .ref (ad a))] : List (Nat × Value)) = [(0, .ref (ad6 a))] := (by first | rfl | simp only [hn7 a hc])
  rw [e9] at hl
  clear e9
  refine W_st (st' := [.ref (ad6 c2), .ref (ad6 a)]) (by first | rfl | simp only [hn7 a hc]) ?_
  have hk : (xt G L4).2.1 a = 9 := by rw [eL4]; exact xt_k _ hc hk
  have hc : a < (xt G L4).1 := by rw [eL4]; exact xt_l _ hc
  have hag := agr_t (xt_ge _ _) hag hn7
  have hc2 : c2 < (xt G L4).1 := by rw [ec2, eL4]; exact cnt_new _ _ _
  have hk2 : (xt G L4).2.1 c2 = 14 := by rw [ec2, eL4]; exact (kind_new _ _ _ _).1
  refine va_putF (D := D) (ci := 9) (v := va_re ad6 (some c2)) (ty := (.array (.object "VideoSuite$Picture"))) (C := RX9) (T := TX9) (N := 20) hx hb hts (mus hf_X9) tyX9 tyX9_ok nmX9 hown hK hP hD hS a (wld_o ct ad6 (xt G L4) M5 hc hk (by decide)) rfl 3 (by decide) (hts (.fieldLink RX9 11 "VideoSuite$Work" "lists" "[LVideoSuite$Picture;") (mu mw_435)) (fun _ h9 => h9) rfl hin rfl (by decide +kernel) (nar_q ad6 (Or.inr ⟨_, rfl⟩) (some c2)).1 (nar_q ad6 (Or.inr ⟨_, rfl⟩) (some c2)).2 (Nat.le_of_ble_eq_true rfl) dX9_init_10 (fun H locs hP hD hS => ?_)
  obtain ⟨M8, eM8, hF⟩ := ltt_some hF
  rw [set_oP ct ad6 (xt G L4) M5 hc hk (by decide) (by rfl), ← eM8] at hP hD
  refine lv_aload_n hx hb dX9_init_13 rfl (lv_at hl 0 rfl) ?_
  refine lv_bipush (v := (18 : Int32)) hx hb dX9_init_14 (by decide) ?_
  obtain ⟨hC9, hF⟩ := chkP_some hF
  obtain ⟨hz9, hF⟩ := chk_some hF
  obtain ⟨c10, ec10, hF⟩ := ltt_some hF
  obtain ⟨w11, hF, ew11⟩ := app_some hF
  obtain ⟨L12, eL12, hF⟩ := ltt_some hF
  have hT12 : y.1 = (L4 ++ [(13, ((18 : Int32)).toNatClampNeg)]) ++ w11.1 := by rw [hT, ew11]; simp only [List.append_assoc]
  obtain ⟨M13, eM13, hF⟩ := ltt_some hF
  refine new_i hx hb (hts (.arrayClass .int) (mu mw_266)) hK hP hD hS hA9 hz9.1 hz9.2 hC9 (room_1s hT12 hbl) dX9_init_16 (fun ad14 H hn15 hP hD hS => ?_)
  rw [← ec10, ← eL12, ← eM13] at hP hD
  refine W_cs (k := L12.length) (n := wt L12) (by rw [eL12]) (by rw [eL12]) ?_
  refine W_st (st' := [.ref (ad14 c10), .ref (ad6 a)]) (by rw [ec10]) ?_
  have hT : y.1 = L12 ++ w11.1 := by rw [hT12, eL12]
  have h2 : y.2 = w11.2 := by rw [h2, ew11]
  have hl := lv_sub (l' := [(0, .ref (ad6 a))]) hl [0] rfl
  have e9 : ([(0, .ref (ad6 a))] : List (Nat × Value)) = [(0, .ref (ad14 a))] := (by first | rfl | simp only [hn15 a hc])
  rw [e9] at hl
  clear e9
  refine W_st (st' := [.ref (ad14 c10), .ref (ad14 a)]) (by first | rfl | simp only [hn15 a hc]) ?_
  have hk : (xt G L12).2.1 a = 9 := by rw [eL12]; exact xt_k _ hc hk
  have hc : a < (xt G L12).1 := by rw [eL12]; exact xt_l _ hc
  have hk2 : (xt G L12).2.1 c2 = 14 := by rw [eL12]; exact xt_k _ hc2 hk2
  have hc2 : c2 < (xt G L12).1 := by rw [eL12]; exact xt_l _ hc2
  have hag := agr_t (xt_ge _ _) hag hn15
  have hc10 : c10 < (xt G L12).1 := by rw [ec10, eL12]; exact cnt_new _ _ _
  have hk10 : (xt G L12).2.1 c10 = 13 := by rw [ec10, eL12]; exact (kind_new _ _ _ _).1
  refine va_putF (D := D) (ci := 9) (v := va_re ad14 (some c10)) (ty := (.array .int)) (C := RX9) (T := TX9) (N := 20) hx hb hts (mus hf_X9) tyX9 tyX9_ok nmX9 hown hK hP hD hS a (wld_o ct ad14 (xt G L12) M13 hc hk (by decide)) rfl 4 (by decide) (hts (.fieldLink RX9 17 "VideoSuite$Work" "entryThere" "[I") (mu mw_439)) (fun _ h9 => h9) rfl hin rfl (by decide +kernel) (nar_q ad14 (Or.inr ⟨_, rfl⟩) (some c10)).1 (nar_q ad14 (Or.inr ⟨_, rfl⟩) (some c10)).2 (Nat.le_of_ble_eq_true rfl) dX9_init_18 (fun H locs hP hD hS => ?_)
  obtain ⟨M16, eM16, hF⟩ := ltt_some hF
  rw [set_oP ct ad14 (xt G L12) M13 hc hk (by decide) (by rfl), ← eM16] at hP hD
  refine lv_aload_n hx hb dX9_init_21 rfl (lv_at hl 0 rfl) ?_
  refine lv_bipush (v := (18 : Int32)) hx hb dX9_init_22 (by decide) ?_
  obtain ⟨hC17, hF⟩ := chkP_some hF
  obtain ⟨hz9, hF⟩ := chk_some hF
  obtain ⟨c18, ec18, hF⟩ := ltt_some hF
  obtain ⟨w19, hF, ew19⟩ := app_some hF
  obtain ⟨L20, eL20, hF⟩ := ltt_some hF
  have hT20 : y.1 = (L12 ++ [(13, ((18 : Int32)).toNatClampNeg)]) ++ w19.1 := by rw [hT, ew19]; simp only [List.append_assoc]
  obtain ⟨M21, eM21, hF⟩ := ltt_some hF
  refine new_i hx hb (hts (.arrayClass .int) (mu mw_266)) hK hP hD hS hA9 hz9.1 hz9.2 hC17 (room_1s hT20 hbl) dX9_init_24 (fun ad22 H hn23 hP hD hS => ?_)
  rw [← ec18, ← eL20, ← eM21] at hP hD
  refine W_cs (k := L20.length) (n := wt L20) (by rw [eL20]) (by rw [eL20]) ?_
  refine W_st (st' := [.ref (ad22 c18), .ref (ad14 a)]) (by rw [ec18]) ?_
  have hT : y.1 = L20 ++ w19.1 := by rw [hT20, eL20]
  have h2 : y.2 = w19.2 := by rw [h2, ew19]
  have hl := lv_sub (l' := [(0, .ref (ad14 a))]) hl [0] rfl
  have e9 : ([(0, .ref (ad14 a))] : List (Nat × Value)) = [(0, .ref (ad22 a))] := (by first | rfl | simp only [hn23 a hc])
  rw [e9] at hl
  clear e9
  refine W_st (st' := [.ref (ad22 c18), .ref (ad22 a)]) (by first | rfl | simp only [hn23 a hc]) ?_
  have hk : (xt G L20).2.1 a = 9 := by rw [eL20]; exact xt_k _ hc hk
  have hc : a < (xt G L20).1 := by rw [eL20]; exact xt_l _ hc
  have hk2 : (xt G L20).2.1 c2 = 14 := by rw [eL20]; exact xt_k _ hc2 hk2
  have hc2 : c2 < (xt G L20).1 := by rw [eL20]; exact xt_l _ hc2
  have hk10 : (xt G L20).2.1 c10 = 13 := by rw [eL20]; exact xt_k _ hc10 hk10
  have hc10 : c10 < (xt G L20).1 := by rw [eL20]; exact xt_l _ hc10
  have hag := agr_t (xt_ge _ _) hag hn23
  have hc18 : c18 < (xt G L20).1 := by rw [ec18, eL20]; exact cnt_new _ _ _
  have hk18 : (xt G L20).2.1 c18 = 13 := by rw [ec18, eL20]; exact (kind_new _ _ _ _).1
  refine va_putF (D := D) (ci := 9) (v := va_re ad22 (some c18)) (ty := (.array .int)) (C := RX9) (T := TX9) (N := 20) hx hb hts (mus hf_X9) tyX9 tyX9_ok nmX9 hown hK hP hD hS a (wld_o ct ad22 (xt G L20) M21 hc hk (by decide)) rfl 5 (by decide) (hts (.fieldLink RX9 21 "VideoSuite$Work" "entryOrder" "[I") (mu mw_441)) (fun _ h9 => h9) rfl hin rfl (by decide +kernel) (nar_q ad22 (Or.inr ⟨_, rfl⟩) (some c18)).1 (nar_q ad22 (Or.inr ⟨_, rfl⟩) (some c18)).2 (Nat.le_of_ble_eq_true rfl) dX9_init_26 (fun H locs hP hD hS => ?_)
  obtain ⟨M24, eM24, hF⟩ := ltt_some hF
  rw [set_oP ct ad22 (xt G L20) M21 hc hk (by decide) (by rfl), ← eM24] at hP hD
  refine lv_aload_n hx hb dX9_init_29 rfl (lv_at hl 0 rfl) ?_
  refine lv_sipush (v := (256 : Int32)) hx hb dX9_init_30 (by decide) ?_
  obtain ⟨hC25, hF⟩ := chkP_some hF
  obtain ⟨hz9, hF⟩ := chk_some hF
  obtain ⟨c26, ec26, hF⟩ := ltt_some hF
  obtain ⟨w27, hF, ew27⟩ := app_some hF
  obtain ⟨L28, eL28, hF⟩ := ltt_some hF
  have hT28 : y.1 = (L20 ++ [(13, ((256 : Int32)).toNatClampNeg)]) ++ w27.1 := by rw [hT, ew27]; simp only [List.append_assoc]
  obtain ⟨M29, eM29, hF⟩ := ltt_some hF
  refine new_i hx hb (hts (.arrayClass .int) (mu mw_266)) hK hP hD hS hA9 hz9.1 hz9.2 hC25 (room_1s hT28 hbl) dX9_init_33 (fun ad30 H hn31 hP hD hS => ?_)
  rw [← ec26, ← eL28, ← eM29] at hP hD
  refine W_cs (k := L28.length) (n := wt L28) (by rw [eL28]) (by rw [eL28]) ?_
  refine W_st (st' := [.ref (ad30 c26), .ref (ad22 a)]) (by rw [ec26]) ?_
  have hT : y.1 = L28 ++ w27.1 := by rw [hT28, eL28]
  have h2 : y.2 = w27.2 := by rw [h2, ew27]
  have hl := lv_sub (l' := [(0, .ref (ad22 a))]) hl [0] rfl
  have e9 : ([(0, .ref (ad22 a))] : List (Nat × Value)) = [(0, .ref (ad30 a))] := (by first | rfl | simp only [hn31 a hc])
  rw [e9] at hl
  clear e9
  refine W_st (st' := [.ref (ad30 c26), .ref (ad30 a)]) (by first | rfl | simp only [hn31 a hc]) ?_
  have hk : (xt G L28).2.1 a = 9 := by rw [eL28]; exact xt_k _ hc hk
  have hc : a < (xt G L28).1 := by rw [eL28]; exact xt_l _ hc
  have hk2 : (xt G L28).2.1 c2 = 14 := by rw [eL28]; exact xt_k _ hc2 hk2
  have hc2 : c2 < (xt G L28).1 := by rw [eL28]; exact xt_l _ hc2
  have hk10 : (xt G L28).2.1 c10 = 13 := by rw [eL28]; exact xt_k _ hc10 hk10
  have hc10 : c10 < (xt G L28).1 := by rw [eL28]; exact xt_l _ hc10
  have hk18 : (xt G L28).2.1 c18 = 13 := by rw [eL28]; exact xt_k _ hc18 hk18
  have hc18 : c18 < (xt G L28).1 := by rw [eL28]; exact xt_l _ hc18
  have hag := agr_t (xt_ge _ _) hag hn31
  have hc26 : c26 < (xt G L28).1 := by rw [ec26, eL28]; exact cnt_new _ _ _
  have hk26 : (xt G L28).2.1 c26 = 13 := by rw [ec26, eL28]; exact (kind_new _ _ _ _).1
  refine va_putF (D := D) (ci := 9) (v := va_re ad30 (some c26)) (ty := (.array .int)) (C := RX9) (T := TX9) (N := 20) hx hb hts (mus hf_X9) tyX9 tyX9_ok nmX9 hown hK hP hD hS a (wld_o ct ad30 (xt G L28) M29 hc hk (by decide)) rfl 6 (by decide) (hts (.fieldLink RX9 24 "VideoSuite$Work" "info" "[I") (mu mw_442)) (fun _ h9 => h9) rfl hin rfl (by decide +kernel) (nar_q ad30 (Or.inr ⟨_, rfl⟩) (some c26)).1 (nar_q ad30 (Or.inr ⟨_, rfl⟩) (some c26)).2 (Nat.le_of_ble_eq_true rfl) dX9_init_35 (fun H locs hP hD hS => ?_)
  obtain ⟨M32, eM32, hF⟩ := ltt_some hF
  rw [set_oP ct ad30 (xt G L28) M29 hc hk (by decide) (by rfl), ← eM32] at hP hD
  refine lv_aload_n hx hb dX9_init_38 rfl (lv_at hl 0 rfl) ?_
  refine lv_sipush (v := (512 : Int32)) hx hb dX9_init_39 (by decide) ?_
  obtain ⟨hC33, hF⟩ := chkP_some hF
  obtain ⟨hz9, hF⟩ := chk_some hF
  obtain ⟨c34, ec34, hF⟩ := ltt_some hF
  obtain ⟨w35, hF, ew35⟩ := app_some hF
  obtain ⟨L36, eL36, hF⟩ := ltt_some hF
  have hT36 : y.1 = (L28 ++ [(13, ((512 : Int32)).toNatClampNeg)]) ++ w35.1 := by rw [hT, ew35]; simp only [List.append_assoc]
  obtain ⟨M37, eM37, hF⟩ := ltt_some hF
  refine new_i hx hb (hts (.arrayClass .int) (mu mw_266)) hK hP hD hS hA9 hz9.1 hz9.2 hC33 (room_1s hT36 hbl) dX9_init_42 (fun ad38 H hn39 hP hD hS => ?_)
  rw [← ec34, ← eL36, ← eM37] at hP hD
  refine W_cs (k := L36.length) (n := wt L36) (by rw [eL36]) (by rw [eL36]) ?_
  refine W_st (st' := [.ref (ad38 c34), .ref (ad30 a)]) (by rw [ec34]) ?_
  have hT : y.1 = L36 ++ w35.1 := by rw [hT36, eL36]
  have h2 : y.2 = w35.2 := by rw [h2, ew35]
  have hl := lv_sub (l' := [(0, .ref (ad30 a))]) hl [0] rfl
  have e9 : ([(0, .ref (ad30 a))] : List (Nat × Value)) = [(0, .ref (ad38 a))] := (by first | rfl | simp only [hn39 a hc])
  rw [e9] at hl
  clear e9
  refine W_st (st' := [.ref (ad38 c34), .ref (ad38 a)]) (by first | rfl | simp only [hn39 a hc]) ?_
  have hk : (xt G L36).2.1 a = 9 := by rw [eL36]; exact xt_k _ hc hk
  have hc : a < (xt G L36).1 := by rw [eL36]; exact xt_l _ hc
  have hk2 : (xt G L36).2.1 c2 = 14 := by rw [eL36]; exact xt_k _ hc2 hk2
  have hc2 : c2 < (xt G L36).1 := by rw [eL36]; exact xt_l _ hc2
  have hk10 : (xt G L36).2.1 c10 = 13 := by rw [eL36]; exact xt_k _ hc10 hk10
  have hc10 : c10 < (xt G L36).1 := by rw [eL36]; exact xt_l _ hc10
  have hk18 : (xt G L36).2.1 c18 = 13 := by rw [eL36]; exact xt_k _ hc18 hk18
  have hc18 : c18 < (xt G L36).1 := by rw [eL36]; exact xt_l _ hc18
  have hk26 : (xt G L36).2.1 c26 = 13 := by rw [eL36]; exact xt_k _ hc26 hk26
  have hc26 : c26 < (xt G L36).1 := by rw [eL36]; exact xt_l _ hc26
  have hag := agr_t (xt_ge _ _) hag hn39
  have hc34 : c34 < (xt G L36).1 := by rw [ec34, eL36]; exact cnt_new _ _ _
  have hk34 : (xt G L36).2.1 c34 = 13 := by rw [ec34, eL36]; exact (kind_new _ _ _ _).1
  refine va_putF (D := D) (ci := 9) (v := va_re ad38 (some c34)) (ty := (.array .int)) (C := RX9) (T := TX9) (N := 20) hx hb hts (mus hf_X9) tyX9 tyX9_ok nmX9 hown hK hP hD hS a (wld_o ct ad38 (xt G L36) M37 hc hk (by decide)) rfl 7 (by decide) (hts (.fieldLink RX9 27 "VideoSuite$Work" "mode" "[I") (mu mw_446)) (fun _ h9 => h9) rfl hin rfl (by decide +kernel) (nar_q ad38 (Or.inr ⟨_, rfl⟩) (some c34)).1 (nar_q ad38 (Or.inr ⟨_, rfl⟩) (some c34)).2 (Nat.le_of_ble_eq_true rfl) dX9_init_44 (fun H locs hP hD hS => ?_)
  obtain ⟨M40, eM40, hF⟩ := ltt_some hF
  rw [set_oP ct ad38 (xt G L36) M37 hc hk (by decide) (by rfl), ← eM40] at hP hD
  refine lv_aload_n hx hb dX9_init_47 rfl (lv_at hl 0 rfl) ?_
  refine lv_sipush (v := (768 : Int32)) hx hb dX9_init_48 (by decide) ?_
  obtain ⟨hC41, hF⟩ := chkP_some hF
  obtain ⟨hz9, hF⟩ := chk_some hF
  obtain ⟨c42, ec42, hF⟩ := ltt_some hF
  obtain ⟨w43, hF, ew43⟩ := app_some hF
  obtain ⟨L44, eL44, hF⟩ := ltt_some hF
  have hT44 : y.1 = (L36 ++ [(13, ((768 : Int32)).toNatClampNeg)]) ++ w43.1 := by rw [hT, ew43]; simp only [List.append_assoc]
  obtain ⟨M45, eM45, hF⟩ := ltt_some hF
  refine new_i hx hb (hts (.arrayClass .int) (mu mw_266)) hK hP hD hS hA9 hz9.1 hz9.2 hC41 (room_1s hT44 hbl) dX9_init_51 (fun ad46 H hn47 hP hD hS => ?_)
  rw [← ec42, ← eL44, ← eM45] at hP hD
  refine W_cs (k := L44.length) (n := wt L44) (by rw [eL44]) (by rw [eL44]) ?_
  refine W_st (st' := [.ref (ad46 c42), .ref (ad38 a)]) (by rw [ec42]) ?_
  have hT : y.1 = L44 ++ w43.1 := by rw [hT44, eL44]
  have h2 : y.2 = w43.2 := by rw [h2, ew43]
  have hl := lv_sub (l' := [(0, .ref (ad38 a))]) hl [0] rfl
  have e9 : ([(0, .ref (ad38 a))] : List (Nat × Value)) = [(0, .ref (ad46 a))] := (by first | rfl | simp only [hn47 a hc])
  rw [e9] at hl
  clear e9
  refine W_st (st' := [.ref (ad46 c42), .ref (ad46 a)]) (by first | rfl | simp only [hn47 a hc]) ?_
  have hk : (xt G L44).2.1 a = 9 := by rw [eL44]; exact xt_k _ hc hk
  have hc : a < (xt G L44).1 := by rw [eL44]; exact xt_l _ hc
  have hk2 : (xt G L44).2.1 c2 = 14 := by rw [eL44]; exact xt_k _ hc2 hk2
  have hc2 : c2 < (xt G L44).1 := by rw [eL44]; exact xt_l _ hc2
  have hk10 : (xt G L44).2.1 c10 = 13 := by rw [eL44]; exact xt_k _ hc10 hk10
  have hc10 : c10 < (xt G L44).1 := by rw [eL44]; exact xt_l _ hc10
  have hk18 : (xt G L44).2.1 c18 = 13 := by rw [eL44]; exact xt_k _ hc18 hk18
  have hc18 : c18 < (xt G L44).1 := by rw [eL44]; exact xt_l _ hc18
  have hk26 : (xt G L44).2.1 c26 = 13 := by rw [eL44]; exact xt_k _ hc26 hk26
  have hc26 : c26 < (xt G L44).1 := by rw [eL44]; exact xt_l _ hc26
  have hk34 : (xt G L44).2.1 c34 = 13 := by rw [eL44]; exact xt_k _ hc34 hk34
  have hc34 : c34 < (xt G L44).1 := by rw [eL44]; exact xt_l _ hc34
  have hag := agr_t (xt_ge _ _) hag hn47
  have hc42 : c42 < (xt G L44).1 := by rw [ec42, eL44]; exact cnt_new _ _ _
  have hk42 : (xt G L44).2.1 c42 = 13 := by rw [ec42, eL44]; exact (kind_new _ _ _ _).1
  refine va_putF (D := D) (ci := 9) (v := va_re ad46 (some c42)) (ty := (.array .int)) (C := RX9) (T := TX9) (N := 20) hx hb hts (mus hf_X9) tyX9 tyX9_ok nmX9 hown hK hP hD hS a (wld_o ct ad46 (xt G L44) M45 hc hk (by decide)) rfl 8 (by decide) (hts (.fieldLink RX9 30 "VideoSuite$Work" "total" "[I") (mu mw_449)) (fun _ h9 => h9) rfl hin rfl (by decide +kernel) (nar_q ad46 (Or.inr ⟨_, rfl⟩) (some c42)).1 (nar_q ad46 (Or.inr ⟨_, rfl⟩) (some c42)).2 (Nat.le_of_ble_eq_true rfl) dX9_init_53 (fun H locs hP hD hS => ?_)
  obtain ⟨M48, eM48, hF⟩ := ltt_some hF
  rw [set_oP ct ad46 (xt G L44) M45 hc hk (by decide) (by rfl), ← eM48] at hP hD
  refine lv_aload_n hx hb dX9_init_56 rfl (lv_at hl 0 rfl) ?_
  refine lv_sipush (v := (13824 : Int32)) hx hb dX9_init_57 (by decide) ?_
  obtain ⟨hC49, hF⟩ := chkP_some hF
  obtain ⟨hz9, hF⟩ := chk_some hF
  obtain ⟨c50, ec50, hF⟩ := ltt_some hF
  obtain ⟨w51, hF, ew51⟩ := app_some hF
  obtain ⟨L52, eL52, hF⟩ := ltt_some hF
  have hT52 : y.1 = (L44 ++ [(13, ((13824 : Int32)).toNatClampNeg)]) ++ w51.1 := by rw [hT, ew51]; simp only [List.append_assoc]
  obtain ⟨M53, eM53, hF⟩ := ltt_some hF
  refine new_i hx hb (hts (.arrayClass .int) (mu mw_266)) hK hP hD hS hA9 hz9.1 hz9.2 hC49 (room_1s hT52 hbl) dX9_init_60 (fun ad54 H hn55 hP hD hS => ?_)
  rw [← ec50, ← eL52, ← eM53] at hP hD
  refine W_cs (k := L52.length) (n := wt L52) (by rw [eL52]) (by rw [eL52]) ?_
  refine W_st (st' := [.ref (ad54 c50), .ref (ad46 a)]) (by rw [ec50]) ?_
  have hT : y.1 = L52 ++ w51.1 := by rw [hT52, eL52]
  have h2 : y.2 = w51.2 := by rw [h2, ew51]
  have hl := lv_sub (l' := [(0, .ref (ad46 a))]) hl [0] rfl
  have e9 : ([(0, .ref (ad46 a))] : List (Nat × Value)) = [(0, .ref (ad54 a))] := (by first | rfl | simp only [hn55 a hc])
  rw [e9] at hl
  clear e9
  refine W_st (st' := [.ref (ad54 c50), .ref (ad54 a)]) (by first | rfl | simp only [hn55 a hc]) ?_
  have hk : (xt G L52).2.1 a = 9 := by rw [eL52]; exact xt_k _ hc hk
  have hc : a < (xt G L52).1 := by rw [eL52]; exact xt_l _ hc
  have hk2 : (xt G L52).2.1 c2 = 14 := by rw [eL52]; exact xt_k _ hc2 hk2
  have hc2 : c2 < (xt G L52).1 := by rw [eL52]; exact xt_l _ hc2
  have hk10 : (xt G L52).2.1 c10 = 13 := by rw [eL52]; exact xt_k _ hc10 hk10
  have hc10 : c10 < (xt G L52).1 := by rw [eL52]; exact xt_l _ hc10
  have hk18 : (xt G L52).2.1 c18 = 13 := by rw [eL52]; exact xt_k _ hc18 hk18
  have hc18 : c18 < (xt G L52).1 := by rw [eL52]; exact xt_l _ hc18
  have hk26 : (xt G L52).2.1 c26 = 13 := by rw [eL52]; exact xt_k _ hc26 hk26
  have hc26 : c26 < (xt G L52).1 := by rw [eL52]; exact xt_l _ hc26
  have hk34 : (xt G L52).2.1 c34 = 13 := by rw [eL52]; exact xt_k _ hc34 hk34
  have hc34 : c34 < (xt G L52).1 := by rw [eL52]; exact xt_l _ hc34
  have hk42 : (xt G L52).2.1 c42 = 13 := by rw [eL52]; exact xt_k _ hc42 hk42
  have hc42 : c42 < (xt G L52).1 := by rw [eL52]; exact xt_l _ hc42
  have hag := agr_t (xt_ge _ _) hag hn55
  have hc50 : c50 < (xt G L52).1 := by rw [ec50, eL52]; exact cnt_new _ _ _
  have hk50 : (xt G L52).2.1 c50 = 13 := by rw [ec50, eL52]; exact (kind_new _ _ _ _).1
  refine va_putF (D := D) (ci := 9) (v := va_re ad54 (some c50)) (ty := (.array .int)) (C := RX9) (T := TX9) (N := 20) hx hb hts (mus hf_X9) tyX9 tyX9_ok nmX9 hown hK hP hD hS a (wld_o ct ad54 (xt G L52) M53 hc hk (by decide)) rfl 9 (by decide) (hts (.fieldLink RX9 33 "VideoSuite$Work" "level" "[I") (mu mw_454)) (fun _ h9 => h9) rfl hin rfl (by decide +kernel) (nar_q ad54 (Or.inr ⟨_, rfl⟩) (some c50)).1 (nar_q ad54 (Or.inr ⟨_, rfl⟩) (some c50)).2 (Nat.le_of_ble_eq_true rfl) dX9_init_62 (fun H locs hP hD hS => ?_)
  obtain ⟨M56, eM56, hF⟩ := ltt_some hF
  rw [set_oP ct ad54 (xt G L52) M53 hc hk (by decide) (by rfl), ← eM56] at hP hD
  refine lv_aload_n hx hb dX9_init_65 rfl (lv_at hl 0 rfl) ?_
  refine lv_bipush (v := (96 : Int32)) hx hb dX9_init_66 (by decide) ?_
  obtain ⟨hC57, hF⟩ := chkP_some hF
  obtain ⟨hz9, hF⟩ := chk_some hF
  obtain ⟨c58, ec58, hF⟩ := ltt_some hF
  obtain ⟨w59, hF, ew59⟩ := app_some hF
  obtain ⟨L60, eL60, hF⟩ := ltt_some hF
  have hT60 : y.1 = (L52 ++ [(13, ((96 : Int32)).toNatClampNeg)]) ++ w59.1 := by rw [hT, ew59]; simp only [List.append_assoc]
  obtain ⟨M61, eM61, hF⟩ := ltt_some hF
  refine new_i hx hb (hts (.arrayClass .int) (mu mw_266)) hK hP hD hS hA9 hz9.1 hz9.2 hC57 (room_1s hT60 hbl) dX9_init_68 (fun ad62 H hn63 hP hD hS => ?_)
  rw [← ec58, ← eL60, ← eM61] at hP hD
  refine W_cs (k := L60.length) (n := wt L60) (by rw [eL60]) (by rw [eL60]) ?_
  refine W_st (st' := [.ref (ad62 c58), .ref (ad54 a)]) (by rw [ec58]) ?_
  have hT : y.1 = L60 ++ w59.1 := by rw [hT60, eL60]
  have h2 : y.2 = w59.2 := by rw [h2, ew59]
  have hl := lv_sub (l' := [(0, .ref (ad54 a))]) hl [0] rfl
  have e9 : ([(0, .ref (ad54 a))] : List (Nat × Value)) = [(0, .ref (ad62 a))] := (by first | rfl | simp only [hn63 a hc])
  rw [e9] at hl
  clear e9
  refine W_st (st' := [.ref (ad62 c58), .ref (ad62 a)]) (by first | rfl | simp only [hn63 a hc]) ?_
  have hk : (xt G L60).2.1 a = 9 := by rw [eL60]; exact xt_k _ hc hk
  have hc : a < (xt G L60).1 := by rw [eL60]; exact xt_l _ hc
  have hk2 : (xt G L60).2.1 c2 = 14 := by rw [eL60]; exact xt_k _ hc2 hk2
  have hc2 : c2 < (xt G L60).1 := by rw [eL60]; exact xt_l _ hc2
  have hk10 : (xt G L60).2.1 c10 = 13 := by rw [eL60]; exact xt_k _ hc10 hk10
  have hc10 : c10 < (xt G L60).1 := by rw [eL60]; exact xt_l _ hc10
  have hk18 : (xt G L60).2.1 c18 = 13 := by rw [eL60]; exact xt_k _ hc18 hk18
  have hc18 : c18 < (xt G L60).1 := by rw [eL60]; exact xt_l _ hc18
  have hk26 : (xt G L60).2.1 c26 = 13 := by rw [eL60]; exact xt_k _ hc26 hk26
  have hc26 : c26 < (xt G L60).1 := by rw [eL60]; exact xt_l _ hc26
  have hk34 : (xt G L60).2.1 c34 = 13 := by rw [eL60]; exact xt_k _ hc34 hk34
  have hc34 : c34 < (xt G L60).1 := by rw [eL60]; exact xt_l _ hc34
  have hk42 : (xt G L60).2.1 c42 = 13 := by rw [eL60]; exact xt_k _ hc42 hk42
  have hc42 : c42 < (xt G L60).1 := by rw [eL60]; exact xt_l _ hc42
  have hk50 : (xt G L60).2.1 c50 = 13 := by rw [eL60]; exact xt_k _ hc50 hk50
  have hc50 : c50 < (xt G L60).1 := by rw [eL60]; exact xt_l _ hc50
  have hag := agr_t (xt_ge _ _) hag hn63
  have hc58 : c58 < (xt G L60).1 := by rw [ec58, eL60]; exact cnt_new _ _ _
  have hk58 : (xt G L60).2.1 c58 = 13 := by rw [ec58, eL60]; exact (kind_new _ _ _ _).1
  refine va_putF (D := D) (ci := 9) (v := va_re ad62 (some c58)) (ty := (.array .int)) (C := RX9) (T := TX9) (N := 20) hx hb hts (mus hf_X9) tyX9 tyX9_ok nmX9 hown hK hP hD hS a (wld_o ct ad62 (xt G L60) M61 hc hk (by decide)) rfl 10 (by decide) (hts (.fieldLink RX9 36 "VideoSuite$Work" "rule" "[I") (mu mw_458)) (fun _ h9 => h9) rfl hin rfl (by decide +kernel) (nar_q ad62 (Or.inr ⟨_, rfl⟩) (some c58)).1 (nar_q ad62 (Or.inr ⟨_, rfl⟩) (some c58)).2 (Nat.le_of_ble_eq_true rfl) dX9_init_70 (fun H locs hP hD hS => ?_)
  obtain ⟨M64, eM64, hF⟩ := ltt_some hF
  rw [set_oP ct ad62 (xt G L60) M61 hc hk (by decide) (by rfl), ← eM64] at hP hD
  refine lv_aload_n hx hb dX9_init_73 rfl (lv_at hl 0 rfl) ?_
  refine lv_iconst (v := (4 : Int32)) hx hb dX9_init_74 (by decide) ?_
  obtain ⟨hC65, hF⟩ := chkP_some hF
  obtain ⟨hz9, hF⟩ := chk_some hF
  obtain ⟨c66, ec66, hF⟩ := ltt_some hF
  obtain ⟨w67, hF, ew67⟩ := app_some hF
  obtain ⟨L68, eL68, hF⟩ := ltt_some hF
  have hT68 : y.1 = (L60 ++ [(13, ((4 : Int32)).toNatClampNeg)]) ++ w67.1 := by rw [hT, ew67]; simp only [List.append_assoc]
  obtain ⟨M69, eM69, hF⟩ := ltt_some hF
  refine new_i hx hb (hts (.arrayClass .int) (mu mw_266)) hK hP hD hS hA9 hz9.1 hz9.2 hC65 (room_1s hT68 hbl) dX9_init_75 (fun ad70 H hn71 hP hD hS => ?_)
  rw [← ec66, ← eL68, ← eM69] at hP hD
  refine W_cs (k := L68.length) (n := wt L68) (by rw [eL68]) (by rw [eL68]) ?_
  refine W_st (st' := [.ref (ad70 c66), .ref (ad62 a)]) (by rw [ec66]) ?_
  have hT : y.1 = L68 ++ w67.1 := by rw [hT68, eL68]
  have h2 : y.2 = w67.2 := by rw [h2, ew67]
  have hl := lv_sub (l' := [(0, .ref (ad62 a))]) hl [0] rfl
  have e9 : ([(0, .ref (ad62 a))] : List (Nat × Value)) = [(0, .ref (ad70 a))] := (by first | rfl | simp only [hn71 a hc])
  rw [e9] at hl
  clear e9
  refine W_st (st' := [.ref (ad70 c66), .ref (ad70 a)]) (by first | rfl | simp only [hn71 a hc]) ?_
  have hk : (xt G L68).2.1 a = 9 := by rw [eL68]; exact xt_k _ hc hk
  have hc : a < (xt G L68).1 := by rw [eL68]; exact xt_l _ hc
  have hk2 : (xt G L68).2.1 c2 = 14 := by rw [eL68]; exact xt_k _ hc2 hk2
  have hc2 : c2 < (xt G L68).1 := by rw [eL68]; exact xt_l _ hc2
  have hk10 : (xt G L68).2.1 c10 = 13 := by rw [eL68]; exact xt_k _ hc10 hk10
  have hc10 : c10 < (xt G L68).1 := by rw [eL68]; exact xt_l _ hc10
  have hk18 : (xt G L68).2.1 c18 = 13 := by rw [eL68]; exact xt_k _ hc18 hk18
  have hc18 : c18 < (xt G L68).1 := by rw [eL68]; exact xt_l _ hc18
  have hk26 : (xt G L68).2.1 c26 = 13 := by rw [eL68]; exact xt_k _ hc26 hk26
  have hc26 : c26 < (xt G L68).1 := by rw [eL68]; exact xt_l _ hc26
  have hk34 : (xt G L68).2.1 c34 = 13 := by rw [eL68]; exact xt_k _ hc34 hk34
  have hc34 : c34 < (xt G L68).1 := by rw [eL68]; exact xt_l _ hc34
  have hk42 : (xt G L68).2.1 c42 = 13 := by rw [eL68]; exact xt_k _ hc42 hk42
  have hc42 : c42 < (xt G L68).1 := by rw [eL68]; exact xt_l _ hc42
  have hk50 : (xt G L68).2.1 c50 = 13 := by rw [eL68]; exact xt_k _ hc50 hk50
  have hc50 : c50 < (xt G L68).1 := by rw [eL68]; exact xt_l _ hc50
  have hk58 : (xt G L68).2.1 c58 = 13 := by rw [eL68]; exact xt_k _ hc58 hk58
  have hc58 : c58 < (xt G L68).1 := by rw [eL68]; exact xt_l _ hc58
  have hag := agr_t (xt_ge _ _) hag hn71
  have hc66 : c66 < (xt G L68).1 := by rw [ec66, eL68]; exact cnt_new _ _ _
  have hk66 : (xt G L68).2.1 c66 = 13 := by rw [ec66, eL68]; exact (kind_new _ _ _ _).1
  refine va_putF (D := D) (ci := 9) (v := va_re ad70 (some c66)) (ty := (.array .int)) (C := RX9) (T := TX9) (N := 20) hx hb hts (mus hf_X9) tyX9 tyX9_ok nmX9 hown hK hP hD hS a (wld_o ct ad70 (xt G L68) M69 hc hk (by decide)) rfl 12 (by decide) (hts (.fieldLink RX9 39 "VideoSuite$Work" "sub" "[I") (mu mw_463)) (fun _ h9 => h9) rfl hin rfl (by decide +kernel) (nar_q ad70 (Or.inr ⟨_, rfl⟩) (some c66)).1 (nar_q ad70 (Or.inr ⟨_, rfl⟩) (some c66)).2 (Nat.le_of_ble_eq_true rfl) dX9_init_77 (fun H locs hP hD hS => ?_)
  obtain ⟨M72, eM72, hF⟩ := ltt_some hF
  rw [set_oP ct ad70 (xt G L68) M69 hc hk (by decide) (by rfl), ← eM72] at hP hD
  refine lv_aload_n hx hb dX9_init_80 rfl (lv_at hl 0 rfl) ?_
  refine lv_bipush (v := (80 : Int32)) hx hb dX9_init_81 (by decide) ?_
  obtain ⟨hC73, hF⟩ := chkP_some hF
  obtain ⟨hz9, hF⟩ := chk_some hF
  obtain ⟨c74, ec74, hF⟩ := ltt_some hF
  obtain ⟨w75, hF, ew75⟩ := app_some hF
  obtain ⟨L76, eL76, hF⟩ := ltt_some hF
  have hT76 : y.1 = (L68 ++ [(13, ((80 : Int32)).toNatClampNeg)]) ++ w75.1 := by rw [hT, ew75]; simp only [List.append_assoc]
  obtain ⟨M77, eM77, hF⟩ := ltt_some hF
  refine new_i hx hb (hts (.arrayClass .int) (mu mw_266)) hK hP hD hS hA9 hz9.1 hz9.2 hC73 (room_1s hT76 hbl) dX9_init_83 (fun ad78 H hn79 hP hD hS => ?_)
  rw [← ec74, ← eL76, ← eM77] at hP hD
  refine W_cs (k := L76.length) (n := wt L76) (by rw [eL76]) (by rw [eL76]) ?_
  refine W_st (st' := [.ref (ad78 c74), .ref (ad70 a)]) (by rw [ec74]) ?_
  have hT : y.1 = L76 ++ w75.1 := by rw [hT76, eL76]
  have h2 : y.2 = w75.2 := by rw [h2, ew75]
  have hl := lv_sub (l' := [(0, .ref (ad70 a))]) hl [0] rfl
  have e9 : ([(0, .ref (ad70 a))] : List (Nat × Value)) = [(0, .ref (ad78 a))] := (by first | rfl | simp only [hn79 a hc])
  rw [e9] at hl
  clear e9
  refine W_st (st' := [.ref (ad78 c74), .ref (ad78 a)]) (by first | rfl | simp only [hn79 a hc]) ?_
  have hk : (xt G L76).2.1 a = 9 := by rw [eL76]; exact xt_k _ hc hk
  have hc : a < (xt G L76).1 := by rw [eL76]; exact xt_l _ hc
  have hk2 : (xt G L76).2.1 c2 = 14 := by rw [eL76]; exact xt_k _ hc2 hk2
  have hc2 : c2 < (xt G L76).1 := by rw [eL76]; exact xt_l _ hc2
  have hk10 : (xt G L76).2.1 c10 = 13 := by rw [eL76]; exact xt_k _ hc10 hk10
  have hc10 : c10 < (xt G L76).1 := by rw [eL76]; exact xt_l _ hc10
  have hk18 : (xt G L76).2.1 c18 = 13 := by rw [eL76]; exact xt_k _ hc18 hk18
  have hc18 : c18 < (xt G L76).1 := by rw [eL76]; exact xt_l _ hc18
  have hk26 : (xt G L76).2.1 c26 = 13 := by rw [eL76]; exact xt_k _ hc26 hk26
  have hc26 : c26 < (xt G L76).1 := by rw [eL76]; exact xt_l _ hc26
  have hk34 : (xt G L76).2.1 c34 = 13 := by rw [eL76]; exact xt_k _ hc34 hk34
  have hc34 : c34 < (xt G L76).1 := by rw [eL76]; exact xt_l _ hc34
  have hk42 : (xt G L76).2.1 c42 = 13 := by rw [eL76]; exact xt_k _ hc42 hk42
  have hc42 : c42 < (xt G L76).1 := by rw [eL76]; exact xt_l _ hc42
  have hk50 : (xt G L76).2.1 c50 = 13 := by rw [eL76]; exact xt_k _ hc50 hk50
  have hc50 : c50 < (xt G L76).1 := by rw [eL76]; exact xt_l _ hc50
  have hk58 : (xt G L76).2.1 c58 = 13 := by rw [eL76]; exact xt_k _ hc58 hk58
  have hc58 : c58 < (xt G L76).1 := by rw [eL76]; exact xt_l _ hc58
  have hk66 : (xt G L76).2.1 c66 = 13 := by rw [eL76]; exact xt_k _ hc66 hk66
  have hc66 : c66 < (xt G L76).1 := by rw [eL76]; exact xt_l _ hc66
  have hag := agr_t (xt_ge _ _) hag hn79
  have hc74 : c74 < (xt G L76).1 := by rw [ec74, eL76]; exact cnt_new _ _ _
  have hk74 : (xt G L76).2.1 c74 = 13 := by rw [ec74, eL76]; exact (kind_new _ _ _ _).1
  refine va_putF (D := D) (ci := 9) (v := va_re ad78 (some c74)) (ty := (.array .int)) (C := RX9) (T := TX9) (N := 20) hx hb hts (mus hf_X9) tyX9 tyX9_ok nmX9 hown hK hP hD hS a (wld_o ct ad78 (xt G L76) M77 hc hk (by decide)) rfl 13 (by decide) (hts (.fieldLink RX9 42 "VideoSuite$Work" "part" "[I") (mu mw_466)) (fun _ h9 => h9) rfl hin rfl (by decide +kernel) (nar_q ad78 (Or.inr ⟨_, rfl⟩) (some c74)).1 (nar_q ad78 (Or.inr ⟨_, rfl⟩) (some c74)).2 (Nat.le_of_ble_eq_true rfl) dX9_init_85 (fun H locs hP hD hS => ?_)
  obtain ⟨M80, eM80, hF⟩ := ltt_some hF
  rw [set_oP ct ad78 (xt G L76) M77 hc hk (by decide) (by rfl), ← eM80] at hP hD
  refine lv_aload_n hx hb dX9_init_88 rfl (lv_at hl 0 rfl) ?_
  refine lv_bipush (v := (16 : Int32)) hx hb dX9_init_89 (by decide) ?_
  obtain ⟨hC81, hF⟩ := chkP_some hF
  obtain ⟨hz9, hF⟩ := chk_some hF
  obtain ⟨c82, ec82, hF⟩ := ltt_some hF
  obtain ⟨w83, hF, ew83⟩ := app_some hF
  obtain ⟨L84, eL84, hF⟩ := ltt_some hF
  have hT84 : y.1 = (L76 ++ [(13, ((16 : Int32)).toNatClampNeg)]) ++ w83.1 := by rw [hT, ew83]; simp only [List.append_assoc]
  obtain ⟨M85, eM85, hF⟩ := ltt_some hF
  refine new_i hx hb (hts (.arrayClass .int) (mu mw_266)) hK hP hD hS hA9 hz9.1 hz9.2 hC81 (room_1s hT84 hbl) dX9_init_91 (fun ad86 H hn87 hP hD hS => ?_)
  rw [← ec82, ← eL84, ← eM85] at hP hD
  refine W_cs (k := L84.length) (n := wt L84) (by rw [eL84]) (by rw [eL84]) ?_
  refine W_st (st' := [.ref (ad86 c82), .ref (ad78 a)]) (by rw [ec82]) ?_
  have hT : y.1 = L84 ++ w83.1 := by rw [hT84, eL84]
  have h2 : y.2 = w83.2 := by rw [h2, ew83]
  have hl := lv_sub (l' := [(0, .ref (ad78 a))]) hl [0] rfl
  have e9 : ([(0, .ref (ad78 a))] : List (Nat × Value)) = [(0, .ref (ad86 a))] := (by first | rfl | simp only [hn87 a hc])
  rw [e9] at hl
  clear e9
  refine W_st (st' := [.ref (ad86 c82), .ref (ad86 a)]) (by first | rfl | simp only [hn87 a hc]) ?_
  have hk : (xt G L84).2.1 a = 9 := by rw [eL84]; exact xt_k _ hc hk
  have hc : a < (xt G L84).1 := by rw [eL84]; exact xt_l _ hc
  have hk2 : (xt G L84).2.1 c2 = 14 := by rw [eL84]; exact xt_k _ hc2 hk2
  have hc2 : c2 < (xt G L84).1 := by rw [eL84]; exact xt_l _ hc2
  have hk10 : (xt G L84).2.1 c10 = 13 := by rw [eL84]; exact xt_k _ hc10 hk10
  have hc10 : c10 < (xt G L84).1 := by rw [eL84]; exact xt_l _ hc10
  have hk18 : (xt G L84).2.1 c18 = 13 := by rw [eL84]; exact xt_k _ hc18 hk18
  have hc18 : c18 < (xt G L84).1 := by rw [eL84]; exact xt_l _ hc18
  have hk26 : (xt G L84).2.1 c26 = 13 := by rw [eL84]; exact xt_k _ hc26 hk26
  have hc26 : c26 < (xt G L84).1 := by rw [eL84]; exact xt_l _ hc26
  have hk34 : (xt G L84).2.1 c34 = 13 := by rw [eL84]; exact xt_k _ hc34 hk34
  have hc34 : c34 < (xt G L84).1 := by rw [eL84]; exact xt_l _ hc34
  have hk42 : (xt G L84).2.1 c42 = 13 := by rw [eL84]; exact xt_k _ hc42 hk42
  have hc42 : c42 < (xt G L84).1 := by rw [eL84]; exact xt_l _ hc42
  have hk50 : (xt G L84).2.1 c50 = 13 := by rw [eL84]; exact xt_k _ hc50 hk50
  have hc50 : c50 < (xt G L84).1 := by rw [eL84]; exact xt_l _ hc50
  have hk58 : (xt G L84).2.1 c58 = 13 := by rw [eL84]; exact xt_k _ hc58 hk58
  have hc58 : c58 < (xt G L84).1 := by rw [eL84]; exact xt_l _ hc58
  have hk66 : (xt G L84).2.1 c66 = 13 := by rw [eL84]; exact xt_k _ hc66 hk66
  have hc66 : c66 < (xt G L84).1 := by rw [eL84]; exact xt_l _ hc66
  have hk74 : (xt G L84).2.1 c74 = 13 := by rw [eL84]; exact xt_k _ hc74 hk74
  have hc74 : c74 < (xt G L84).1 := by rw [eL84]; exact xt_l _ hc74
  have hag := agr_t (xt_ge _ _) hag hn87
  have hc82 : c82 < (xt G L84).1 := by rw [ec82, eL84]; exact cnt_new _ _ _
  have hk82 : (xt G L84).2.1 c82 = 13 := by rw [ec82, eL84]; exact (kind_new _ _ _ _).1
  refine va_putF (D := D) (ci := 9) (v := va_re ad86 (some c82)) (ty := (.array .int)) (C := RX9) (T := TX9) (N := 20) hx hb hts (mus hf_X9) tyX9 tyX9_ok nmX9 hown hK hP hD hS a (wld_o ct ad86 (xt G L84) M85 hc hk (by decide)) rfl 15 (by decide) (hts (.fieldLink RX9 45 "VideoSuite$Work" "group" "[I") (mu mw_472)) (fun _ h9 => h9) rfl hin rfl (by decide +kernel) (nar_q ad86 (Or.inr ⟨_, rfl⟩) (some c82)).1 (nar_q ad86 (Or.inr ⟨_, rfl⟩) (some c82)).2 (Nat.le_of_ble_eq_true rfl) dX9_init_93 (fun H locs hP hD hS => ?_)
  obtain ⟨M88, eM88, hF⟩ := ltt_some hF
  rw [set_oP ct ad86 (xt G L84) M85 hc hk (by decide) (by rfl), ← eM88] at hP hD
  refine lv_aload_n hx hb dX9_init_96 rfl (lv_at hl 0 rfl) ?_
  refine lv_bipush (v := (64 : Int32)) hx hb dX9_init_97 (by decide) ?_
  obtain ⟨hC89, hF⟩ := chkP_some hF
  obtain ⟨hz9, hF⟩ := chk_some hF
  obtain ⟨c90, ec90, hF⟩ := ltt_some hF
  obtain ⟨w91, hF, ew91⟩ := app_some hF
  obtain ⟨L92, eL92, hF⟩ := ltt_some hF
  have hT92 : y.1 = (L84 ++ [(13, ((64 : Int32)).toNatClampNeg)]) ++ w91.1 := by rw [hT, ew91]; simp only [List.append_assoc]
  obtain ⟨M93, eM93, hF⟩ := ltt_some hF
  refine new_i hx hb (hts (.arrayClass .int) (mu mw_266)) hK hP hD hS hA9 hz9.1 hz9.2 hC89 (room_1s hT92 hbl) dX9_init_99 (fun ad94 H hn95 hP hD hS => ?_)
  rw [← ec90, ← eL92, ← eM93] at hP hD
  refine W_cs (k := L92.length) (n := wt L92) (by rw [eL92]) (by rw [eL92]) ?_
  refine W_st (st' := [.ref (ad94 c90), .ref (ad86 a)]) (by rw [ec90]) ?_
  have hT : y.1 = L92 ++ w91.1 := by rw [hT92, eL92]
  have h2 : y.2 = w91.2 := by rw [h2, ew91]
  have hl := lv_sub (l' := []) hl [] rfl
  refine W_st (st' := [.ref (ad94 c90), .ref (ad94 a)]) (by first | rfl | simp only [hn95 a hc]) ?_
  have hk : (xt G L92).2.1 a = 9 := by rw [eL92]; exact xt_k _ hc hk
  have hc : a < (xt G L92).1 := by rw [eL92]; exact xt_l _ hc
  have hk2 : (xt G L92).2.1 c2 = 14 := by rw [eL92]; exact xt_k _ hc2 hk2
  have hc2 : c2 < (xt G L92).1 := by rw [eL92]; exact xt_l _ hc2
  have hk10 : (xt G L92).2.1 c10 = 13 := by rw [eL92]; exact xt_k _ hc10 hk10
  have hc10 : c10 < (xt G L92).1 := by rw [eL92]; exact xt_l _ hc10
  have hk18 : (xt G L92).2.1 c18 = 13 := by rw [eL92]; exact xt_k _ hc18 hk18
  have hc18 : c18 < (xt G L92).1 := by rw [eL92]; exact xt_l _ hc18
  have hk26 : (xt G L92).2.1 c26 = 13 := by rw [eL92]; exact xt_k _ hc26 hk26
  have hc26 : c26 < (xt G L92).1 := by rw [eL92]; exact xt_l _ hc26
  have hk34 : (xt G L92).2.1 c34 = 13 := by rw [eL92]; exact xt_k _ hc34 hk34
  have hc34 : c34 < (xt G L92).1 := by rw [eL92]; exact xt_l _ hc34
  have hk42 : (xt G L92).2.1 c42 = 13 := by rw [eL92]; exact xt_k _ hc42 hk42
  have hc42 : c42 < (xt G L92).1 := by rw [eL92]; exact xt_l _ hc42
  have hk50 : (xt G L92).2.1 c50 = 13 := by rw [eL92]; exact xt_k _ hc50 hk50
  have hc50 : c50 < (xt G L92).1 := by rw [eL92]; exact xt_l _ hc50
  have hk58 : (xt G L92).2.1 c58 = 13 := by rw [eL92]; exact xt_k _ hc58 hk58
  have hc58 : c58 < (xt G L92).1 := by rw [eL92]; exact xt_l _ hc58
  have hk66 : (xt G L92).2.1 c66 = 13 := by rw [eL92]; exact xt_k _ hc66 hk66
  have hc66 : c66 < (xt G L92).1 := by rw [eL92]; exact xt_l _ hc66
  have hk74 : (xt G L92).2.1 c74 = 13 := by rw [eL92]; exact xt_k _ hc74 hk74
  have hc74 : c74 < (xt G L92).1 := by rw [eL92]; exact xt_l _ hc74
  have hk82 : (xt G L92).2.1 c82 = 13 := by rw [eL92]; exact xt_k _ hc82 hk82
  have hc82 : c82 < (xt G L92).1 := by rw [eL92]; exact xt_l _ hc82
  have hag := agr_t (xt_ge _ _) hag hn95
  have hc90 : c90 < (xt G L92).1 := by rw [ec90, eL92]; exact cnt_new _ _ _
  have hk90 : (xt G L92).2.1 c90 = 13 := by rw [ec90, eL92]; exact (kind_new _ _ _ _).1
  refine va_putF (D := D) (ci := 9) (v := va_re ad94 (some c90)) (ty := (.array .int)) (C := RX9) (T := TX9) (N := 20) hx hb hts (mus hf_X9) tyX9 tyX9_ok nmX9 hown hK hP hD hS a (wld_o ct ad94 (xt G L92) M93 hc hk (by decide)) rfl 17 (by decide) (hts (.fieldLink RX9 48 "VideoSuite$Work" "difference" "[I") (mu mw_478)) (fun _ h9 => h9) rfl hin rfl (by decide +kernel) (nar_q ad94 (Or.inr ⟨_, rfl⟩) (some c90)).1 (nar_q ad94 (Or.inr ⟨_, rfl⟩) (some c90)).2 (Nat.le_of_ble_eq_true rfl) dX9_init_101 (fun H locs hP hD hS => ?_)
  obtain ⟨M96, eM96, hF⟩ := ltt_some hF
  rw [set_oP ct ad94 (xt G L92) M93 hc hk (by decide) (by rfl), ← eM96] at hP hD
  obtain rfl := Option.some.inj hF
  have e1 : y.1 = L92 := by rw [hT]; exact List.append_nil _
  have e2 : y.2 = M96 := h2
  refine W.widen (k := y.1.length) (n := wt y.1) (Nat.le_of_eq (by rw [e1])) (Nat.le_of_eq (by rw [e1])) ?_
  exact W.vret hx hb hr (fun t ht hW => ⟨⟨ad94, rfl, hag, (by unfold kE; rw [e1, e2]; exact ⟨by rw [ht]; exact hP, va_K.moved hW.alike hK, hD⟩)⟩, hS.F ht⟩) hS.2.2 dX9_init_104
theorem dX9_isAtRest_0 : decode cX9_isAtRest 0 = .ok (.aload_n 0, 1) := by decide +kernel
theorem dX9_isAtRest_1 : decode cX9_isAtRest 1 = .ok (.getfield 51, 3) := by decide +kernel
theorem dX9_isAtRest_4 : decode cX9_isAtRest 4 = .ok (.getfield 83, 3) := by decide +kernel
theorem dX9_isAtRest_7 : decode cX9_isAtRest 7 = .ok (.iload_n 1, 1) := by decide +kernel
theorem dX9_isAtRest_8 : decode cX9_isAtRest 8 = .ok (.iaload, 1) := by decide +kernel
theorem dX9_isAtRest_9 : decode cX9_isAtRest 9 = .ok (.ifCond .ne 37, 3) := by decide +kernel
theorem dX9_isAtRest_12 : decode cX9_isAtRest 12 = .ok (.aload_n 0, 1) := by decide +kernel
theorem dX9_isAtRest_13 : decode cX9_isAtRest 13 = .ok (.getfield 51, 3) := by decide +kernel
theorem dX9_isAtRest_16 : decode cX9_isAtRest 16 = .ok (.getfield 89, 3) := by decide +kernel
theorem dX9_isAtRest_19 : decode cX9_isAtRest 19 = .ok (.iconst 2, 1) := by decide +kernel
theorem dX9_isAtRest_20 : decode cX9_isAtRest 20 = .ok (.iload_n 1, 1) := by decide +kernel
theorem dX9_isAtRest_21 : decode cX9_isAtRest 21 = .ok (.imul, 1) := by decide +kernel
theorem dX9_isAtRest_22 : decode cX9_isAtRest 22 = .ok (.iaload, 1) := by decide +kernel
theorem dX9_isAtRest_23 : decode cX9_isAtRest 23 = .ok (.ifCond .ne 23, 3) := by decide +kernel
theorem dX9_isAtRest_26 : decode cX9_isAtRest 26 = .ok (.aload_n 0, 1) := by decide +kernel
theorem dX9_isAtRest_27 : decode cX9_isAtRest 27 = .ok (.getfield 51, 3) := by decide +kernel
theorem dX9_isAtRest_30 : decode cX9_isAtRest 30 = .ok (.getfield 89, 3) := by decide +kernel
theorem dX9_isAtRest_33 : decode cX9_isAtRest 33 = .ok (.iconst 2, 1) := by decide +kernel
theorem dX9_isAtRest_34 : decode cX9_isAtRest 34 = .ok (.iload_n 1, 1) := by decide +kernel
theorem dX9_isAtRest_35 : decode cX9_isAtRest 35 = .ok (.imul, 1) := by decide +kernel
theorem dX9_isAtRest_36 : decode cX9_isAtRest 36 = .ok (.iconst 1, 1) := by decide +kernel
theorem dX9_isAtRest_37 : decode cX9_isAtRest 37 = .ok (.iadd, 1) := by decide +kernel
theorem dX9_isAtRest_38 : decode cX9_isAtRest 38 = .ok (.iaload, 1) := by decide +kernel
theorem dX9_isAtRest_39 : decode cX9_isAtRest 39 = .ok (.ifCond .ne 7, 3) := by decide +kernel
theorem dX9_isAtRest_42 : decode cX9_isAtRest 42 = .ok (.iconst 1, 1) := by decide +kernel
theorem dX9_isAtRest_43 : decode cX9_isAtRest 43 = .ok (.goto 4, 3) := by decide +kernel
theorem dX9_isAtRest_46 : decode cX9_isAtRest 46 = .ok (.iconst 0, 1) := by decide +kernel
theorem dX9_isAtRest_47 : decode cX9_isAtRest 47 = .ok (.ireturn, 1) := by decide +kernel
def FX9_isAtRest (G : GG) (M : DD) (a : Nat) (p0 : Int32) : Option (DD × Int32) :=
  dr G 4 ((M.2 a 0)) fun b1 =>
  dr G 13 ((M.2 b1 5)) fun b2 =>
  chk (¬ (p0 < 0 ∨ G.2.2 b2 ≤ p0.toNatClampNeg)) <|
  ltt (M.1 b2 p0.toNatClampNeg) fun x3 =>
  bnd (if x3 = ((0 : Int32)) then (ltt ((((2 : Int32)) * p0)) fun x6 =>
  dr G 13 ((M.2 b1 7)) fun b7 =>
  chk (¬ (x6 < 0 ∨ G.2.2 b7 ≤ x6.toNatClampNeg)) <|
  ltt (M.1 b7 x6.toNatClampNeg) fun x8 =>
  bnd (if x8 = ((0 : Int32)) then (ltt ((((2 : Int32)) * p0)) fun x11 =>
  ltt ((x11 + ((1 : Int32)))) fun x12 =>
  chk (¬ (x12 < 0 ∨ G.2.2 b7 ≤ x12.toNatClampNeg)) <|
  ltt (M.1 b7 x12.toNatClampNeg) fun x13 =>
  bnd (if x13 = ((0 : Int32)) then (some ((1 : Int32))) else
  (some ((0 : Int32)))) fun (y14 : Int32) =>
  some (y14)) else
  (some ((0 : Int32)))) fun (y9 : Int32) =>
  some (y9)) else
  (some ((0 : Int32)))) fun (y4 : Int32) =>
  chk (y4 = 0 ∨ y4 = 1) <|
  some (M, y4)
set_option maxHeartbeats 4000000 in
set_option maxRecDepth 100000 in
theorem kX9_isAtRest (l : Launch) (D : va_G) (ct : CT) (ad : Nat → Nat) (Z : Nat → Nat) (G : GG) (M : DD) (sz : Nat) (a : Nat) (p0 : Int32) (y : DD × Int32) (hc : a < G.1) (hk : G.2.1 a = 9) (hF : FX9_isAtRest G M a p0 = some y) : Met l yX9_isAtRest wuX9_isAtRest ({ frames := 0, cells := 0, slots := 0, locals := 0 }) (va_Pc [.ref (ad a), .int p0] (kB D ct ad Z G M sz)) (va_Qi (fun (q : Int32) (_ : Unit) => q = y.2) (fun _ t => kE D ct ad G (wA ad G sz) y.1 t) (wA ad G sz)) 0 0 (wA ad G sz) := by
  refine Met.ofW (cc := cX9_isAtRest) (maxL := 2) (ret := (some .boolean)) (by decide) rfl ?_
  intro p e s m args below meth c s₁ B hml hv
  obtain ⟨rfl, hsz, hP, hK, hD0, hZ, hN⟩ := hv
  have hx := B.exec
  have hb := B.bytes
  have hr := B.returns
  have hts := atoms_spec (ws := wuX9_isAtRest) B.pre
  have hown : s.vm.findClass RX9 = some m.cls := findClass_of_methodNamed B.named
  have hlocks := B.notSynchronized
  subst hsz
  have hD := wD_self (sz := s.heap.size) hD0
  have hA9 : ∀ q, s.heap.size ≤ q → wA ad G s.heap.size q := fun q h => Or.inr h
  generalize hAe : wA ad G s.heap.size = A at hD hA9 hZ ⊢
  have hS : va_S A s.heap s.heap [] := va_S.rf
  have hl := lv_entry ([.ref (ad a), .int p0]) (n := 2) (Nat.le_of_ble_eq_true rfl)
  rw [lg_entry_eq]
  generalize (lg_sl ([.ref (ad a), .int p0]) ++ List.replicate (2 - (lg_sl ([.ref (ad a), .int p0])).length) Slot.unset).toArray = ls at hl ⊢
  have hl : lv_has ls 2 [(0, .ref (ad a)), (1, .int p0)] := hl
  unfold FX9_isAtRest at hF
  refine lv_aload_n hx hb dX9_isAtRest_0 rfl (lv_at hl 0 rfl) ?_
  refine va_get (D := D) (ci := 9) (v := va_re ad (M.2 a 0)) (C := RX9) (T := TX9) (N := 20) hx hb hts (mus hf_X9) hown hK hP a (wld_o ct ad G M hc hk (by decide)) rfl 0 (by decide) (hts (.fieldLink RX9 51 "VideoSuite$Work" "pic" "LVideoSuite$Picture;") (mu mw_422)) (fun _ h9 => h9) rfl dX9_isAtRest_1 ?_
  obtain ⟨b1, ho1, hc1, hk1, hF⟩ := dr_some hF
  refine W_st (st' := [.ref (ad b1)]) (by rw [va_some ho1]) ?_
  refine va_get (D := D) (ci := 4) (v := va_re ad (M.2 b1 5)) (C := RX4) (T := TX4) (N := 18) hx hb hts (mus hf_X4) hown hK hP b1 (wld_o ct ad G M hc1 hk1 (by decide)) rfl 5 (by decide) (hts (.fieldLink RX9 83 "VideoSuite$Picture" "reference" "[I") (mu mw_1439)) (fun _ h9 => h9) rfl dX9_isAtRest_4 ?_
  refine lv_iload_n hx hb dX9_isAtRest_7 rfl (lv_at hl 1 rfl) ?_
  obtain ⟨b2, ho2, hc2, hk2, hF⟩ := dr_some hF
  refine W_st (st' := [.int p0, .ref (ad b2)]) (by rw [va_some ho2]) ?_
  obtain ⟨hvc, hF⟩ := chk_some hF
  refine va_iald hx hb hK hP b2 1 (wld_i ct ad G M hc2 hk2) rfl hvc dX9_isAtRest_8 ?_
  obtain ⟨x3, ex3, hF⟩ := ltt_some hF
  refine lv_topi (fun zx3 ezx3 => ?_)
  obtain rfl : x3 = zx3 := ex3.trans ezx3.symm
  obtain ⟨y4, hy4, hF⟩ := bnd_some hF
  have J4 : ∀ (H : Heap) (locs : List Loc) (ls : Array Slot), va_P D classes (wld ct ad G M) H → va_D A (wld ct ad G M) → va_S A s.heap H locs → lv_has ls 2 [(0, .ref (ad a)), (1, .int p0)] → W p l e (headSpec wuX9_isAtRest ({ frames := 0, cells := 0, slots := 0, locals := 0 })).room s m ([.ref (ad a), .int p0] : List Value).toArray below meth c H locs 0 0 (MQ below (va_Qi (fun (q : Int32) (_ : Unit) => q = y.2) (fun _ t => kE D ct ad G A y.1 t) A) ([.ref (ad a), .int p0] : List Value).toArray s 0 0 A) (F0 m 47 ls [.int y4]) := by
    intro H locs ls hP hD hS hl
    obtain ⟨hz9, hF⟩ := chk_some hF
    obtain rfl := Option.some.inj hF
    exact W.zret (v := y4) (ty := .boolean) hx hb hr (nar_z hz9).1 (fun t ht hW => ⟨⟨_, (), rfl, rfl, ⟨by rw [ht]; exact hP, va_K.moved hW.alike hK, hD⟩⟩, hS.F ht⟩) hS.2.2 dX9_isAtRest_47
  clear hF
  have hF := hy4
  clear hy4
  refine lv_if_ne (tgt := 46) hx hb dX9_isAtRest_9 (by decide) (fun c5 => ?_) (fun c5 => ?_)
  · rw [if_neg c5] at hF
    refine lv_iconst (v := (0 : Int32)) hx hb dX9_isAtRest_46 (by decide) ?_
    obtain rfl := Option.some.inj hF
    exact J4 _ _ _ hP hD hS (lv_sub hl [0, 1] rfl)
  · rw [if_pos c5] at hF
    refine lv_aload_n hx hb dX9_isAtRest_12 rfl (lv_at hl 0 rfl) ?_
    refine va_get (D := D) (ci := 9) (v := va_re ad (M.2 a 0)) (C := RX9) (T := TX9) (N := 20) hx hb hts (mus hf_X9) hown hK hP a (wld_o ct ad G M hc hk (by decide)) rfl 0 (by decide) (hts (.fieldLink RX9 51 "VideoSuite$Work" "pic" "LVideoSuite$Picture;") (mu mw_422)) (fun _ h9 => h9) rfl dX9_isAtRest_13 ?_
    refine W_st (st' := [.ref (ad b1)]) (by rw [va_some ho1]) ?_
    refine va_get (D := D) (ci := 4) (v := va_re ad (M.2 b1 7)) (C := RX4) (T := TX4) (N := 18) hx hb hts (mus hf_X4) hown hK hP b1 (wld_o ct ad G M hc1 hk1 (by decide)) rfl 7 (by decide) (hts (.fieldLink RX9 89 "VideoSuite$Picture" "move" "[I") (mu mw_1447)) (fun _ h9 => h9) rfl dX9_isAtRest_16 ?_
    refine lv_iconst (v := (2 : Int32)) hx hb dX9_isAtRest_19 (by decide) ?_
    refine lv_iload_n hx hb dX9_isAtRest_20 rfl (lv_at hl 1 rfl) ?_
    refine lv_imul hx hb dX9_isAtRest_21 ?_
    obtain ⟨x6, ex6, hF⟩ := ltt_some hF
    refine lv_topi (fun zx6 ezx6 => ?_)
    obtain rfl : x6 = zx6 := ex6.trans ezx6.symm
    obtain ⟨b7, ho7, hc7, hk7, hF⟩ := dr_some hF
    refine W_st (st' := [.int x6, .ref (ad b7)]) (by rw [va_some ho7]) ?_
    obtain ⟨hvc, hF⟩ := chk_some hF
    refine va_iald hx hb hK hP b7 1 (wld_i ct ad G M hc7 hk7) rfl hvc dX9_isAtRest_22 ?_
    obtain ⟨x8, ex8, hF⟩ := ltt_some hF
    refine lv_topi (fun zx8 ezx8 => ?_)
    obtain rfl : x8 = zx8 := ex8.trans ezx8.symm
    obtain ⟨y9, hy9, hF⟩ := bnd_some hF
    have J9 : ∀ (H : Heap) (locs : List Loc) (ls : Array Slot), va_P D classes (wld ct ad G M) H → va_D A (wld ct ad G M) → va_S A s.heap H locs → lv_has ls 2 [(0, .ref (ad a)), (1, .int p0)] → W p l e (headSpec wuX9_isAtRest ({ frames := 0, cells := 0, slots := 0, locals := 0 })).room s m ([.ref (ad a), .int p0] : List Value).toArray below meth c H locs 0 0 (MQ below (va_Qi (fun (q : Int32) (_ : Unit) => q = y.2) (fun _ t => kE D ct ad G A y.1 t) A) ([.ref (ad a), .int p0] : List Value).toArray s 0 0 A) (F0 m 47 ls [.int y9]) := by
      intro H locs ls hP hD hS hl
      obtain rfl := Option.some.inj hF
      exact J4 _ _ _ hP hD hS (lv_sub hl [0, 1] rfl)
    clear hF
    have hF := hy9
    clear hy9
    refine lv_if_ne (tgt := 46) hx hb dX9_isAtRest_23 (by decide) (fun c10 => ?_) (fun c10 => ?_)
    · rw [if_neg c10] at hF
      refine lv_iconst (v := (0 : Int32)) hx hb dX9_isAtRest_46 (by decide) ?_
      obtain rfl := Option.some.inj hF
      exact J9 _ _ _ hP hD hS (lv_sub hl [0, 1] rfl)
    · rw [if_pos c10] at hF
      refine lv_aload_n hx hb dX9_isAtRest_26 rfl (lv_at hl 0 rfl) ?_
      refine va_get (D := D) (ci := 9) (v := va_re ad (M.2 a 0)) (C := RX9) (T := TX9) (N := 20) hx hb hts (mus hf_X9) hown hK hP a (wld_o ct ad G M hc hk (by decide)) rfl 0 (by decide) (hts (.fieldLink RX9 51 "VideoSuite$Work" "pic" "LVideoSuite$Picture;") (mu mw_422)) (fun _ h9 => h9) rfl dX9_isAtRest_27 ?_
      refine W_st (st' := [.ref (ad b1)]) (by rw [va_some ho1]) ?_
      refine va_get (D := D) (ci := 4) (v := va_re ad (M.2 b1 7)) (C := RX4) (T := TX4) (N := 18) hx hb hts (mus hf_X4) hown hK hP b1 (wld_o ct ad G M hc1 hk1 (by decide)) rfl 7 (by decide) (hts (.fieldLink RX9 89 "VideoSuite$Picture" "move" "[I") (mu mw_1447)) (fun _ h9 => h9) rfl dX9_isAtRest_30 ?_
      refine lv_iconst (v := (2 : Int32)) hx hb dX9_isAtRest_33 (by decide) ?_
      refine lv_iload_n hx hb dX9_isAtRest_34 rfl (lv_at hl 1 rfl) ?_
      refine lv_imul hx hb dX9_isAtRest_35 ?_
      obtain ⟨x11, ex11, hF⟩ := ltt_some hF
      refine lv_topi (fun zx11 ezx11 => ?_)
      obtain rfl : x11 = zx11 := ex11.trans ezx11.symm
      refine lv_iconst (v := (1 : Int32)) hx hb dX9_isAtRest_36 (by decide) ?_
      refine lv_iadd hx hb dX9_isAtRest_37 ?_
      obtain ⟨x12, ex12, hF⟩ := ltt_some hF
      refine lv_topi (fun zx12 ezx12 => ?_)
      obtain rfl : x12 = zx12 := ex12.trans ezx12.symm
      refine W_st (st' := [.int x12, .ref (ad b7)]) (by rw [va_some ho7]) ?_
      obtain ⟨hvc, hF⟩ := chk_some hF
      refine va_iald hx hb hK hP b7 1 (wld_i ct ad G M hc7 hk7) rfl hvc dX9_isAtRest_38 ?_
      obtain ⟨x13, ex13, hF⟩ := ltt_some hF
      refine lv_topi (fun zx13 ezx13 => ?_)
      obtain rfl : x13 = zx13 := ex13.trans ezx13.symm
      obtain ⟨y14, hy14, hF⟩ := bnd_some hF
      have J14 : ∀ (H : Heap) (locs : List Loc) (ls : Array Slot), va_P D classes (wld ct ad G M) H → va_D A (wld ct ad G M) → va_S A s.heap H locs → lv_has ls 2 [(0, .ref (ad a)), (1, .int p0)] → W p l e (headSpec wuX9_isAtRest ({ frames := 0, cells := 0, slots := 0, locals := 0 })).room s m ([.ref (ad a), .int p0] : List Value).toArray below meth c H locs 0 0 (MQ below (va_Qi (fun (q : Int32) (_ : Unit) => q = y.2) (fun _ t => kE D ct ad G A y.1 t) A) ([.ref (ad a), .int p0] : List Value).toArray s 0 0 A) (F0 m 47 ls [.int y14]) := by
        intro H locs ls hP hD hS hl
        obtain rfl := Option.some.inj hF
        exact J9 _ _ _ hP hD hS (lv_sub hl [0, 1] rfl)
      clear hF
      have hF := hy14
      clear hy14
      refine lv_if_ne (tgt := 46) hx hb dX9_isAtRest_39 (by decide) (fun c15 => ?_) (fun c15 => ?_)
      · rw [if_neg c15] at hF
        refine lv_iconst (v := (0 : Int32)) hx hb dX9_isAtRest_46 (by decide) ?_
        obtain rfl := Option.some.inj hF
        exact J14 _ _ _ hP hD hS (lv_sub hl [0, 1] rfl)
      · rw [if_pos c15] at hF
        refine lv_iconst (v := (1 : Int32)) hx hb dX9_isAtRest_42 (by decide) ?_
        refine lv_goto (tgt := 47) hx hb dX9_isAtRest_43 (by decide) ?_
        obtain rfl := Option.some.inj hF
        exact J14 _ _ _ hP hD hS (lv_sub hl [0, 1] rfl)
set_option maxRecDepth 20000 in
theorem gX9_isStill_X4_blocks : GoodIn wuX9_isStill (wsV RX9 63 RX4 yX4_blocks wuX4_blocks) := gu_V mw_1882 mw_911 mw_912 mw_185 mw_913
set_option maxRecDepth 20000 in
set_option maxRecDepth 20000 in
theorem gX9_isStill_X4_listOf : GoodIn wuX9_isStill (wsV RX9 216 RX4 yX4_listOf wuX4_listOf) := gu_V mw_1883 mw_1884 mw_1885 mw_185 mw_1886
set_option maxRecDepth 20000 in
set_option maxRecDepth 20000 in
theorem gX9_isStill_X4_at : GoodIn wuX9_isStill (va_wsS RX9 80 yX4_at wuX4_at) := gu_S mw_1795 mw_1796 mw_185 mw_1797
theorem dX9_isStill_0 : decode cX9_isStill 0 = .ok (.bipush 16, 2) := by decide +kernel
theorem dX9_isStill_2 : decode cX9_isStill 2 = .ok (.iload_n 1, 1) := by decide +kernel
theorem dX9_isStill_3 : decode cX9_isStill 3 = .ok (.imul, 1) := by decide +kernel
theorem dX9_isStill_4 : decode cX9_isStill 4 = .ok (.iconst 5, 1) := by decide +kernel
theorem dX9_isStill_5 : decode cX9_isStill 5 = .ok (.iload_n 2, 1) := by decide +kernel
theorem dX9_isStill_6 : decode cX9_isStill 6 = .ok (.imul, 1) := by decide +kernel
theorem dX9_isStill_7 : decode cX9_isStill 7 = .ok (.iadd, 1) := by decide +kernel
theorem dX9_isStill_8 : decode cX9_isStill 8 = .ok (.istore_n 3, 1) := by decide +kernel
theorem dX9_isStill_9 : decode cX9_isStill 9 = .ok (.aload_n 0, 1) := by decide +kernel
theorem dX9_isStill_10 : decode cX9_isStill 10 = .ok (.getfield 213, 3) := by decide +kernel
theorem dX9_isStill_13 : decode cX9_isStill 13 = .ok (.iconst 2, 1) := by decide +kernel
theorem dX9_isStill_14 : decode cX9_isStill 14 = .ok (.if_icmp .eq 19, 3) := by decide +kernel
theorem dX9_isStill_17 : decode cX9_isStill 17 = .ok (.iload_n 1, 1) := by decide +kernel
theorem dX9_isStill_18 : decode cX9_isStill 18 = .ok (.aload_n 0, 1) := by decide +kernel
theorem dX9_isStill_19 : decode cX9_isStill 19 = .ok (.invokevirtual 63, 3) := by decide +kernel
theorem dX9_isStill_22 : decode cX9_isStill 22 = .ok (.if_icmp .ge 11, 3) := by decide +kernel
theorem dX9_isStill_25 : decode cX9_isStill 25 = .ok (.aload_n 0, 1) := by decide +kernel
theorem dX9_isStill_26 : decode cX9_isStill 26 = .ok (.iload_n 3, 1) := by decide +kernel
theorem dX9_isStill_27 : decode cX9_isStill 27 = .ok (.invokevirtual 216, 3) := by decide +kernel
theorem dX9_isStill_30 : decode cX9_isStill 30 = .ok (.ifCond .ge 5, 3) := by decide +kernel
theorem dX9_isStill_33 : decode cX9_isStill 33 = .ok (.iconst 0, 1) := by decide +kernel
theorem dX9_isStill_34 : decode cX9_isStill 34 = .ok (.ireturn, 1) := by decide +kernel
theorem dX9_isStill_35 : decode cX9_isStill 35 = .ok (.aload_n 0, 1) := by decide +kernel
theorem dX9_isStill_36 : decode cX9_isStill 36 = .ok (.iload_n 3, 1) := by decide +kernel
theorem dX9_isStill_37 : decode cX9_isStill 37 = .ok (.invokevirtual 216, 3) := by decide +kernel
theorem dX9_isStill_40 : decode cX9_isStill 40 = .ok (.iload_n 3, 1) := by decide +kernel
theorem dX9_isStill_41 : decode cX9_isStill 41 = .ok (.invokestatic 80, 3) := by decide +kernel
theorem dX9_isStill_44 : decode cX9_isStill 44 = .ok (.istore 4, 2) := by decide +kernel
theorem dX9_isStill_46 : decode cX9_isStill 46 = .ok (.aload_n 0, 1) := by decide +kernel
theorem dX9_isStill_47 : decode cX9_isStill 47 = .ok (.getfield 89, 3) := by decide +kernel
theorem dX9_isStill_50 : decode cX9_isStill 50 = .ok (.iconst 2, 1) := by decide +kernel
theorem dX9_isStill_51 : decode cX9_isStill 51 = .ok (.iload 4, 2) := by decide +kernel
theorem dX9_isStill_53 : decode cX9_isStill 53 = .ok (.imul, 1) := by decide +kernel
theorem dX9_isStill_54 : decode cX9_isStill 54 = .ok (.iaload, 1) := by decide +kernel
theorem dX9_isStill_55 : decode cX9_isStill 55 = .ok (.istore 5, 2) := by decide +kernel
theorem dX9_isStill_57 : decode cX9_isStill 57 = .ok (.aload_n 0, 1) := by decide +kernel
theorem dX9_isStill_58 : decode cX9_isStill 58 = .ok (.getfield 89, 3) := by decide +kernel
theorem dX9_isStill_61 : decode cX9_isStill 61 = .ok (.iconst 2, 1) := by decide +kernel
theorem dX9_isStill_62 : decode cX9_isStill 62 = .ok (.iload 4, 2) := by decide +kernel
theorem dX9_isStill_64 : decode cX9_isStill 64 = .ok (.imul, 1) := by decide +kernel
theorem dX9_isStill_65 : decode cX9_isStill 65 = .ok (.iconst 1, 1) := by decide +kernel
theorem dX9_isStill_66 : decode cX9_isStill 66 = .ok (.iadd, 1) := by decide +kernel
theorem dX9_isStill_67 : decode cX9_isStill 67 = .ok (.iaload, 1) := by decide +kernel
theorem dX9_isStill_68 : decode cX9_isStill 68 = .ok (.istore 6, 2) := by decide +kernel
theorem dX9_isStill_70 : decode cX9_isStill 70 = .ok (.aload_n 0, 1) := by decide +kernel
theorem dX9_isStill_71 : decode cX9_isStill 71 = .ok (.getfield 83, 3) := by decide +kernel
theorem dX9_isStill_74 : decode cX9_isStill 74 = .ok (.iload 4, 2) := by decide +kernel
theorem dX9_isStill_76 : decode cX9_isStill 76 = .ok (.iaload, 1) := by decide +kernel
theorem dX9_isStill_77 : decode cX9_isStill 77 = .ok (.ifCond .ne 31, 3) := by decide +kernel
theorem dX9_isStill_80 : decode cX9_isStill 80 = .ok (.iload 5, 2) := by decide +kernel
theorem dX9_isStill_82 : decode cX9_isStill 82 = .ok (.iconst (-1), 1) := by decide +kernel
theorem dX9_isStill_83 : decode cX9_isStill 83 = .ok (.if_icmp .lt 25, 3) := by decide +kernel
theorem dX9_isStill_86 : decode cX9_isStill 86 = .ok (.iload 5, 2) := by decide +kernel
theorem dX9_isStill_88 : decode cX9_isStill 88 = .ok (.iconst 1, 1) := by decide +kernel
theorem dX9_isStill_89 : decode cX9_isStill 89 = .ok (.if_icmp .gt 19, 3) := by decide +kernel
theorem dX9_isStill_92 : decode cX9_isStill 92 = .ok (.iload 6, 2) := by decide +kernel
theorem dX9_isStill_94 : decode cX9_isStill 94 = .ok (.iconst (-1), 1) := by decide +kernel
theorem dX9_isStill_95 : decode cX9_isStill 95 = .ok (.if_icmp .lt 13, 3) := by decide +kernel
theorem dX9_isStill_98 : decode cX9_isStill 98 = .ok (.iload 6, 2) := by decide +kernel
theorem dX9_isStill_100 : decode cX9_isStill 100 = .ok (.iconst 1, 1) := by decide +kernel
theorem dX9_isStill_101 : decode cX9_isStill 101 = .ok (.if_icmp .gt 7, 3) := by decide +kernel
theorem dX9_isStill_104 : decode cX9_isStill 104 = .ok (.iconst 1, 1) := by decide +kernel
theorem dX9_isStill_105 : decode cX9_isStill 105 = .ok (.goto 4, 3) := by decide +kernel
theorem dX9_isStill_108 : decode cX9_isStill 108 = .ok (.iconst 0, 1) := by decide +kernel
theorem dX9_isStill_109 : decode cX9_isStill 109 = .ok (.ireturn, 1) := by decide +kernel
def FX9_isStill (G : GG) (M : DD) (p0 : Option Nat) (p1 : Int32) (p2 : Int32) : Option (DD × Int32) :=
  ltt ((((16 : Int32)) * p1)) fun x1 =>
  ltt ((((5 : Int32)) * p2)) fun x2 =>
  ltt ((x1 + x2)) fun x3 =>
  dr G 4 p0 fun b4 =>
  ltt (M.1 b4 10) fun x5 =>
  if x5 = ((2 : Int32)) then (chk (((0 : Int32)) = 0 ∨ ((0 : Int32)) = 1) <|
  some (M, (0 : Int32))) else
  (bnd (FX4_blocks G M b4) fun y7 =>
  if y7.2 ≤ p1 then (chk (((0 : Int32)) = 0 ∨ ((0 : Int32)) = 1) <|
  some (y7.1, (0 : Int32))) else
  (bnd (FX4_listOf G y7.1 b4 x3) fun y9 =>
  if ((0 : Int32)) ≤ y9.2 then (bnd (FX4_listOf G y9.1 b4 x3) fun y11 =>
  bnd (FX4_at G y11.1 y11.2 x3) fun y12 =>
  ltt ((((2 : Int32)) * y12.2)) fun x13 =>
  dr G 13 ((y12.1.2 b4 7)) fun b14 =>
  chk (¬ (x13 < 0 ∨ G.2.2 b14 ≤ x13.toNatClampNeg)) <|
  ltt (y12.1.1 b14 x13.toNatClampNeg) fun x15 =>
  ltt ((((2 : Int32)) * y12.2)) fun x16 =>
  ltt ((x16 + ((1 : Int32)))) fun x17 =>
  chk (¬ (x17 < 0 ∨ G.2.2 b14 ≤ x17.toNatClampNeg)) <|
  ltt (y12.1.1 b14 x17.toNatClampNeg) fun x18 =>
  dr G 13 ((y12.1.2 b4 5)) fun b19 =>
  chk (¬ (y12.2 < 0 ∨ G.2.2 b19 ≤ y12.2.toNatClampNeg)) <|
  ltt (y12.1.1 b19 y12.2.toNatClampNeg) fun x20 =>
  bnd (if x20 = ((0 : Int32)) then (bnd (if x15 < ((-1 : Int32)) then (some ((0 : Int32))) else
  (bnd (if ((1 : Int32)) < x15 then (some ((0 : Int32))) else
  (bnd (if x18 < ((-1 : Int32)) then (some ((0 : Int32))) else
  (bnd (if ((1 : Int32)) < x18 then (some ((0 : Int32))) else
  (some ((1 : Int32)))) fun (y29 : Int32) =>
  some (y29))) fun (y27 : Int32) =>
  some (y27))) fun (y25 : Int32) =>
  some (y25))) fun (y23 : Int32) =>
  some (y23)) else
  (some ((0 : Int32)))) fun (y21 : Int32) =>
  chk (y21 = 0 ∨ y21 = 1) <|
  some (y12.1, y21)) else
  (chk (((0 : Int32)) = 0 ∨ ((0 : Int32)) = 1) <|
  some (y9.1, (0 : Int32)))))
set_option maxHeartbeats 4000000 in
set_option maxRecDepth 100000 in
theorem kX9_isStill (l : Launch) (D : va_G) (ct : CT) (ad : Nat → Nat) (Z : Nat → Nat) (G : GG) (M : DD) (sz : Nat) (p0 : Option Nat) (p1 : Int32) (p2 : Int32) (y : DD × Int32) (hF : FX9_isStill G M p0 p1 p2 = some y) : Met l yX9_isStill wuX9_isStill ({ frames := 1, cells := 0, slots := 0, locals := 21 }) (va_Pc [va_re ad p0, .int p1, .int p2] (kB D ct ad Z G M sz)) (va_Qi (fun (q : Int32) (_ : Unit) => q = y.2) (fun _ t => kE D ct ad G (wA ad G sz) y.1 t) (wA ad G sz)) 0 0 (wA ad G sz) := by
  refine Met.ofW (cc := cX9_isStill) (maxL := 7) (ret := (some .boolean)) (by decide) rfl ?_
  intro p e s m args below meth c s₁ B hml hv
  obtain ⟨rfl, hsz, hP, hK, hD0, hZ, hN⟩ := hv
  have hx := B.exec
  have hb := B.bytes
  have hr := B.returns
  have hts := atoms_spec (ws := wuX9_isStill) B.pre
  have hown : s.vm.findClass RX9 = some m.cls := findClass_of_methodNamed B.named
  have hlocks := B.notSynchronized
  subst hsz
  have hD := wD_self (sz := s.heap.size) hD0
  have hA9 : ∀ q, s.heap.size ≤ q → wA ad G s.heap.size q := fun q h => Or.inr h
  generalize hAe : wA ad G s.heap.size = A at hD hA9 hZ ⊢
  have hS : va_S A s.heap s.heap [] := va_S.rf
  have hl := lv_entry ([va_re ad p0, .int p1, .int p2]) (n := 7) (by cases p0 <;> exact Nat.le_of_ble_eq_true rfl)
  rw [lg_entry_eq]
  generalize (lg_sl ([va_re ad p0, .int p1, .int p2]) ++ List.replicate (7 - (lg_sl ([va_re ad p0, .int p1, .int p2])).length) Slot.unset).toArray = ls at hl ⊢
  have hl : lv_has ls 7 [(0, va_re ad p0), (1, .int p1), (2, .int p2)] := by have e9 : lv_args 0 [va_re ad p0, .int p1, .int p2] = [(0, va_re ad p0), (1, .int p1), (2, .int p2)] := (by cases p0 <;> rfl); rw [e9] at hl; exact hl
  unfold FX9_isStill at hF
  refine lv_bipush (v := (16 : Int32)) hx hb dX9_isStill_0 (by decide) ?_
  refine lv_iload_n hx hb dX9_isStill_2 rfl (lv_at hl 1 rfl) ?_
  refine lv_imul hx hb dX9_isStill_3 ?_
  obtain ⟨x1, ex1, hF⟩ := ltt_some hF
  refine lv_topi (fun zx1 ezx1 => ?_)
  obtain rfl : x1 = zx1 := ex1.trans ezx1.symm
  refine lv_iconst (v := (5 : Int32)) hx hb dX9_isStill_4 (by decide) ?_
  refine lv_iload_n hx hb dX9_isStill_5 rfl (lv_at hl 2 rfl) ?_
  refine lv_imul hx hb dX9_isStill_6 ?_
  obtain ⟨x2, ex2, hF⟩ := ltt_some hF
  refine lv_topi (fun zx2 ezx2 => ?_)
  obtain rfl : x2 = zx2 := ex2.trans ezx2.symm
  refine lv_iadd hx hb dX9_isStill_7 ?_
  obtain ⟨x3, ex3, hF⟩ := ltt_some hF
  refine lv_topi (fun zx3 ezx3 => ?_)
  obtain rfl : x3 = zx3 := ex3.trans ezx3.symm
  refine lv_istore_n (lv' := [(3, .int x3), (0, va_re ad p0), (1, .int p1), (2, .int p2)]) hx hb dX9_isStill_8 rfl hl (by decide) rfl (fun ls hl => ?_)
  refine lv_aloadq_n hx hb dX9_isStill_9 rfl (lv_at hl 1 rfl) ?_
  obtain ⟨b4, ho4, hc4, hk4, hF⟩ := dr_some hF
  refine W_st (st' := [.ref (ad b4)]) (by rw [va_some ho4]) ?_
  refine va_get (D := D) (ci := 4) (v := .int (M.1 b4 10)) (C := RX4) (T := TX4) (N := 18) hx hb hts (mus hf_X4) hown hK hP b4 (wld_o ct ad G M hc4 hk4 (by decide)) rfl 10 (by decide) (hts (.fieldLink RX9 213 "VideoSuite$Picture" "use" "I") (mu mw_1462)) (fun _ h9 => h9) rfl dX9_isStill_10 ?_
  obtain ⟨x5, ex5, hF⟩ := ltt_some hF
  refine lv_topi (fun zx5 ezx5 => ?_)
  obtain rfl : x5 = zx5 := ex5.trans ezx5.symm
  refine lv_iconst (v := (2 : Int32)) hx hb dX9_isStill_13 (by decide) ?_
  refine lv_icmp_eq (tgt := 33) hx hb dX9_isStill_14 (by decide) (fun c6 => ?_) (fun c6 => ?_)
  · rw [if_pos c6] at hF
    refine lv_iconst (v := (0 : Int32)) hx hb dX9_isStill_33 (by decide) ?_
    obtain ⟨hz9, hF⟩ := chk_some hF
    obtain rfl := Option.some.inj hF
    exact W.zret (v := (0 : Int32)) (ty := .boolean) hx hb hr (nar_z hz9).1 (fun t ht hW => ⟨⟨_, (), rfl, rfl, ⟨by rw [ht]; exact hP, va_K.moved hW.alike hK, hD⟩⟩, hS.F ht⟩) hS.2.2 dX9_isStill_34
  · rw [if_neg c6] at hF
    refine lv_iload_n hx hb dX9_isStill_17 rfl (lv_at hl 2 rfl) ?_
    refine lv_aloadq_n hx hb dX9_isStill_18 rfl (lv_at hl 1 rfl) ?_
    refine W_st (st' := [.ref (ad b4), .int p1]) (by rw [va_some ho4]) ?_
    obtain ⟨y7, hy7, hF⟩ := bnd_some hF
    have hf9 := wA_in hD hA9 hS
    refine va_calli (va_runV (As := []) (rest := [.int p1]) ⟨hx, hb, hml, hown, hts⟩ (kX4_blocks l D ct ad Z G M s.heap.size b4 y7 hc4 hk4 hy7) (cwV 0 hts gX9_isStill_X4_blocks rfl rfl rfl (by decide +kernel) ⟨Nat.le_of_ble_eq_true rfl, Nat.le_of_ble_eq_true rfl⟩) ⟨fun a U g mk q => by obtain ⟨q0, q1, qP, qK, qD, qZ, qN⟩ := q; exact ⟨q0, q1, qP, va_K.moved (u := U) (U := U.calling g mk a) (Vm.Alike.refl U.vm) qK, qD, sF.moved (u := U) (U := U.calling g mk a) (Vm.Alike.refl U.vm) qZ, nF.same rfl qN⟩, va_recv hK hP (ci := 4) (q0 := b4) rfl (wld_o ct ad G M hc4 hk4 (by decide)), fun U hU hW => ⟨rfl, by rw [hU], by rw [hU]; exact hP, va_K.moved hW.alike hK, hD.weaken (fun _ _ _ _ => trivial), by rw [hU]; exact ((hZ.kept hS.2.1).narrow hf9).moved hW.alike, hN.warm hW⟩⟩ rfl rfl hl.1 rfl (lv_room (Nat.le_of_ble_eq_true rfl)) dX9_isStill_19 ⟨(Nat.zero_le _), (Nat.zero_le _)⟩) hS (fun q _ h => hf9 q h) hf9 (fun r u t H locs ht hvm hw hB hz1 hk1 hS => ?_)
    obtain ⟨hP, hK9, hD9⟩ := hB
    rw [ht] at hP
    try dsimp only at hw
    subst hw
    have hD := hD9.weaken (fun _ q _ h => hf9 q.1 h)
    refine lv_icmp_ge (tgt := 33) hx hb dX9_isStill_22 (by decide) (fun c8 => ?_) (fun c8 => ?_)
    · rw [if_pos c8] at hF
      refine lv_iconst (v := (0 : Int32)) hx hb dX9_isStill_33 (by decide) ?_
      obtain ⟨hz9, hF⟩ := chk_some hF
      obtain rfl := Option.some.inj hF
      exact W.zret (v := (0 : Int32)) (ty := .boolean) hx hb hr (nar_z hz9).1 (fun t ht hW => ⟨⟨_, (), rfl, rfl, ⟨by rw [ht]; exact hP, va_K.moved hW.alike hK, hD⟩⟩, hS.F ht⟩) hS.2.2 dX9_isStill_34
    · rw [if_neg c8] at hF
      refine lv_aloadq_n hx hb dX9_isStill_25 rfl (lv_at hl 1 rfl) ?_
      refine lv_iload_n hx hb dX9_isStill_26 rfl (lv_at hl 0 rfl) ?_
      refine W_st (st' := [.int x3, .ref (ad b4)]) (by rw [va_some ho4]) ?_
      obtain ⟨y9, hy9, hF⟩ := bnd_some hF
      have hf9 := wA_in hD hA9 hS
      refine va_calli (va_runV (As := [.int x3]) (rest := []) ⟨hx, hb, hml, hown, hts⟩ (kX4_listOf l D ct ad Z G y7.1 H.size b4 x3 y9 hc4 hk4 hy9) (cwV 1 hts gX9_isStill_X4_listOf rfl rfl rfl (by decide +kernel) ⟨Nat.le_of_ble_eq_true rfl, Nat.le_of_ble_eq_true rfl⟩) ⟨fun a U g mk q => by obtain ⟨q0, q1, qP, qK, qD, qZ, qN⟩ := q; exact ⟨q0, q1, qP, va_K.moved (u := U) (U := U.calling g mk a) (Vm.Alike.refl U.vm) qK, qD, sF.moved (u := U) (U := U.calling g mk a) (Vm.Alike.refl U.vm) qZ, nF.same rfl qN⟩, va_recv hK hP (ci := 4) (q0 := b4) rfl (wld_o ct ad G y7.1 hc4 hk4 (by decide)), fun U hU hW => ⟨rfl, by rw [hU], by rw [hU]; exact hP, va_K.moved hW.alike hK, hD.weaken (fun _ _ _ _ => trivial), by rw [hU]; exact ((hZ.kept hS.2.1).narrow hf9).moved hW.alike, hN.warm hW⟩⟩ rfl rfl hl.1 rfl (lv_room (Nat.le_of_ble_eq_true rfl)) dX9_isStill_27 ⟨(Nat.zero_le _), (Nat.zero_le _)⟩) hS (fun q _ h => hf9 q h) hf9 (fun r u t H locs ht hvm hw hB hz1 hk1 hS => ?_)
      obtain ⟨hP, hK9, hD9⟩ := hB
      rw [ht] at hP
      try dsimp only at hw
      subst hw
      have hD := hD9.weaken (fun _ q _ h => hf9 q.1 h)
      refine lv_if_ge (tgt := 35) hx hb dX9_isStill_30 (by decide) (fun c10 => ?_) (fun c10 => ?_)
      · rw [if_pos c10] at hF
        refine lv_aloadq_n hx hb dX9_isStill_35 rfl (lv_at hl 1 rfl) ?_
        refine lv_iload_n hx hb dX9_isStill_36 rfl (lv_at hl 0 rfl) ?_
        refine W_st (st' := [.int x3, .ref (ad b4)]) (by rw [va_some ho4]) ?_
        obtain ⟨y11, hy11, hF⟩ := bnd_some hF
        have hf9 := wA_in hD hA9 hS
        refine va_calli (va_runV (As := [.int x3]) (rest := []) ⟨hx, hb, hml, hown, hts⟩ (kX4_listOf l D ct ad Z G y9.1 H.size b4 x3 y11 hc4 hk4 hy11) (cwV 1 hts gX9_isStill_X4_listOf rfl rfl rfl (by decide +kernel) ⟨Nat.le_of_ble_eq_true rfl, Nat.le_of_ble_eq_true rfl⟩) ⟨fun a U g mk q => by obtain ⟨q0, q1, qP, qK, qD, qZ, qN⟩ := q; exact ⟨q0, q1, qP, va_K.moved (u := U) (U := U.calling g mk a) (Vm.Alike.refl U.vm) qK, qD, sF.moved (u := U) (U := U.calling g mk a) (Vm.Alike.refl U.vm) qZ, nF.same rfl qN⟩, va_recv hK hP (ci := 4) (q0 := b4) rfl (wld_o ct ad G y9.1 hc4 hk4 (by decide)), fun U hU hW => ⟨rfl, by rw [hU], by rw [hU]; exact hP, va_K.moved hW.alike hK, hD.weaken (fun _ _ _ _ => trivial), by rw [hU]; exact ((hZ.kept hS.2.1).narrow hf9).moved hW.alike, hN.warm hW⟩⟩ rfl rfl hl.1 rfl (lv_room (Nat.le_of_ble_eq_true rfl)) dX9_isStill_37 ⟨(Nat.zero_le _), (Nat.zero_le _)⟩) hS (fun q _ h => hf9 q h) hf9 (fun r u t H locs ht hvm hw hB hz1 hk1 hS => ?_)
        obtain ⟨hP, hK9, hD9⟩ := hB
        rw [ht] at hP
        try dsimp only at hw
        subst hw
        have hD := hD9.weaken (fun _ q _ h => hf9 q.1 h)
        refine lv_iload_n hx hb dX9_isStill_40 rfl (lv_at hl 0 rfl) ?_
        obtain ⟨y12, hy12, hF⟩ := bnd_some hF
        have hf9 := wA_in hD hA9 hS
        refine va_calli (va_runS (As := [.int y11.2, .int x3]) (rest := []) ⟨hx, hb, hml, hown, hts⟩ (kX4_at l D ct ad Z G y11.1 H.size y11.2 x3 y12 hy12) (va_cwS 2 hts gX9_isStill_X4_at rfl rfl rfl (by decide +kernel) ⟨Nat.le_of_ble_eq_true rfl, Nat.le_of_ble_eq_true rfl⟩) ⟨fun a U g mk q => by obtain ⟨q0, q1, qP, qK, qD, qZ, qN⟩ := q; exact ⟨q0, q1, qP, va_K.moved (u := U) (U := U.calling g mk a) (Vm.Alike.refl U.vm) qK, qD, sF.moved (u := U) (U := U.calling g mk a) (Vm.Alike.refl U.vm) qZ, nF.same rfl qN⟩, fun U hU hW => ⟨rfl, by rw [hU], by rw [hU]; exact hP, va_K.moved hW.alike hK, hD.weaken (fun _ _ _ _ => trivial), by rw [hU]; exact ((hZ.kept hS.2.1).narrow hf9).moved hW.alike, hN.warm hW⟩⟩ rfl rfl hl.1 rfl (lv_room (Nat.le_of_ble_eq_true rfl)) dX9_isStill_41 ⟨(Nat.zero_le _), (Nat.zero_le _)⟩) hS (fun q _ h => hf9 q h) hf9 (fun r u t H locs ht hvm hw hB hz1 hk1 hS => ?_)
        obtain ⟨hP, hK9, hD9⟩ := hB
        rw [ht] at hP
        try dsimp only at hw
        subst hw
        have hD := hD9.weaken (fun _ q _ h => hf9 q.1 h)
        refine lv_istore (lv' := [(4, .int y12.2), (3, .int x3), (0, va_re ad p0), (1, .int p1), (2, .int p2)]) hx hb dX9_isStill_44 hl (by decide) rfl (fun ls hl => ?_)
        refine lv_aloadq_n hx hb dX9_isStill_46 rfl (lv_at hl 2 rfl) ?_
        refine W_st (st' := [.ref (ad b4)]) (by rw [va_some ho4]) ?_
        refine va_get (D := D) (ci := 4) (v := va_re ad (y12.1.2 b4 7)) (C := RX4) (T := TX4) (N := 18) hx hb hts (mus hf_X4) hown hK hP b4 (wld_o ct ad G y12.1 hc4 hk4 (by decide)) rfl 7 (by decide) (hts (.fieldLink RX9 89 "VideoSuite$Picture" "move" "[I") (mu mw_1447)) (fun _ h9 => h9) rfl dX9_isStill_47 ?_
        refine lv_iconst (v := (2 : Int32)) hx hb dX9_isStill_50 (by decide) ?_
        refine lv_iload hx hb dX9_isStill_51 (lv_at hl 0 rfl) ?_
        refine lv_imul hx hb dX9_isStill_53 ?_
        obtain ⟨x13, ex13, hF⟩ := ltt_some hF
        refine lv_topi (fun zx13 ezx13 => ?_)
        obtain rfl : x13 = zx13 := ex13.trans ezx13.symm
        obtain ⟨b14, ho14, hc14, hk14, hF⟩ := dr_some hF
        refine W_st (st' := [.int x13, .ref (ad b14)]) (by rw [va_some ho14]) ?_
        obtain ⟨hvc, hF⟩ := chk_some hF
        refine va_iald hx hb hK hP b14 1 (wld_i ct ad G y12.1 hc14 hk14) rfl hvc dX9_isStill_54 ?_
        obtain ⟨x15, ex15, hF⟩ := ltt_some hF
        refine lv_topi (fun zx15 ezx15 => ?_)
        obtain rfl : x15 = zx15 := ex15.trans ezx15.symm
        refine lv_istore (lv' := [(5, .int x15), (4, .int y12.2), (3, .int x3), (0, va_re ad p0), (1, .int p1), (2, .int p2)]) hx hb dX9_isStill_55 hl (by decide) rfl (fun ls hl => ?_)
        refine lv_aloadq_n hx hb dX9_isStill_57 rfl (lv_at hl 3 rfl) ?_
        refine W_st (st' := [.ref (ad b4)]) (by rw [va_some ho4]) ?_
        refine va_get (D := D) (ci := 4) (v := va_re ad (y12.1.2 b4 7)) (C := RX4) (T := TX4) (N := 18) hx hb hts (mus hf_X4) hown hK hP b4 (wld_o ct ad G y12.1 hc4 hk4 (by decide)) rfl 7 (by decide) (hts (.fieldLink RX9 89 "VideoSuite$Picture" "move" "[I") (mu mw_1447)) (fun _ h9 => h9) rfl dX9_isStill_58 ?_
        refine lv_iconst (v := (2 : Int32)) hx hb dX9_isStill_61 (by decide) ?_
        refine lv_iload hx hb dX9_isStill_62 (lv_at hl 1 rfl) ?_
        refine lv_imul hx hb dX9_isStill_64 ?_
        obtain ⟨x16, ex16, hF⟩ := ltt_some hF
        refine lv_topi (fun zx16 ezx16 => ?_)
        obtain rfl : x16 = zx16 := ex16.trans ezx16.symm
        refine lv_iconst (v := (1 : Int32)) hx hb dX9_isStill_65 (by decide) ?_
        refine lv_iadd hx hb dX9_isStill_66 ?_
        obtain ⟨x17, ex17, hF⟩ := ltt_some hF
        refine lv_topi (fun zx17 ezx17 => ?_)
        obtain rfl : x17 = zx17 := ex17.trans ezx17.symm
        refine W_st (st' := [.int x17, .ref (ad b14)]) (by rw [va_some ho14]) ?_
        obtain ⟨hvc, hF⟩ := chk_some hF
        refine va_iald hx hb hK hP b14 1 (wld_i ct ad G y12.1 hc14 hk14) rfl hvc dX9_isStill_67 ?_
        obtain ⟨x18, ex18, hF⟩ := ltt_some hF
        refine lv_topi (fun zx18 ezx18 => ?_)
        obtain rfl : x18 = zx18 := ex18.trans ezx18.symm
        refine lv_istore (lv' := [(6, .int x18), (5, .int x15), (4, .int y12.2), (3, .int x3), (0, va_re ad p0), (1, .int p1), (2, .int p2)]) hx hb dX9_isStill_68 hl (by decide) rfl (fun ls hl => ?_)
        refine lv_aloadq_n hx hb dX9_isStill_70 rfl (lv_at hl 4 rfl) ?_
        refine W_st (st' := [.ref (ad b4)]) (by rw [va_some ho4]) ?_
        refine va_get (D := D) (ci := 4) (v := va_re ad (y12.1.2 b4 5)) (C := RX4) (T := TX4) (N := 18) hx hb hts (mus hf_X4) hown hK hP b4 (wld_o ct ad G y12.1 hc4 hk4 (by decide)) rfl 5 (by decide) (hts (.fieldLink RX9 83 "VideoSuite$Picture" "reference" "[I") (mu mw_1439)) (fun _ h9 => h9) rfl dX9_isStill_71 ?_
        refine lv_iload hx hb dX9_isStill_74 (lv_at hl 2 rfl) ?_
        obtain ⟨b19, ho19, hc19, hk19, hF⟩ := dr_some hF
        refine W_st (st' := [.int y12.2, .ref (ad b19)]) (by rw [va_some ho19]) ?_
        obtain ⟨hvc, hF⟩ := chk_some hF
        refine va_iald hx hb hK hP b19 1 (wld_i ct ad G y12.1 hc19 hk19) rfl hvc dX9_isStill_76 ?_
        obtain ⟨x20, ex20, hF⟩ := ltt_some hF
        refine lv_topi (fun zx20 ezx20 => ?_)
        obtain rfl : x20 = zx20 := ex20.trans ezx20.symm
        obtain ⟨y21, hy21, hF⟩ := bnd_some hF
        have J21 : ∀ (H : Heap) (locs : List Loc) (ls : Array Slot), va_P D classes (wld ct ad G y12.1) H → va_D A (wld ct ad G y12.1) → va_S A s.heap H locs → lv_has ls 7 [(6, .int x18), (5, .int x15), (4, .int y12.2), (3, .int x3), (0, va_re ad p0), (1, .int p1), (2, .int p2)] → W p l e (headSpec wuX9_isStill ({ frames := 1, cells := 0, slots := 0, locals := 21 })).room s m ([va_re ad p0, .int p1, .int p2] : List Value).toArray below meth c H locs 0 0 (MQ below (va_Qi (fun (q : Int32) (_ : Unit) => q = y.2) (fun _ t => kE D ct ad G A y.1 t) A) ([va_re ad p0, .int p1, .int p2] : List Value).toArray s 0 0 A) (F0 m 109 ls [.int y21]) := by
          intro H locs ls hP hD hS hl
          obtain ⟨hz9, hF⟩ := chk_some hF
          obtain rfl := Option.some.inj hF
          exact W.zret (v := y21) (ty := .boolean) hx hb hr (nar_z hz9).1 (fun t ht hW => ⟨⟨_, (), rfl, rfl, ⟨by rw [ht]; exact hP, va_K.moved hW.alike hK, hD⟩⟩, hS.F ht⟩) hS.2.2 dX9_isStill_109
        clear hF
        have hF := hy21
        clear hy21
        refine lv_if_ne (tgt := 108) hx hb dX9_isStill_77 (by decide) (fun c22 => ?_) (fun c22 => ?_)
        · rw [if_neg c22] at hF
          refine lv_iconst (v := (0 : Int32)) hx hb dX9_isStill_108 (by decide) ?_
          obtain rfl := Option.some.inj hF
          exact J21 _ _ _ hP hD hS (lv_sub hl [0, 1, 2, 3, 4, 5, 6] rfl)
        · rw [if_pos c22] at hF
          refine lv_iload hx hb dX9_isStill_80 (lv_at hl 1 rfl) ?_
          refine lv_iconst (v := (-1 : Int32)) hx hb dX9_isStill_82 (by decide) ?_
          obtain ⟨y23, hy23, hF⟩ := bnd_some hF
          have J23 : ∀ (H : Heap) (locs : List Loc) (ls : Array Slot), va_P D classes (wld ct ad G y12.1) H → va_D A (wld ct ad G y12.1) → va_S A s.heap H locs → lv_has ls 7 [(6, .int x18), (5, .int x15), (4, .int y12.2), (3, .int x3), (0, va_re ad p0), (1, .int p1), (2, .int p2)] → W p l e (headSpec wuX9_isStill ({ frames := 1, cells := 0, slots := 0, locals := 21 })).room s m ([va_re ad p0, .int p1, .int p2] : List Value).toArray below meth c H locs 0 0 (MQ below (va_Qi (fun (q : Int32) (_ : Unit) => q = y.2) (fun _ t => kE D ct ad G A y.1 t) A) ([va_re ad p0, .int p1, .int p2] : List Value).toArray s 0 0 A) (F0 m 109 ls [.int y23]) := by
            intro H locs ls hP hD hS hl
            obtain rfl := Option.some.inj hF
            exact J21 _ _ _ hP hD hS (lv_sub hl [0, 1, 2, 3, 4, 5, 6] rfl)
          clear hF
          have hF := hy23
          clear hy23
          refine lv_icmp_lt (tgt := 108) hx hb dX9_isStill_83 (by decide) (fun c24 => ?_) (fun c24 => ?_)
          · rw [if_pos c24] at hF
            refine lv_iconst (v := (0 : Int32)) hx hb dX9_isStill_108 (by decide) ?_
            obtain rfl := Option.some.inj hF
            exact J23 _ _ _ hP hD hS (lv_sub hl [0, 1, 2, 3, 4, 5, 6] rfl)
          · rw [if_neg c24] at hF
            refine lv_iload hx hb dX9_isStill_86 (lv_at hl 1 rfl) ?_
            refine lv_iconst (v := (1 : Int32)) hx hb dX9_isStill_88 (by decide) ?_
            obtain ⟨y25, hy25, hF⟩ := bnd_some hF
            have J25 : ∀ (H : Heap) (locs : List Loc) (ls : Array Slot), va_P D classes (wld ct ad G y12.1) H → va_D A (wld ct ad G y12.1) → va_S A s.heap H locs → lv_has ls 7 [(6, .int x18), (5, .int x15), (4, .int y12.2), (3, .int x3), (0, va_re ad p0), (1, .int p1), (2, .int p2)] → W p l e (headSpec wuX9_isStill ({ frames := 1, cells := 0, slots := 0, locals := 21 })).room s m ([va_re ad p0, .int p1, .int p2] : List Value).toArray below meth c H locs 0 0 (MQ below (va_Qi (fun (q : Int32) (_ : Unit) => q = y.2) (fun _ t => kE D ct ad G A y.1 t) A) ([va_re ad p0, .int p1, .int p2] : List Value).toArray s 0 0 A) (F0 m 109 ls [.int y25]) := by
              intro H locs ls hP hD hS hl
              obtain rfl := Option.some.inj hF
              exact J23 _ _ _ hP hD hS (lv_sub hl [0, 1, 2, 3, 4, 5, 6] rfl)
            clear hF
            have hF := hy25
            clear hy25
            refine lv_icmp_gt (tgt := 108) hx hb dX9_isStill_89 (by decide) (fun c26 => ?_) (fun c26 => ?_)
            · rw [if_pos c26] at hF
              refine lv_iconst (v := (0 : Int32)) hx hb dX9_isStill_108 (by decide) ?_
              obtain rfl := Option.some.inj hF
              exact J25 _ _ _ hP hD hS (lv_sub hl [0, 1, 2, 3, 4, 5, 6] rfl)
            · rw [if_neg c26] at hF
              refine lv_iload hx hb dX9_isStill_92 (lv_at hl 0 rfl) ?_
              refine lv_iconst (v := (-1 : Int32)) hx hb dX9_isStill_94 (by decide) ?_
              obtain ⟨y27, hy27, hF⟩ := bnd_some hF
              have J27 : ∀ (H : Heap) (locs : List Loc) (ls : Array Slot), va_P D classes (wld ct ad G y12.1) H → va_D A (wld ct ad G y12.1) → va_S A s.heap H locs → lv_has ls 7 [(6, .int x18), (5, .int x15), (4, .int y12.2), (3, .int x3), (0, va_re ad p0), (1, .int p1), (2, .int p2)] → W p l e (headSpec wuX9_isStill ({ frames := 1, cells := 0, slots := 0, locals := 21 })).room s m ([va_re ad p0, .int p1, .int p2] : List Value).toArray below meth c H locs 0 0 (MQ below (va_Qi (fun (q : Int32) (_ : Unit) => q = y.2) (fun _ t => kE D ct ad G A y.1 t) A) ([va_re ad p0, .int p1, .int p2] : List Value).toArray s 0 0 A) (F0 m 109 ls [.int y27]) := by
                intro H locs ls hP hD hS hl
                obtain rfl := Option.some.inj hF
                exact J25 _ _ _ hP hD hS (lv_sub hl [0, 1, 2, 3, 4, 5, 6] rfl)
              clear hF
              have hF := hy27
              clear hy27
              refine lv_icmp_lt (tgt := 108) hx hb dX9_isStill_95 (by decide) (fun c28 => ?_) (fun c28 => ?_)
              · rw [if_pos c28] at hF
                refine lv_iconst (v := (0 : Int32)) hx hb dX9_isStill_108 (by decide) ?_
                obtain rfl := Option.some.inj hF
                exact J27 _ _ _ hP hD hS (lv_sub hl [0, 1, 2, 3, 4, 5, 6] rfl)
              · rw [if_neg c28] at hF
                refine lv_iload hx hb dX9_isStill_98 (lv_at hl 0 rfl) ?_
                refine lv_iconst (v := (1 : Int32)) hx hb dX9_isStill_100 (by decide) ?_
                obtain ⟨y29, hy29, hF⟩ := bnd_some hF
                have J29 : ∀ (H : Heap) (locs : List Loc) (ls : Array Slot), va_P D classes (wld ct ad G y12.1) H → va_D A (wld ct ad G y12.1) → va_S A s.heap H locs → lv_has ls 7 [(6, .int x18), (5, .int x15), (4, .int y12.2), (3, .int x3), (0, va_re ad p0), (1, .int p1), (2, .int p2)] → W p l e (headSpec wuX9_isStill ({ frames := 1, cells := 0, slots := 0, locals := 21 })).room s m ([va_re ad p0, .int p1, .int p2] : List Value).toArray below meth c H locs 0 0 (MQ below (va_Qi (fun (q : Int32) (_ : Unit) => q = y.2) (fun _ t => kE D ct ad G A y.1 t) A) ([va_re ad p0, .int p1, .int p2] : List Value).toArray s 0 0 A) (F0 m 109 ls [.int y29]) := by
                  intro H locs ls hP hD hS hl
                  obtain rfl := Option.some.inj hF
                  exact J27 _ _ _ hP hD hS (lv_sub hl [0, 1, 2, 3, 4, 5, 6] rfl)
                clear hF
                have hF := hy29
                clear hy29
                refine lv_icmp_gt (tgt := 108) hx hb dX9_isStill_101 (by decide) (fun c30 => ?_) (fun c30 => ?_)
                · rw [if_pos c30] at hF
                  refine lv_iconst (v := (0 : Int32)) hx hb dX9_isStill_108 (by decide) ?_
                  obtain rfl := Option.some.inj hF
                  exact J29 _ _ _ hP hD hS (lv_sub hl [0, 1, 2, 3, 4, 5, 6] rfl)
                · rw [if_neg c30] at hF
                  refine lv_iconst (v := (1 : Int32)) hx hb dX9_isStill_104 (by decide) ?_
                  refine lv_goto (tgt := 109) hx hb dX9_isStill_105 (by decide) ?_
                  obtain rfl := Option.some.inj hF
                  exact J29 _ _ _ hP hD hS (lv_sub hl [0, 1, 2, 3, 4, 5, 6] rfl)
      · rw [if_neg c10] at hF
        refine lv_iconst (v := (0 : Int32)) hx hb dX9_isStill_33 (by decide) ?_
        obtain ⟨hz9, hF⟩ := chk_some hF
        obtain rfl := Option.some.inj hF
        exact W.zret (v := (0 : Int32)) (ty := .boolean) hx hb hr (nar_z hz9).1 (fun t ht hW => ⟨⟨_, (), rfl, rfl, ⟨by rw [ht]; exact hP, va_K.moved hW.alike hK, hD⟩⟩, hS.F ht⟩) hS.2.2 dX9_isStill_34
theorem dX9_levelAt_0 : decode cX9_levelAt 0 = .ok (.bipush 16, 2) := by decide +kernel
theorem dX9_levelAt_2 : decode cX9_levelAt 2 = .ok (.bipush 27, 2) := by decide +kernel
theorem dX9_levelAt_4 : decode cX9_levelAt 4 = .ok (.iload_n 0, 1) := by decide +kernel
theorem dX9_levelAt_5 : decode cX9_levelAt 5 = .ok (.imul, 1) := by decide +kernel
theorem dX9_levelAt_6 : decode cX9_levelAt 6 = .ok (.iload_n 1, 1) := by decide +kernel
theorem dX9_levelAt_7 : decode cX9_levelAt 7 = .ok (.iadd, 1) := by decide +kernel
theorem dX9_levelAt_8 : decode cX9_levelAt 8 = .ok (.imul, 1) := by decide +kernel
theorem dX9_levelAt_9 : decode cX9_levelAt 9 = .ok (.ireturn, 1) := by decide +kernel
def FX9_levelAt (G : GG) (M : DD) (p0 : Int32) (p1 : Int32) : Option (DD × Int32) :=
  ltt ((((27 : Int32)) * p0)) fun x1 =>
  ltt ((x1 + p1)) fun x2 =>
  ltt ((((16 : Int32)) * x2)) fun x3 =>
  some (M, x3)
set_option maxHeartbeats 4000000 in
set_option maxRecDepth 100000 in
theorem kX9_levelAt (l : Launch) (D : va_G) (ct : CT) (ad : Nat → Nat) (Z : Nat → Nat) (G : GG) (M : DD) (sz : Nat) (p0 : Int32) (p1 : Int32) (y : DD × Int32) (hF : FX9_levelAt G M p0 p1 = some y) : Met l yX9_levelAt wuX9_levelAt ({ frames := 0, cells := 0, slots := 0, locals := 0 }) (va_Pc [.int p0, .int p1] (kB D ct ad Z G M sz)) (va_Qi (fun (q : Int32) (_ : Unit) => q = y.2) (fun _ t => kE D ct ad G (wA ad G sz) y.1 t) (wA ad G sz)) 0 0 (wA ad G sz) := by
  refine Met.ofW (cc := cX9_levelAt) (maxL := 2) (ret := (some .int)) (by decide) rfl ?_
  intro p e s m args below meth c s₁ B hml hv
  obtain ⟨rfl, hsz, hP, hK, hD0, hZ, hN⟩ := hv
  have hx := B.exec
  have hb := B.bytes
  have hr := B.returns
  have hts := atoms_spec (ws := wuX9_levelAt) B.pre
  have hown : s.vm.findClass RX9 = some m.cls := findClass_of_methodNamed B.named
  have hlocks := B.notSynchronized
  subst hsz
  have hD := wD_self (sz := s.heap.size) hD0
  have hA9 : ∀ q, s.heap.size ≤ q → wA ad G s.heap.size q := fun q h => Or.inr h
  generalize hAe : wA ad G s.heap.size = A at hD hA9 hZ ⊢
  have hS : va_S A s.heap s.heap [] := va_S.rf
  have hl := lv_entry ([.int p0, .int p1]) (n := 2) (Nat.le_of_ble_eq_true rfl)
  rw [lg_entry_eq]
  generalize (lg_sl ([.int p0, .int p1]) ++ List.replicate (2 - (lg_sl ([.int p0, .int p1])).length) Slot.unset).toArray = ls at hl ⊢
  have hl : lv_has ls 2 [(0, .int p0), (1, .int p1)] := hl
  unfold FX9_levelAt at hF
  refine lv_bipush (v := (16 : Int32)) hx hb dX9_levelAt_0 (by decide) ?_
  refine lv_bipush (v := (27 : Int32)) hx hb dX9_levelAt_2 (by decide) ?_
  refine lv_iload_n hx hb dX9_levelAt_4 rfl (lv_at hl 0 rfl) ?_
  refine lv_imul hx hb dX9_levelAt_5 ?_
  obtain ⟨x1, ex1, hF⟩ := ltt_some hF
  refine lv_topi (fun zx1 ezx1 => ?_)
  obtain rfl : x1 = zx1 := ex1.trans ezx1.symm
  refine lv_iload_n hx hb dX9_levelAt_6 rfl (lv_at hl 1 rfl) ?_
  refine lv_iadd hx hb dX9_levelAt_7 ?_
  obtain ⟨x2, ex2, hF⟩ := ltt_some hF
  refine lv_topi (fun zx2 ezx2 => ?_)
  obtain rfl : x2 = zx2 := ex2.trans ezx2.symm
  refine lv_imul hx hb dX9_levelAt_8 ?_
  obtain ⟨x3, ex3, hF⟩ := ltt_some hF
  refine lv_topi (fun zx3 ezx3 => ?_)
  obtain rfl : x3 = zx3 := ex3.trans ezx3.symm
  obtain rfl := Option.some.inj hF
  exact W.iret (v := x3) hx hb hr (fun t ht hW => ⟨⟨_, (), rfl, rfl, ⟨by rw [ht]; exact hP, va_K.moved hW.alike hK, hD⟩⟩, hS.F ht⟩) hS.2.2 dX9_levelAt_9
theorem dX9_mayBeColours_0 : decode cX9_mayBeColours 0 = .ok (.iload_n 0, 1) := by decide +kernel
theorem dX9_mayBeColours_1 : decode cX9_mayBeColours 1 = .ok (.ifCond .ne 7, 3) := by decide +kernel
theorem dX9_mayBeColours_4 : decode cX9_mayBeColours 4 = .ok (.iconst 0, 1) := by decide +kernel
theorem dX9_mayBeColours_5 : decode cX9_mayBeColours 5 = .ok (.goto 23, 3) := by decide +kernel
theorem dX9_mayBeColours_8 : decode cX9_mayBeColours 8 = .ok (.iload_n 0, 1) := by decide +kernel
theorem dX9_mayBeColours_9 : decode cX9_mayBeColours 9 = .ok (.iconst 1, 1) := by decide +kernel
theorem dX9_mayBeColours_10 : decode cX9_mayBeColours 10 = .ok (.if_icmp .ne 7, 3) := by decide +kernel
theorem dX9_mayBeColours_13 : decode cX9_mayBeColours 13 = .ok (.iconst 1, 1) := by decide +kernel
theorem dX9_mayBeColours_14 : decode cX9_mayBeColours 14 = .ok (.goto 14, 3) := by decide +kernel
theorem dX9_mayBeColours_17 : decode cX9_mayBeColours 17 = .ok (.iload_n 0, 1) := by decide +kernel
theorem dX9_mayBeColours_18 : decode cX9_mayBeColours 18 = .ok (.iconst 2, 1) := by decide +kernel
theorem dX9_mayBeColours_19 : decode cX9_mayBeColours 19 = .ok (.if_icmp .ne 7, 3) := by decide +kernel
theorem dX9_mayBeColours_22 : decode cX9_mayBeColours 22 = .ok (.iconst 2, 1) := by decide +kernel
theorem dX9_mayBeColours_23 : decode cX9_mayBeColours 23 = .ok (.goto 5, 3) := by decide +kernel
theorem dX9_mayBeColours_26 : decode cX9_mayBeColours 26 = .ok (.bipush 7, 2) := by decide +kernel
theorem dX9_mayBeColours_28 : decode cX9_mayBeColours 28 = .ok (.istore_n 2, 1) := by decide +kernel
theorem dX9_mayBeColours_29 : decode cX9_mayBeColours 29 = .ok (.iload_n 1, 1) := by decide +kernel
theorem dX9_mayBeColours_30 : decode cX9_mayBeColours 30 = .ok (.iload_n 2, 1) := by decide +kernel
theorem dX9_mayBeColours_31 : decode cX9_mayBeColours 31 = .ok (.iand, 1) := by decide +kernel
theorem dX9_mayBeColours_32 : decode cX9_mayBeColours 32 = .ok (.iload_n 2, 1) := by decide +kernel
theorem dX9_mayBeColours_33 : decode cX9_mayBeColours 33 = .ok (.if_icmp .ne 7, 3) := by decide +kernel
theorem dX9_mayBeColours_36 : decode cX9_mayBeColours 36 = .ok (.iconst 1, 1) := by decide +kernel
theorem dX9_mayBeColours_37 : decode cX9_mayBeColours 37 = .ok (.goto 4, 3) := by decide +kernel
theorem dX9_mayBeColours_40 : decode cX9_mayBeColours 40 = .ok (.iconst 0, 1) := by decide +kernel
theorem dX9_mayBeColours_41 : decode cX9_mayBeColours 41 = .ok (.ireturn, 1) := by decide +kernel
def FX9_mayBeColours (G : GG) (M : DD) (p0 : Int32) (p1 : Int32) : Option (DD × Int32) :=
  bnd (if p0 = ((0 : Int32)) then (some ((0 : Int32))) else
  (bnd (if p0 = ((1 : Int32)) then (some ((1 : Int32))) else
  (bnd (if p0 = ((2 : Int32)) then (some ((2 : Int32))) else
  (some ((7 : Int32)))) fun (y8 : Int32) =>
  some (y8))) fun (y6 : Int32) =>
  some (y6))) fun (y1 : Int32) =>
  ltt ((p1 &&& y1)) fun x2 =>
  bnd (if x2 = y1 then (some ((1 : Int32))) else
  (some ((0 : Int32)))) fun (y3 : Int32) =>
  chk (y3 = 0 ∨ y3 = 1) <|
  some (M, y3)
set_option maxHeartbeats 4000000 in
set_option maxRecDepth 100000 in
theorem kX9_mayBeColours (l : Launch) (D : va_G) (ct : CT) (ad : Nat → Nat) (Z : Nat → Nat) (G : GG) (M : DD) (sz : Nat) (p0 : Int32) (p1 : Int32) (y : DD × Int32) (hF : FX9_mayBeColours G M p0 p1 = some y) : Met l yX9_mayBeColours wuX9_mayBeColours ({ frames := 0, cells := 0, slots := 0, locals := 0 }) (va_Pc [.int p0, .int p1] (kB D ct ad Z G M sz)) (va_Qi (fun (q : Int32) (_ : Unit) => q = y.2) (fun _ t => kE D ct ad G (wA ad G sz) y.1 t) (wA ad G sz)) 0 0 (wA ad G sz) := by
  refine Met.ofW (cc := cX9_mayBeColours) (maxL := 3) (ret := (some .boolean)) (by decide) rfl ?_
  intro p e s m args below meth c s₁ B hml hv
  obtain ⟨rfl, hsz, hP, hK, hD0, hZ, hN⟩ := hv
  have hx := B.exec
  have hb := B.bytes
  have hr := B.returns
  have hts := atoms_spec (ws := wuX9_mayBeColours) B.pre
  have hown : s.vm.findClass RX9 = some m.cls := findClass_of_methodNamed B.named
  have hlocks := B.notSynchronized
  subst hsz
  have hD := wD_self (sz := s.heap.size) hD0
  have hA9 : ∀ q, s.heap.size ≤ q → wA ad G s.heap.size q := fun q h => Or.inr h
  generalize hAe : wA ad G s.heap.size = A at hD hA9 hZ ⊢
  have hS : va_S A s.heap s.heap [] := va_S.rf
  have hl := lv_entry ([.int p0, .int p1]) (n := 3) (Nat.le_of_ble_eq_true rfl)
  rw [lg_entry_eq]
  generalize (lg_sl ([.int p0, .int p1]) ++ List.replicate (3 - (lg_sl ([.int p0, .int p1])).length) Slot.unset).toArray = ls at hl ⊢
  have hl : lv_has ls 3 [(0, .int p0), (1, .int p1)] := hl
  unfold FX9_mayBeColours at hF
  refine lv_iload_n hx hb dX9_mayBeColours_0 rfl (lv_at hl 0 rfl) ?_
  obtain ⟨y1, hy1, hF⟩ := bnd_some hF
  have J1 : ∀ (H : Heap) (locs : List Loc) (ls : Array Slot), va_P D classes (wld ct ad G M) H → va_D A (wld ct ad G M) → va_S A s.heap H locs → lv_has ls 3 [(0, .int p0), (1, .int p1)] → W p l e (headSpec wuX9_mayBeColours ({ frames := 0, cells := 0, slots := 0, locals := 0 })).room s m ([.int p0, .int p1] : List Value).toArray below meth c H locs 0 0 (MQ below (va_Qi (fun (q : Int32) (_ : Unit) => q = y.2) (fun _ t => kE D ct ad G A y.1 t) A) ([.int p0, .int p1] : List Value).toArray s 0 0 A) (F0 m 28 ls [.int y1]) := by
    intro H locs ls hP hD hS hl
    refine lv_istore_n (lv' := [(2, .int y1), (0, .int p0), (1, .int p1)]) hx hb dX9_mayBeColours_28 rfl hl (by decide) rfl (fun ls hl => ?_)
    refine lv_iload_n hx hb dX9_mayBeColours_29 rfl (lv_at hl 2 rfl) ?_
    refine lv_iload_n hx hb dX9_mayBeColours_30 rfl (lv_at hl 0 rfl) ?_
    refine lv_iand hx hb dX9_mayBeColours_31 ?_
    obtain ⟨x2, ex2, hF⟩ := ltt_some hF
    refine lv_topi (fun zx2 ezx2 => ?_)
    obtain rfl : x2 = zx2 := ex2.trans ezx2.symm
    refine lv_iload_n hx hb dX9_mayBeColours_32 rfl (lv_at hl 0 rfl) ?_
    obtain ⟨y3, hy3, hF⟩ := bnd_some hF
    have J3 : ∀ (H : Heap) (locs : List Loc) (ls : Array Slot), va_P D classes (wld ct ad G M) H → va_D A (wld ct ad G M) → va_S A s.heap H locs → lv_has ls 3 [(2, .int y1), (0, .int p0), (1, .int p1)] → W p l e (headSpec wuX9_mayBeColours ({ frames := 0, cells := 0, slots := 0, locals := 0 })).room s m ([.int p0, .int p1] : List Value).toArray below meth c H locs 0 0 (MQ below (va_Qi (fun (q : Int32) (_ : Unit) => q = y.2) (fun _ t => kE D ct ad G A y.1 t) A) ([.int p0, .int p1] : List Value).toArray s 0 0 A) (F0 m 41 ls [.int y3]) := by
      intro H locs ls hP hD hS hl
      obtain ⟨hz9, hF⟩ := chk_some hF
      obtain rfl := Option.some.inj hF
      exact W.zret (v := y3) (ty := .boolean) hx hb hr (nar_z hz9).1 (fun t ht hW => ⟨⟨_, (), rfl, rfl, ⟨by rw [ht]; exact hP, va_K.moved hW.alike hK, hD⟩⟩, hS.F ht⟩) hS.2.2 dX9_mayBeColours_41
    clear hF
    have hF := hy3
    clear hy3
    refine lv_icmp_ne (tgt := 40) hx hb dX9_mayBeColours_33 (by decide) (fun c4 => ?_) (fun c4 => ?_)
    · rw [if_neg c4] at hF
      refine lv_iconst (v := (0 : Int32)) hx hb dX9_mayBeColours_40 (by decide) ?_
      obtain rfl := Option.some.inj hF
      exact J3 _ _ _ hP hD hS (lv_sub hl [0, 1, 2] rfl)
    · rw [if_pos c4] at hF
      refine lv_iconst (v := (1 : Int32)) hx hb dX9_mayBeColours_36 (by decide) ?_
      refine lv_goto (tgt := 41) hx hb dX9_mayBeColours_37 (by decide) ?_
      obtain rfl := Option.some.inj hF
      exact J3 _ _ _ hP hD hS (lv_sub hl [0, 1, 2] rfl)
  clear hF
  have hF := hy1
  clear hy1
  refine lv_if_ne (tgt := 8) hx hb dX9_mayBeColours_1 (by decide) (fun c5 => ?_) (fun c5 => ?_)
  · rw [if_neg c5] at hF
    refine lv_iload_n hx hb dX9_mayBeColours_8 rfl (lv_at hl 0 rfl) ?_
    refine lv_iconst (v := (1 : Int32)) hx hb dX9_mayBeColours_9 (by decide) ?_
    obtain ⟨y6, hy6, hF⟩ := bnd_some hF
    have J6 : ∀ (H : Heap) (locs : List Loc) (ls : Array Slot), va_P D classes (wld ct ad G M) H → va_D A (wld ct ad G M) → va_S A s.heap H locs → lv_has ls 3 [(0, .int p0), (1, .int p1)] → W p l e (headSpec wuX9_mayBeColours ({ frames := 0, cells := 0, slots := 0, locals := 0 })).room s m ([.int p0, .int p1] : List Value).toArray below meth c H locs 0 0 (MQ below (va_Qi (fun (q : Int32) (_ : Unit) => q = y.2) (fun _ t => kE D ct ad G A y.1 t) A) ([.int p0, .int p1] : List Value).toArray s 0 0 A) (F0 m 28 ls [.int y6]) := by
      intro H locs ls hP hD hS hl
      obtain rfl := Option.some.inj hF
      exact J1 _ _ _ hP hD hS (lv_sub hl [0, 1] rfl)
    clear hF
    have hF := hy6
    clear hy6
    refine lv_icmp_ne (tgt := 17) hx hb dX9_mayBeColours_10 (by decide) (fun c7 => ?_) (fun c7 => ?_)
    · rw [if_neg c7] at hF
      refine lv_iload_n hx hb dX9_mayBeColours_17 rfl (lv_at hl 0 rfl) ?_
      refine lv_iconst (v := (2 : Int32)) hx hb dX9_mayBeColours_18 (by decide) ?_
      obtain ⟨y8, hy8, hF⟩ := bnd_some hF
      have J8 : ∀ (H : Heap) (locs : List Loc) (ls : Array Slot), va_P D classes (wld ct ad G M) H → va_D A (wld ct ad G M) → va_S A s.heap H locs → lv_has ls 3 [(0, .int p0), (1, .int p1)] → W p l e (headSpec wuX9_mayBeColours ({ frames := 0, cells := 0, slots := 0, locals := 0 })).room s m ([.int p0, .int p1] : List Value).toArray below meth c H locs 0 0 (MQ below (va_Qi (fun (q : Int32) (_ : Unit) => q = y.2) (fun _ t => kE D ct ad G A y.1 t) A) ([.int p0, .int p1] : List Value).toArray s 0 0 A) (F0 m 28 ls [.int y8]) := by
        intro H locs ls hP hD hS hl
        obtain rfl := Option.some.inj hF
        exact J6 _ _ _ hP hD hS (lv_sub hl [0, 1] rfl)
      clear hF
      have hF := hy8
      clear hy8
      refine lv_icmp_ne (tgt := 26) hx hb dX9_mayBeColours_19 (by decide) (fun c9 => ?_) (fun c9 => ?_)
      · rw [if_neg c9] at hF
        refine lv_bipush (v := (7 : Int32)) hx hb dX9_mayBeColours_26 (by decide) ?_
        obtain rfl := Option.some.inj hF
        exact J8 _ _ _ hP hD hS (lv_sub hl [0, 1] rfl)
      · rw [if_pos c9] at hF
        refine lv_iconst (v := (2 : Int32)) hx hb dX9_mayBeColours_22 (by decide) ?_
        refine lv_goto (tgt := 28) hx hb dX9_mayBeColours_23 (by decide) ?_
        obtain rfl := Option.some.inj hF
        exact J8 _ _ _ hP hD hS (lv_sub hl [0, 1] rfl)
    · rw [if_pos c7] at hF
      refine lv_iconst (v := (1 : Int32)) hx hb dX9_mayBeColours_13 (by decide) ?_
      refine lv_goto (tgt := 28) hx hb dX9_mayBeColours_14 (by decide) ?_
      obtain rfl := Option.some.inj hF
      exact J6 _ _ _ hP hD hS (lv_sub hl [0, 1] rfl)
  · rw [if_pos c5] at hF
    refine lv_iconst (v := (0 : Int32)) hx hb dX9_mayBeColours_4 (by decide) ?_
    refine lv_goto (tgt := 28) hx hb dX9_mayBeColours_5 (by decide) ?_
    obtain rfl := Option.some.inj hF
    exact J1 _ _ _ hP hD hS (lv_sub hl [0, 1] rfl)
theorem dX9_mayBeFour_0 : decode cX9_mayBeFour 0 = .ok (.iload_n 0, 1) := by decide +kernel
theorem dX9_mayBeFour_1 : decode cX9_mayBeFour 1 = .ok (.iconst 2, 1) := by decide +kernel
theorem dX9_mayBeFour_2 : decode cX9_mayBeFour 2 = .ok (.if_icmp .ne 7, 3) := by decide +kernel
theorem dX9_mayBeFour_5 : decode cX9_mayBeFour 5 = .ok (.iconst 0, 1) := by decide +kernel
theorem dX9_mayBeFour_6 : decode cX9_mayBeFour 6 = .ok (.goto 35, 3) := by decide +kernel
theorem dX9_mayBeFour_9 : decode cX9_mayBeFour 9 = .ok (.iload_n 0, 1) := by decide +kernel
theorem dX9_mayBeFour_10 : decode cX9_mayBeFour 10 = .ok (.iconst 1, 1) := by decide +kernel
theorem dX9_mayBeFour_11 : decode cX9_mayBeFour 11 = .ok (.if_icmp .eq 9, 3) := by decide +kernel
theorem dX9_mayBeFour_14 : decode cX9_mayBeFour 14 = .ok (.iload_n 0, 1) := by decide +kernel
theorem dX9_mayBeFour_15 : decode cX9_mayBeFour 15 = .ok (.bipush 8, 2) := by decide +kernel
theorem dX9_mayBeFour_17 : decode cX9_mayBeFour 17 = .ok (.if_icmp .ne 7, 3) := by decide +kernel
theorem dX9_mayBeFour_20 : decode cX9_mayBeFour 20 = .ok (.iconst 1, 1) := by decide +kernel
theorem dX9_mayBeFour_21 : decode cX9_mayBeFour 21 = .ok (.goto 20, 3) := by decide +kernel
theorem dX9_mayBeFour_24 : decode cX9_mayBeFour 24 = .ok (.iload_n 0, 1) := by decide +kernel
theorem dX9_mayBeFour_25 : decode cX9_mayBeFour 25 = .ok (.iconst 4, 1) := by decide +kernel
theorem dX9_mayBeFour_26 : decode cX9_mayBeFour 26 = .ok (.if_icmp .lt 9, 3) := by decide +kernel
theorem dX9_mayBeFour_29 : decode cX9_mayBeFour 29 = .ok (.iload_n 0, 1) := by decide +kernel
theorem dX9_mayBeFour_30 : decode cX9_mayBeFour 30 = .ok (.bipush 7, 2) := by decide +kernel
theorem dX9_mayBeFour_32 : decode cX9_mayBeFour 32 = .ok (.if_icmp .ne 7, 3) := by decide +kernel
theorem dX9_mayBeFour_35 : decode cX9_mayBeFour 35 = .ok (.iconst 2, 1) := by decide +kernel
theorem dX9_mayBeFour_36 : decode cX9_mayBeFour 36 = .ok (.goto 5, 3) := by decide +kernel
theorem dX9_mayBeFour_39 : decode cX9_mayBeFour 39 = .ok (.bipush 7, 2) := by decide +kernel
theorem dX9_mayBeFour_41 : decode cX9_mayBeFour 41 = .ok (.istore_n 2, 1) := by decide +kernel
theorem dX9_mayBeFour_42 : decode cX9_mayBeFour 42 = .ok (.iload_n 1, 1) := by decide +kernel
theorem dX9_mayBeFour_43 : decode cX9_mayBeFour 43 = .ok (.iload_n 2, 1) := by decide +kernel
theorem dX9_mayBeFour_44 : decode cX9_mayBeFour 44 = .ok (.iand, 1) := by decide +kernel
theorem dX9_mayBeFour_45 : decode cX9_mayBeFour 45 = .ok (.iload_n 2, 1) := by decide +kernel
theorem dX9_mayBeFour_46 : decode cX9_mayBeFour 46 = .ok (.if_icmp .ne 7, 3) := by decide +kernel
theorem dX9_mayBeFour_49 : decode cX9_mayBeFour 49 = .ok (.iconst 1, 1) := by decide +kernel
theorem dX9_mayBeFour_50 : decode cX9_mayBeFour 50 = .ok (.goto 4, 3) := by decide +kernel
theorem dX9_mayBeFour_53 : decode cX9_mayBeFour 53 = .ok (.iconst 0, 1) := by decide +kernel
theorem dX9_mayBeFour_54 : decode cX9_mayBeFour 54 = .ok (.ireturn, 1) := by decide +kernel
def FX9_mayBeFour (G : GG) (M : DD) (p0 : Int32) (p1 : Int32) : Option (DD × Int32) :=
  bnd (if p0 = ((2 : Int32)) then (some ((0 : Int32))) else
  (bnd (if p0 = ((1 : Int32)) then (some ((1 : Int32))) else
  (bnd (if p0 = ((8 : Int32)) then (some ((1 : Int32))) else
  (bnd (if p0 < ((4 : Int32)) then (some ((2 : Int32))) else
  (bnd (if p0 = ((7 : Int32)) then (some ((2 : Int32))) else
  (some ((7 : Int32)))) fun (y12 : Int32) =>
  some (y12))) fun (y10 : Int32) =>
  some (y10))) fun (y8 : Int32) =>
  some (y8))) fun (y6 : Int32) =>
  some (y6))) fun (y1 : Int32) =>
  ltt ((p1 &&& y1)) fun x2 =>
  bnd (if x2 = y1 then (some ((1 : Int32))) else
  (some ((0 : Int32)))) fun (y3 : Int32) =>
  chk (y3 = 0 ∨ y3 = 1) <|
  some (M, y3)
set_option maxHeartbeats 4000000 in
set_option maxRecDepth 100000 in
theorem kX9_mayBeFour (l : Launch) (D : va_G) (ct : CT) (ad : Nat → Nat) (Z : Nat → Nat) (G : GG) (M : DD) (sz : Nat) (p0 : Int32) (p1 : Int32) (y : DD × Int32) (hF : FX9_mayBeFour G M p0 p1 = some y) : Met l yX9_mayBeFour wuX9_mayBeFour ({ frames := 0, cells := 0, slots := 0, locals := 0 }) (va_Pc [.int p0, .int p1] (kB D ct ad Z G M sz)) (va_Qi (fun (q : Int32) (_ : Unit) => q = y.2) (fun _ t => kE D ct ad G (wA ad G sz) y.1 t) (wA ad G sz)) 0 0 (wA ad G sz) := by
  refine Met.ofW (cc := cX9_mayBeFour) (maxL := 3) (ret := (some .boolean)) (by decide) rfl ?_
  intro p e s m args below meth c s₁ B hml hv
  obtain ⟨rfl, hsz, hP, hK, hD0, hZ, hN⟩ := hv
  have hx := B.exec
  have hb := B.bytes
  have hr := B.returns
  have hts := atoms_spec (ws := wuX9_mayBeFour) B.pre
  have hown : s.vm.findClass RX9 = some m.cls := findClass_of_methodNamed B.named
  have hlocks := B.notSynchronized
  subst hsz
  have hD := wD_self (sz := s.heap.size) hD0
  have hA9 : ∀ q, s.heap.size ≤ q → wA ad G s.heap.size q := fun q h => Or.inr h
  generalize hAe : wA ad G s.heap.size = A at hD hA9 hZ ⊢
  have hS : va_S A s.heap s.heap [] := va_S.rf
  have hl := lv_entry ([.int p0, .int p1]) (n := 3) (Nat.le_of_ble_eq_true rfl)
  rw [lg_entry_eq]
  generalize (lg_sl ([.int p0, .int p1]) ++ List.replicate (3 - (lg_sl ([.int p0, .int p1])).length) Slot.unset).toArray = ls at hl ⊢
  have hl : lv_has ls 3 [(0, .int p0), (1, .int p1)] := hl
  unfold FX9_mayBeFour at hF
  refine lv_iload_n hx hb dX9_mayBeFour_0 rfl (lv_at hl 0 rfl) ?_
  refine lv_iconst (v := (2 : Int32)) hx hb dX9_mayBeFour_1 (by decide) ?_
  obtain ⟨y1, hy1, hF⟩ := bnd_some hF
  have J1 : ∀ (H : Heap) (locs : List Loc) (ls : Array Slot), va_P D classes (wld ct ad G M) H → va_D A (wld ct ad G M) → va_S A s.heap H locs → lv_has ls 3 [(0, .int p0), (1, .int p1)] → W p l e (headSpec wuX9_mayBeFour ({ frames := 0, cells := 0, slots := 0, locals := 0 })).room s m ([.int p0, .int p1] : List Value).toArray below meth c H locs 0 0 (MQ below (va_Qi (fun (q : Int32) (_ : Unit) => q = y.2) (fun _ t => kE D ct ad G A y.1 t) A) ([.int p0, .int p1] : List Value).toArray s 0 0 A) (F0 m 41 ls [.int y1]) := by
    intro H locs ls hP hD hS hl
    refine lv_istore_n (lv' := [(2, .int y1), (0, .int p0), (1, .int p1)]) hx hb dX9_mayBeFour_41 rfl hl (by decide) rfl (fun ls hl => ?_)
    refine lv_iload_n hx hb dX9_mayBeFour_42 rfl (lv_at hl 2 rfl) ?_
    refine lv_iload_n hx hb dX9_mayBeFour_43 rfl (lv_at hl 0 rfl) ?_
    refine lv_iand hx hb dX9_mayBeFour_44 ?_
    obtain ⟨x2, ex2, hF⟩ := ltt_some hF
    refine lv_topi (fun zx2 ezx2 => ?_)
    obtain rfl : x2 = zx2 := ex2.trans ezx2.symm
    refine lv_iload_n hx hb dX9_mayBeFour_45 rfl (lv_at hl 0 rfl) ?_
    obtain ⟨y3, hy3, hF⟩ := bnd_some hF
    have J3 : ∀ (H : Heap) (locs : List Loc) (ls : Array Slot), va_P D classes (wld ct ad G M) H → va_D A (wld ct ad G M) → va_S A s.heap H locs → lv_has ls 3 [(2, .int y1), (0, .int p0), (1, .int p1)] → W p l e (headSpec wuX9_mayBeFour ({ frames := 0, cells := 0, slots := 0, locals := 0 })).room s m ([.int p0, .int p1] : List Value).toArray below meth c H locs 0 0 (MQ below (va_Qi (fun (q : Int32) (_ : Unit) => q = y.2) (fun _ t => kE D ct ad G A y.1 t) A) ([.int p0, .int p1] : List Value).toArray s 0 0 A) (F0 m 54 ls [.int y3]) := by
      intro H locs ls hP hD hS hl
      obtain ⟨hz9, hF⟩ := chk_some hF
      obtain rfl := Option.some.inj hF
      exact W.zret (v := y3) (ty := .boolean) hx hb hr (nar_z hz9).1 (fun t ht hW => ⟨⟨_, (), rfl, rfl, ⟨by rw [ht]; exact hP, va_K.moved hW.alike hK, hD⟩⟩, hS.F ht⟩) hS.2.2 dX9_mayBeFour_54
    clear hF
    have hF := hy3
    clear hy3
    refine lv_icmp_ne (tgt := 53) hx hb dX9_mayBeFour_46 (by decide) (fun c4 => ?_) (fun c4 => ?_)
    · rw [if_neg c4] at hF
      refine lv_iconst (v := (0 : Int32)) hx hb dX9_mayBeFour_53 (by decide) ?_
      obtain rfl := Option.some.inj hF
      exact J3 _ _ _ hP hD hS (lv_sub hl [0, 1, 2] rfl)
    · rw [if_pos c4] at hF
      refine lv_iconst (v := (1 : Int32)) hx hb dX9_mayBeFour_49 (by decide) ?_
      refine lv_goto (tgt := 54) hx hb dX9_mayBeFour_50 (by decide) ?_
      obtain rfl := Option.some.inj hF
      exact J3 _ _ _ hP hD hS (lv_sub hl [0, 1, 2] rfl)
  clear hF
  have hF := hy1
  clear hy1
  refine lv_icmp_ne (tgt := 9) hx hb dX9_mayBeFour_2 (by decide) (fun c5 => ?_) (fun c5 => ?_)
  · rw [if_neg c5] at hF
    refine lv_iload_n hx hb dX9_mayBeFour_9 rfl (lv_at hl 0 rfl) ?_
    refine lv_iconst (v := (1 : Int32)) hx hb dX9_mayBeFour_10 (by decide) ?_
    obtain ⟨y6, hy6, hF⟩ := bnd_some hF
    have J6 : ∀ (H : Heap) (locs : List Loc) (ls : Array Slot), va_P D classes (wld ct ad G M) H → va_D A (wld ct ad G M) → va_S A s.heap H locs → lv_has ls 3 [(0, .int p0), (1, .int p1)] → W p l e (headSpec wuX9_mayBeFour ({ frames := 0, cells := 0, slots := 0, locals := 0 })).room s m ([.int p0, .int p1] : List Value).toArray below meth c H locs 0 0 (MQ below (va_Qi (fun (q : Int32) (_ : Unit) => q = y.2) (fun _ t => kE D ct ad G A y.1 t) A) ([.int p0, .int p1] : List Value).toArray s 0 0 A) (F0 m 41 ls [.int y6]) := by
      intro H locs ls hP hD hS hl
      obtain rfl := Option.some.inj hF
      exact J1 _ _ _ hP hD hS (lv_sub hl [0, 1] rfl)
    clear hF
    have hF := hy6
    clear hy6
    refine lv_icmp_eq (tgt := 20) hx hb dX9_mayBeFour_11 (by decide) (fun c7 => ?_) (fun c7 => ?_)
    · rw [if_pos c7] at hF
      refine lv_iconst (v := (1 : Int32)) hx hb dX9_mayBeFour_20 (by decide) ?_
      refine lv_goto (tgt := 41) hx hb dX9_mayBeFour_21 (by decide) ?_
      obtain rfl := Option.some.inj hF
      exact J6 _ _ _ hP hD hS (lv_sub hl [0, 1] rfl)
    · rw [if_neg c7] at hF
      refine lv_iload_n hx hb dX9_mayBeFour_14 rfl (lv_at hl 0 rfl) ?_
      refine lv_bipush (v := (8 : Int32)) hx hb dX9_mayBeFour_15 (by decide) ?_
      obtain ⟨y8, hy8, hF⟩ := bnd_some hF
      have J8 : ∀ (H : Heap) (locs : List Loc) (ls : Array Slot), va_P D classes (wld ct ad G M) H → va_D A (wld ct ad G M) → va_S A s.heap H locs → lv_has ls 3 [(0, .int p0), (1, .int p1)] → W p l e (headSpec wuX9_mayBeFour ({ frames := 0, cells := 0, slots := 0, locals := 0 })).room s m ([.int p0, .int p1] : List Value).toArray below meth c H locs 0 0 (MQ below (va_Qi (fun (q : Int32) (_ : Unit) => q = y.2) (fun _ t => kE D ct ad G A y.1 t) A) ([.int p0, .int p1] : List Value).toArray s 0 0 A) (F0 m 41 ls [.int y8]) := by
        intro H locs ls hP hD hS hl
        obtain rfl := Option.some.inj hF
        exact J6 _ _ _ hP hD hS (lv_sub hl [0, 1] rfl)
      clear hF
      have hF := hy8
      clear hy8
      refine lv_icmp_ne (tgt := 24) hx hb dX9_mayBeFour_17 (by decide) (fun c9 => ?_) (fun c9 => ?_)
      · rw [if_neg c9] at hF
        refine lv_iload_n hx hb dX9_mayBeFour_24 rfl (lv_at hl 0 rfl) ?_
        refine lv_iconst (v := (4 : Int32)) hx hb dX9_mayBeFour_25 (by decide) ?_
        obtain ⟨y10, hy10, hF⟩ := bnd_some hF
        have J10 : ∀ (H : Heap) (locs : List Loc) (ls : Array Slot), va_P D classes (wld ct ad G M) H → va_D A (wld ct ad G M) → va_S A s.heap H locs → lv_has ls 3 [(0, .int p0), (1, .int p1)] → W p l e (headSpec wuX9_mayBeFour ({ frames := 0, cells := 0, slots := 0, locals := 0 })).room s m ([.int p0, .int p1] : List Value).toArray below meth c H locs 0 0 (MQ below (va_Qi (fun (q : Int32) (_ : Unit) => q = y.2) (fun _ t => kE D ct ad G A y.1 t) A) ([.int p0, .int p1] : List Value).toArray s 0 0 A) (F0 m 41 ls [.int y10]) := by
          intro H locs ls hP hD hS hl
          obtain rfl := Option.some.inj hF
          exact J8 _ _ _ hP hD hS (lv_sub hl [0, 1] rfl)
        clear hF
        have hF := hy10
        clear hy10
        refine lv_icmp_lt (tgt := 35) hx hb dX9_mayBeFour_26 (by decide) (fun c11 => ?_) (fun c11 => ?_)
        · rw [if_pos c11] at hF
          refine lv_iconst (v := (2 : Int32)) hx hb dX9_mayBeFour_35 (by decide) ?_
          refine lv_goto (tgt := 41) hx hb dX9_mayBeFour_36 (by decide) ?_
          obtain rfl := Option.some.inj hF
          exact J10 _ _ _ hP hD hS (lv_sub hl [0, 1] rfl)
        · rw [if_neg c11] at hF
          refine lv_iload_n hx hb dX9_mayBeFour_29 rfl (lv_at hl 0 rfl) ?_
          refine lv_bipush (v := (7 : Int32)) hx hb dX9_mayBeFour_30 (by decide) ?_
          obtain ⟨y12, hy12, hF⟩ := bnd_some hF
          have J12 : ∀ (H : Heap) (locs : List Loc) (ls : Array Slot), va_P D classes (wld ct ad G M) H → va_D A (wld ct ad G M) → va_S A s.heap H locs → lv_has ls 3 [(0, .int p0), (1, .int p1)] → W p l e (headSpec wuX9_mayBeFour ({ frames := 0, cells := 0, slots := 0, locals := 0 })).room s m ([.int p0, .int p1] : List Value).toArray below meth c H locs 0 0 (MQ below (va_Qi (fun (q : Int32) (_ : Unit) => q = y.2) (fun _ t => kE D ct ad G A y.1 t) A) ([.int p0, .int p1] : List Value).toArray s 0 0 A) (F0 m 41 ls [.int y12]) := by
            intro H locs ls hP hD hS hl
            obtain rfl := Option.some.inj hF
            exact J10 _ _ _ hP hD hS (lv_sub hl [0, 1] rfl)
          clear hF
          have hF := hy12
          clear hy12
          refine lv_icmp_ne (tgt := 39) hx hb dX9_mayBeFour_32 (by decide) (fun c13 => ?_) (fun c13 => ?_)
          · rw [if_neg c13] at hF
            refine lv_bipush (v := (7 : Int32)) hx hb dX9_mayBeFour_39 (by decide) ?_
            obtain rfl := Option.some.inj hF
            exact J12 _ _ _ hP hD hS (lv_sub hl [0, 1] rfl)
          · rw [if_pos c13] at hF
            refine lv_iconst (v := (2 : Int32)) hx hb dX9_mayBeFour_35 (by decide) ?_
            refine lv_goto (tgt := 41) hx hb dX9_mayBeFour_36 (by decide) ?_
            obtain rfl := Option.some.inj hF
            exact J12 _ _ _ hP hD hS (lv_sub hl [0, 1] rfl)
      · rw [if_pos c9] at hF
        refine lv_iconst (v := (1 : Int32)) hx hb dX9_mayBeFour_20 (by decide) ?_
        refine lv_goto (tgt := 41) hx hb dX9_mayBeFour_21 (by decide) ?_
        obtain rfl := Option.some.inj hF
        exact J8 _ _ _ hP hD hS (lv_sub hl [0, 1] rfl)
  · rw [if_pos c5] at hF
    refine lv_iconst (v := (0 : Int32)) hx hb dX9_mayBeFour_5 (by decide) ?_
    refine lv_goto (tgt := 41) hx hb dX9_mayBeFour_6 (by decide) ?_
    obtain rfl := Option.some.inj hF
    exact J1 _ _ _ hP hD hS (lv_sub hl [0, 1] rfl)
theorem dX9_mayBeSixteen_0 : decode cX9_mayBeSixteen 0 = .ok (.iload_n 0, 1) := by decide +kernel
theorem dX9_mayBeSixteen_1 : decode cX9_mayBeSixteen 1 = .ok (.ifCond .ne 7, 3) := by decide +kernel
theorem dX9_mayBeSixteen_4 : decode cX9_mayBeSixteen 4 = .ok (.iconst 2, 1) := by decide +kernel
theorem dX9_mayBeSixteen_5 : decode cX9_mayBeSixteen 5 = .ok (.goto 23, 3) := by decide +kernel
theorem dX9_mayBeSixteen_8 : decode cX9_mayBeSixteen 8 = .ok (.iload_n 0, 1) := by decide +kernel
theorem dX9_mayBeSixteen_9 : decode cX9_mayBeSixteen 9 = .ok (.iconst 1, 1) := by decide +kernel
theorem dX9_mayBeSixteen_10 : decode cX9_mayBeSixteen 10 = .ok (.if_icmp .ne 7, 3) := by decide +kernel
theorem dX9_mayBeSixteen_13 : decode cX9_mayBeSixteen 13 = .ok (.iconst 1, 1) := by decide +kernel
theorem dX9_mayBeSixteen_14 : decode cX9_mayBeSixteen 14 = .ok (.goto 14, 3) := by decide +kernel
theorem dX9_mayBeSixteen_17 : decode cX9_mayBeSixteen 17 = .ok (.iload_n 0, 1) := by decide +kernel
theorem dX9_mayBeSixteen_18 : decode cX9_mayBeSixteen 18 = .ok (.iconst 2, 1) := by decide +kernel
theorem dX9_mayBeSixteen_19 : decode cX9_mayBeSixteen 19 = .ok (.if_icmp .ne 7, 3) := by decide +kernel
theorem dX9_mayBeSixteen_22 : decode cX9_mayBeSixteen 22 = .ok (.iconst 0, 1) := by decide +kernel
theorem dX9_mayBeSixteen_23 : decode cX9_mayBeSixteen 23 = .ok (.goto 5, 3) := by decide +kernel
theorem dX9_mayBeSixteen_26 : decode cX9_mayBeSixteen 26 = .ok (.bipush 7, 2) := by decide +kernel
theorem dX9_mayBeSixteen_28 : decode cX9_mayBeSixteen 28 = .ok (.istore_n 2, 1) := by decide +kernel
theorem dX9_mayBeSixteen_29 : decode cX9_mayBeSixteen 29 = .ok (.iload_n 1, 1) := by decide +kernel
theorem dX9_mayBeSixteen_30 : decode cX9_mayBeSixteen 30 = .ok (.iload_n 2, 1) := by decide +kernel
theorem dX9_mayBeSixteen_31 : decode cX9_mayBeSixteen 31 = .ok (.iand, 1) := by decide +kernel
theorem dX9_mayBeSixteen_32 : decode cX9_mayBeSixteen 32 = .ok (.iload_n 2, 1) := by decide +kernel
theorem dX9_mayBeSixteen_33 : decode cX9_mayBeSixteen 33 = .ok (.if_icmp .ne 7, 3) := by decide +kernel
theorem dX9_mayBeSixteen_36 : decode cX9_mayBeSixteen 36 = .ok (.iconst 1, 1) := by decide +kernel
theorem dX9_mayBeSixteen_37 : decode cX9_mayBeSixteen 37 = .ok (.goto 4, 3) := by decide +kernel
theorem dX9_mayBeSixteen_40 : decode cX9_mayBeSixteen 40 = .ok (.iconst 0, 1) := by decide +kernel
theorem dX9_mayBeSixteen_41 : decode cX9_mayBeSixteen 41 = .ok (.ireturn, 1) := by decide +kernel
def FX9_mayBeSixteen (G : GG) (M : DD) (p0 : Int32) (p1 : Int32) : Option (DD × Int32) :=
  bnd (if p0 = ((0 : Int32)) then (some ((2 : Int32))) else
  (bnd (if p0 = ((1 : Int32)) then (some ((1 : Int32))) else
  (bnd (if p0 = ((2 : Int32)) then (some ((0 : Int32))) else
  (some ((7 : Int32)))) fun (y8 : Int32) =>
  some (y8))) fun (y6 : Int32) =>
  some (y6))) fun (y1 : Int32) =>
  ltt ((p1 &&& y1)) fun x2 =>
  bnd (if x2 = y1 then (some ((1 : Int32))) else
  (some ((0 : Int32)))) fun (y3 : Int32) =>
  chk (y3 = 0 ∨ y3 = 1) <|
  some (M, y3)
set_option maxHeartbeats 4000000 in
set_option maxRecDepth 100000 in
theorem kX9_mayBeSixteen (l : Launch) (D : va_G) (ct : CT) (ad : Nat → Nat) (Z : Nat → Nat) (G : GG) (M : DD) (sz : Nat) (p0 : Int32) (p1 : Int32) (y : DD × Int32) (hF : FX9_mayBeSixteen G M p0 p1 = some y) : Met l yX9_mayBeSixteen wuX9_mayBeSixteen ({ frames := 0, cells := 0, slots := 0, locals := 0 }) (va_Pc [.int p0, .int p1] (kB D ct ad Z G M sz)) (va_Qi (fun (q : Int32) (_ : Unit) => q = y.2) (fun _ t => kE D ct ad G (wA ad G sz) y.1 t) (wA ad G sz)) 0 0 (wA ad G sz) := by
  refine Met.ofW (cc := cX9_mayBeSixteen) (maxL := 3) (ret := (some .boolean)) (by decide) rfl ?_
  intro p e s m args below meth c s₁ B hml hv
  obtain ⟨rfl, hsz, hP, hK, hD0, hZ, hN⟩ := hv
  have hx := B.exec
  have hb := B.bytes
  have hr := B.returns
  have hts := atoms_spec (ws := wuX9_mayBeSixteen) B.pre
  have hown : s.vm.findClass RX9 = some m.cls := findClass_of_methodNamed B.named
  have hlocks := B.notSynchronized
  subst hsz
  have hD := wD_self (sz := s.heap.size) hD0
  have hA9 : ∀ q, s.heap.size ≤ q → wA ad G s.heap.size q := fun q h => Or.inr h
  generalize hAe : wA ad G s.heap.size = A at hD hA9 hZ ⊢
  have hS : va_S A s.heap s.heap [] := va_S.rf
  have hl := lv_entry ([.int p0, .int p1]) (n := 3) (Nat.le_of_ble_eq_true rfl)
  rw [lg_entry_eq]
  generalize (lg_sl ([.int p0, .int p1]) ++ List.replicate (3 - (lg_sl ([.int p0, .int p1])).length) Slot.unset).toArray = ls at hl ⊢
  have hl : lv_has ls 3 [(0, .int p0), (1, .int p1)] := hl
  unfold FX9_mayBeSixteen at hF
  refine lv_iload_n hx hb dX9_mayBeSixteen_0 rfl (lv_at hl 0 rfl) ?_
  obtain ⟨y1, hy1, hF⟩ := bnd_some hF
  have J1 : ∀ (H : Heap) (locs : List Loc) (ls : Array Slot), va_P D classes (wld ct ad G M) H → va_D A (wld ct ad G M) → va_S A s.heap H locs → lv_has ls 3 [(0, .int p0), (1, .int p1)] → W p l e (headSpec wuX9_mayBeSixteen ({ frames := 0, cells := 0, slots := 0, locals := 0 })).room s m ([.int p0, .int p1] : List Value).toArray below meth c H locs 0 0 (MQ below (va_Qi (fun (q : Int32) (_ : Unit) => q = y.2) (fun _ t => kE D ct ad G A y.1 t) A) ([.int p0, .int p1] : List Value).toArray s 0 0 A) (F0 m 28 ls [.int y1]) := by
    intro H locs ls hP hD hS hl
    refine lv_istore_n (lv' := [(2, .int y1), (0, .int p0), (1, .int p1)]) hx hb dX9_mayBeSixteen_28 rfl hl (by decide) rfl (fun ls hl => ?_)
    refine lv_iload_n hx hb dX9_mayBeSixteen_29 rfl (lv_at hl 2 rfl) ?_
    refine lv_iload_n hx hb dX9_mayBeSixteen_30 rfl (lv_at hl 0 rfl) ?_
    refine lv_iand hx hb dX9_mayBeSixteen_31 ?_
    obtain ⟨x2, ex2, hF⟩ := ltt_some hF
    refine lv_topi (fun zx2 ezx2 => ?_)
    obtain rfl : x2 = zx2 := ex2.trans ezx2.symm
    refine lv_iload_n hx hb dX9_mayBeSixteen_32 rfl (lv_at hl 0 rfl) ?_
    obtain ⟨y3, hy3, hF⟩ := bnd_some hF
    have J3 : ∀ (H : Heap) (locs : List Loc) (ls : Array Slot), va_P D classes (wld ct ad G M) H → va_D A (wld ct ad G M) → va_S A s.heap H locs → lv_has ls 3 [(2, .int y1), (0, .int p0), (1, .int p1)] → W p l e (headSpec wuX9_mayBeSixteen ({ frames := 0, cells := 0, slots := 0, locals := 0 })).room s m ([.int p0, .int p1] : List Value).toArray below meth c H locs 0 0 (MQ below (va_Qi (fun (q : Int32) (_ : Unit) => q = y.2) (fun _ t => kE D ct ad G A y.1 t) A) ([.int p0, .int p1] : List Value).toArray s 0 0 A) (F0 m 41 ls [.int y3]) := by
      intro H locs ls hP hD hS hl
      obtain ⟨hz9, hF⟩ := chk_some hF
      obtain rfl := Option.some.inj hF
      exact W.zret (v := y3) (ty := .boolean) hx hb hr (nar_z hz9).1 (fun t ht hW => ⟨⟨_, (), rfl, rfl, ⟨by rw [ht]; exact hP, va_K.moved hW.alike hK, hD⟩⟩, hS.F ht⟩) hS.2.2 dX9_mayBeSixteen_41
    clear hF
    have hF := hy3
    clear hy3
    refine lv_icmp_ne (tgt := 40) hx hb dX9_mayBeSixteen_33 (by decide) (fun c4 => ?_) (fun c4 => ?_)
    · rw [if_neg c4] at hF
      refine lv_iconst (v := (0 : Int32)) hx hb dX9_mayBeSixteen_40 (by decide) ?_
      obtain rfl := Option.some.inj hF
      exact J3 _ _ _ hP hD hS (lv_sub hl [0, 1, 2] rfl)
    · rw [if_pos c4] at hF
      refine lv_iconst (v := (1 : Int32)) hx hb dX9_mayBeSixteen_36 (by decide) ?_
      refine lv_goto (tgt := 41) hx hb dX9_mayBeSixteen_37 (by decide) ?_
      obtain rfl := Option.some.inj hF
      exact J3 _ _ _ hP hD hS (lv_sub hl [0, 1, 2] rfl)
  clear hF
  have hF := hy1
  clear hy1
  refine lv_if_ne (tgt := 8) hx hb dX9_mayBeSixteen_1 (by decide) (fun c5 => ?_) (fun c5 => ?_)
  · rw [if_neg c5] at hF
    refine lv_iload_n hx hb dX9_mayBeSixteen_8 rfl (lv_at hl 0 rfl) ?_
    refine lv_iconst (v := (1 : Int32)) hx hb dX9_mayBeSixteen_9 (by decide) ?_
    obtain ⟨y6, hy6, hF⟩ := bnd_some hF
    have J6 : ∀ (H : Heap) (locs : List Loc) (ls : Array Slot), va_P D classes (wld ct ad G M) H → va_D A (wld ct ad G M) → va_S A s.heap H locs → lv_has ls 3 [(0, .int p0), (1, .int p1)] → W p l e (headSpec wuX9_mayBeSixteen ({ frames := 0, cells := 0, slots := 0, locals := 0 })).room s m ([.int p0, .int p1] : List Value).toArray below meth c H locs 0 0 (MQ below (va_Qi (fun (q : Int32) (_ : Unit) => q = y.2) (fun _ t => kE D ct ad G A y.1 t) A) ([.int p0, .int p1] : List Value).toArray s 0 0 A) (F0 m 28 ls [.int y6]) := by
      intro H locs ls hP hD hS hl
      obtain rfl := Option.some.inj hF
      exact J1 _ _ _ hP hD hS (lv_sub hl [0, 1] rfl)
    clear hF
    have hF := hy6
    clear hy6
    refine lv_icmp_ne (tgt := 17) hx hb dX9_mayBeSixteen_10 (by decide) (fun c7 => ?_) (fun c7 => ?_)
    · rw [if_neg c7] at hF
      refine lv_iload_n hx hb dX9_mayBeSixteen_17 rfl (lv_at hl 0 rfl) ?_
      refine lv_iconst (v := (2 : Int32)) hx hb dX9_mayBeSixteen_18 (by decide) ?_
      obtain ⟨y8, hy8, hF⟩ := bnd_some hF
      have J8 : ∀ (H : Heap) (locs : List Loc) (ls : Array Slot), va_P D classes (wld ct ad G M) H → va_D A (wld ct ad G M) → va_S A s.heap H locs → lv_has ls 3 [(0, .int p0), (1, .int p1)] → W p l e (headSpec wuX9_mayBeSixteen ({ frames := 0, cells := 0, slots := 0, locals := 0 })).room s m ([.int p0, .int p1] : List Value).toArray below meth c H locs 0 0 (MQ below (va_Qi (fun (q : Int32) (_ : Unit) => q = y.2) (fun _ t => kE D ct ad G A y.1 t) A) ([.int p0, .int p1] : List Value).toArray s 0 0 A) (F0 m 28 ls [.int y8]) := by
        intro H locs ls hP hD hS hl
        obtain rfl := Option.some.inj hF
        exact J6 _ _ _ hP hD hS (lv_sub hl [0, 1] rfl)
      clear hF
      have hF := hy8
      clear hy8
      refine lv_icmp_ne (tgt := 26) hx hb dX9_mayBeSixteen_19 (by decide) (fun c9 => ?_) (fun c9 => ?_)
      · rw [if_neg c9] at hF
        refine lv_bipush (v := (7 : Int32)) hx hb dX9_mayBeSixteen_26 (by decide) ?_
        obtain rfl := Option.some.inj hF
        exact J8 _ _ _ hP hD hS (lv_sub hl [0, 1] rfl)
      · rw [if_pos c9] at hF
        refine lv_iconst (v := (0 : Int32)) hx hb dX9_mayBeSixteen_22 (by decide) ?_
        refine lv_goto (tgt := 28) hx hb dX9_mayBeSixteen_23 (by decide) ?_
        obtain rfl := Option.some.inj hF
        exact J8 _ _ _ hP hD hS (lv_sub hl [0, 1] rfl)
    · rw [if_pos c7] at hF
      refine lv_iconst (v := (1 : Int32)) hx hb dX9_mayBeSixteen_13 (by decide) ?_
      refine lv_goto (tgt := 28) hx hb dX9_mayBeSixteen_14 (by decide) ?_
      obtain rfl := Option.some.inj hF
      exact J6 _ _ _ hP hD hS (lv_sub hl [0, 1] rfl)
  · rw [if_pos c5] at hF
    refine lv_iconst (v := (2 : Int32)) hx hb dX9_mayBeSixteen_4 (by decide) ?_
    refine lv_goto (tgt := 28) hx hb dX9_mayBeSixteen_5 (by decide) ?_
    obtain rfl := Option.some.inj hF
    exact J1 _ _ _ hP hD hS (lv_sub hl [0, 1] rfl)
theorem dX9_mayUse_0 : decode cX9_mayUse 0 = .ok (.iload_n 1, 1) := by decide +kernel
theorem dX9_mayUse_1 : decode cX9_mayUse 1 = .ok (.ifCond .lt 34, 3) := by decide +kernel
theorem dX9_mayUse_4 : decode cX9_mayUse 4 = .ok (.aload_n 0, 1) := by decide +kernel
theorem dX9_mayUse_5 : decode cX9_mayUse 5 = .ok (.getfield 119, 3) := by decide +kernel
theorem dX9_mayUse_8 : decode cX9_mayUse 8 = .ok (.bipush 10, 2) := by decide +kernel
theorem dX9_mayUse_10 : decode cX9_mayUse 10 = .ok (.iaload, 1) := by decide +kernel
theorem dX9_mayUse_11 : decode cX9_mayUse 11 = .ok (.ifCond .eq 20, 3) := by decide +kernel
theorem dX9_mayUse_14 : decode cX9_mayUse 14 = .ok (.aload_n 0, 1) := by decide +kernel
theorem dX9_mayUse_15 : decode cX9_mayUse 15 = .ok (.getfield 24, 3) := by decide +kernel
theorem dX9_mayUse_18 : decode cX9_mayUse 18 = .ok (.bipush 8, 2) := by decide +kernel
theorem dX9_mayUse_20 : decode cX9_mayUse 20 = .ok (.iload_n 1, 1) := by decide +kernel
theorem dX9_mayUse_21 : decode cX9_mayUse 21 = .ok (.iconst 4, 1) := by decide +kernel
theorem dX9_mayUse_22 : decode cX9_mayUse 22 = .ok (.ishr, 1) := by decide +kernel
theorem dX9_mayUse_23 : decode cX9_mayUse 23 = .ok (.imul, 1) := by decide +kernel
theorem dX9_mayUse_24 : decode cX9_mayUse 24 = .ok (.iconst 0, 1) := by decide +kernel
theorem dX9_mayUse_25 : decode cX9_mayUse 25 = .ok (.iadd, 1) := by decide +kernel
theorem dX9_mayUse_26 : decode cX9_mayUse 26 = .ok (.iaload, 1) := by decide +kernel
theorem dX9_mayUse_27 : decode cX9_mayUse 27 = .ok (.iconst 3, 1) := by decide +kernel
theorem dX9_mayUse_28 : decode cX9_mayUse 28 = .ok (.if_icmp .eq 7, 3) := by decide +kernel
theorem dX9_mayUse_31 : decode cX9_mayUse 31 = .ok (.iconst 1, 1) := by decide +kernel
theorem dX9_mayUse_32 : decode cX9_mayUse 32 = .ok (.goto 4, 3) := by decide +kernel
theorem dX9_mayUse_35 : decode cX9_mayUse 35 = .ok (.iconst 0, 1) := by decide +kernel
theorem dX9_mayUse_36 : decode cX9_mayUse 36 = .ok (.ireturn, 1) := by decide +kernel
def FX9_mayUse (G : GG) (M : DD) (a : Nat) (p0 : Int32) : Option (DD × Int32) :=
  bnd (if p0 < ((0 : Int32)) then (some ((0 : Int32))) else
  (dr G 13 ((M.2 a 2)) fun b3 =>
  chk (¬ (((10 : Int32)) < 0 ∨ G.2.2 b3 ≤ ((10 : Int32)).toNatClampNeg)) <|
  ltt (M.1 b3 ((10 : Int32)).toNatClampNeg) fun x4 =>
  bnd (if x4 = ((0 : Int32)) then (some ((1 : Int32))) else
  (ltt ((p0 >>> (((4 : Int32)) &&& 31))) fun x7 =>
  ltt ((((8 : Int32)) * x7)) fun x8 =>
  ltt ((x8 + ((0 : Int32)))) fun x9 =>
  dr G 13 ((M.2 a 6)) fun b10 =>
  chk (¬ (x9 < 0 ∨ G.2.2 b10 ≤ x9.toNatClampNeg)) <|
  ltt (M.1 b10 x9.toNatClampNeg) fun x11 =>
  bnd (if x11 = ((3 : Int32)) then (some ((0 : Int32))) else
  (some ((1 : Int32)))) fun (y12 : Int32) =>
  some (y12))) fun (y5 : Int32) =>
  some (y5))) fun (y1 : Int32) =>
  chk (y1 = 0 ∨ y1 = 1) <|
  some (M, y1)
set_option maxHeartbeats 4000000 in
set_option maxRecDepth 100000 in
theorem kX9_mayUse (l : Launch) (D : va_G) (ct : CT) (ad : Nat → Nat) (Z : Nat → Nat) (G : GG) (M : DD) (sz : Nat) (a : Nat) (p0 : Int32) (y : DD × Int32) (hc : a < G.1) (hk : G.2.1 a = 9) (hF : FX9_mayUse G M a p0 = some y) : Met l yX9_mayUse wuX9_mayUse ({ frames := 0, cells := 0, slots := 0, locals := 0 }) (va_Pc [.ref (ad a), .int p0] (kB D ct ad Z G M sz)) (va_Qi (fun (q : Int32) (_ : Unit) => q = y.2) (fun _ t => kE D ct ad G (wA ad G sz) y.1 t) (wA ad G sz)) 0 0 (wA ad G sz) := by
  refine Met.ofW (cc := cX9_mayUse) (maxL := 2) (ret := (some .boolean)) (by decide) rfl ?_
  intro p e s m args below meth c s₁ B hml hv
  obtain ⟨rfl, hsz, hP, hK, hD0, hZ, hN⟩ := hv
  have hx := B.exec
  have hb := B.bytes
  have hr := B.returns
  have hts := atoms_spec (ws := wuX9_mayUse) B.pre
  have hown : s.vm.findClass RX9 = some m.cls := findClass_of_methodNamed B.named
  have hlocks := B.notSynchronized
  subst hsz
  have hD := wD_self (sz := s.heap.size) hD0
  have hA9 : ∀ q, s.heap.size ≤ q → wA ad G s.heap.size q := fun q h => Or.inr h
  generalize hAe : wA ad G s.heap.size = A at hD hA9 hZ ⊢
  have hS : va_S A s.heap s.heap [] := va_S.rf
  have hl := lv_entry ([.ref (ad a), .int p0]) (n := 2) (Nat.le_of_ble_eq_true rfl)
  rw [lg_entry_eq]
  generalize (lg_sl ([.ref (ad a), .int p0]) ++ List.replicate (2 - (lg_sl ([.ref (ad a), .int p0])).length) Slot.unset).toArray = ls at hl ⊢
  have hl : lv_has ls 2 [(0, .ref (ad a)), (1, .int p0)] := hl
  unfold FX9_mayUse at hF
  refine lv_iload_n hx hb dX9_mayUse_0 rfl (lv_at hl 1 rfl) ?_
  obtain ⟨y1, hy1, hF⟩ := bnd_some hF
  have J1 : ∀ (H : Heap) (locs : List Loc) (ls : Array Slot), va_P D classes (wld ct ad G M) H → va_D A (wld ct ad G M) → va_S A s.heap H locs → lv_has ls 2 [(0, .ref (ad a)), (1, .int p0)] → W p l e (headSpec wuX9_mayUse ({ frames := 0, cells := 0, slots := 0, locals := 0 })).room s m ([.ref (ad a), .int p0] : List Value).toArray below meth c H locs 0 0 (MQ below (va_Qi (fun (q : Int32) (_ : Unit) => q = y.2) (fun _ t => kE D ct ad G A y.1 t) A) ([.ref (ad a), .int p0] : List Value).toArray s 0 0 A) (F0 m 36 ls [.int y1]) := by
    intro H locs ls hP hD hS hl
    obtain ⟨hz9, hF⟩ := chk_some hF
    obtain rfl := Option.some.inj hF
    exact W.zret (v := y1) (ty := .boolean) hx hb hr (nar_z hz9).1 (fun t ht hW => ⟨⟨_, (), rfl, rfl, ⟨by rw [ht]; exact hP, va_K.moved hW.alike hK, hD⟩⟩, hS.F ht⟩) hS.2.2 dX9_mayUse_36
  clear hF
  have hF := hy1
  clear hy1
  refine lv_if_lt (tgt := 35) hx hb dX9_mayUse_1 (by decide) (fun c2 => ?_) (fun c2 => ?_)
  · rw [if_pos c2] at hF
    refine lv_iconst (v := (0 : Int32)) hx hb dX9_mayUse_35 (by decide) ?_
    obtain rfl := Option.some.inj hF
    exact J1 _ _ _ hP hD hS (lv_sub hl [0, 1] rfl)
  · rw [if_neg c2] at hF
    refine lv_aload_n hx hb dX9_mayUse_4 rfl (lv_at hl 0 rfl) ?_
    refine va_get (D := D) (ci := 9) (v := va_re ad (M.2 a 2)) (C := RX9) (T := TX9) (N := 20) hx hb hts (mus hf_X9) hown hK hP a (wld_o ct ad G M hc hk (by decide)) rfl 2 (by decide) (hts (.fieldLink RX9 119 "VideoSuite$Work" "par" "[I") (mu mw_432)) (fun _ h9 => h9) rfl dX9_mayUse_5 ?_
    refine lv_bipush (v := (10 : Int32)) hx hb dX9_mayUse_8 (by decide) ?_
    obtain ⟨b3, ho3, hc3, hk3, hF⟩ := dr_some hF
    refine W_st (st' := [.int (10 : Int32), .ref (ad b3)]) (by rw [va_some ho3]) ?_
    obtain ⟨hvc, hF⟩ := chk_some hF
    refine va_iald hx hb hK hP b3 1 (wld_i ct ad G M hc3 hk3) rfl hvc dX9_mayUse_10 ?_
    obtain ⟨x4, ex4, hF⟩ := ltt_some hF
    refine lv_topi (fun zx4 ezx4 => ?_)
    obtain rfl : x4 = zx4 := ex4.trans ezx4.symm
    obtain ⟨y5, hy5, hF⟩ := bnd_some hF
    have J5 : ∀ (H : Heap) (locs : List Loc) (ls : Array Slot), va_P D classes (wld ct ad G M) H → va_D A (wld ct ad G M) → va_S A s.heap H locs → lv_has ls 2 [(0, .ref (ad a)), (1, .int p0)] → W p l e (headSpec wuX9_mayUse ({ frames := 0, cells := 0, slots := 0, locals := 0 })).room s m ([.ref (ad a), .int p0] : List Value).toArray below meth c H locs 0 0 (MQ below (va_Qi (fun (q : Int32) (_ : Unit) => q = y.2) (fun _ t => kE D ct ad G A y.1 t) A) ([.ref (ad a), .int p0] : List Value).toArray s 0 0 A) (F0 m 36 ls [.int y5]) := by
      intro H locs ls hP hD hS hl
      obtain rfl := Option.some.inj hF
      exact J1 _ _ _ hP hD hS (lv_sub hl [0, 1] rfl)
    clear hF
    have hF := hy5
    clear hy5
    refine lv_if_eq (tgt := 31) hx hb dX9_mayUse_11 (by decide) (fun c6 => ?_) (fun c6 => ?_)
    · rw [if_pos c6] at hF
      refine lv_iconst (v := (1 : Int32)) hx hb dX9_mayUse_31 (by decide) ?_
      refine lv_goto (tgt := 36) hx hb dX9_mayUse_32 (by decide) ?_
      obtain rfl := Option.some.inj hF
      exact J5 _ _ _ hP hD hS (lv_sub hl [0, 1] rfl)
    · rw [if_neg c6] at hF
      refine lv_aload_n hx hb dX9_mayUse_14 rfl (lv_at hl 0 rfl) ?_
      refine va_get (D := D) (ci := 9) (v := va_re ad (M.2 a 6)) (C := RX9) (T := TX9) (N := 20) hx hb hts (mus hf_X9) hown hK hP a (wld_o ct ad G M hc hk (by decide)) rfl 6 (by decide) (hts (.fieldLink RX9 24 "VideoSuite$Work" "info" "[I") (mu mw_442)) (fun _ h9 => h9) rfl dX9_mayUse_15 ?_
      refine lv_bipush (v := (8 : Int32)) hx hb dX9_mayUse_18 (by decide) ?_
      refine lv_iload_n hx hb dX9_mayUse_20 rfl (lv_at hl 1 rfl) ?_
      refine lv_iconst (v := (4 : Int32)) hx hb dX9_mayUse_21 (by decide) ?_
      refine lv_ishr hx hb dX9_mayUse_22 ?_
      obtain ⟨x7, ex7, hF⟩ := ltt_some hF
      refine lv_topi (fun zx7 ezx7 => ?_)
      obtain rfl : x7 = zx7 := ex7.trans ezx7.symm
      refine lv_imul hx hb dX9_mayUse_23 ?_
      obtain ⟨x8, ex8, hF⟩ := ltt_some hF
      refine lv_topi (fun zx8 ezx8 => ?_)
      obtain rfl : x8 = zx8 := ex8.trans ezx8.symm
      refine lv_iconst (v := (0 : Int32)) hx hb dX9_mayUse_24 (by decide) ?_
      refine lv_iadd hx hb dX9_mayUse_25 ?_
      obtain ⟨x9, ex9, hF⟩ := ltt_some hF
      refine lv_topi (fun zx9 ezx9 => ?_)
      obtain rfl : x9 = zx9 := ex9.trans ezx9.symm
      obtain ⟨b10, ho10, hc10, hk10, hF⟩ := dr_some hF
      refine W_st (st' := [.int x9, .ref (ad b10)]) (by rw [va_some ho10]) ?_
      obtain ⟨hvc, hF⟩ := chk_some hF
      refine va_iald hx hb hK hP b10 1 (wld_i ct ad G M hc10 hk10) rfl hvc dX9_mayUse_26 ?_
      obtain ⟨x11, ex11, hF⟩ := ltt_some hF
      refine lv_topi (fun zx11 ezx11 => ?_)
      obtain rfl : x11 = zx11 := ex11.trans ezx11.symm
      refine lv_iconst (v := (3 : Int32)) hx hb dX9_mayUse_27 (by decide) ?_
      obtain ⟨y12, hy12, hF⟩ := bnd_some hF
      have J12 : ∀ (H : Heap) (locs : List Loc) (ls : Array Slot), va_P D classes (wld ct ad G M) H → va_D A (wld ct ad G M) → va_S A s.heap H locs → lv_has ls 2 [(0, .ref (ad a)), (1, .int p0)] → W p l e (headSpec wuX9_mayUse ({ frames := 0, cells := 0, slots := 0, locals := 0 })).room s m ([.ref (ad a), .int p0] : List Value).toArray below meth c H locs 0 0 (MQ below (va_Qi (fun (q : Int32) (_ : Unit) => q = y.2) (fun _ t => kE D ct ad G A y.1 t) A) ([.ref (ad a), .int p0] : List Value).toArray s 0 0 A) (F0 m 36 ls [.int y12]) := by
        intro H locs ls hP hD hS hl
        obtain rfl := Option.some.inj hF
        exact J5 _ _ _ hP hD hS (lv_sub hl [0, 1] rfl)
      clear hF
      have hF := hy12
      clear hy12
      refine lv_icmp_eq (tgt := 35) hx hb dX9_mayUse_28 (by decide) (fun c13 => ?_) (fun c13 => ?_)
      · rw [if_pos c13] at hF
        refine lv_iconst (v := (0 : Int32)) hx hb dX9_mayUse_35 (by decide) ?_
        obtain rfl := Option.some.inj hF
        exact J12 _ _ _ hP hD hS (lv_sub hl [0, 1] rfl)
      · rw [if_neg c13] at hF
        refine lv_iconst (v := (1 : Int32)) hx hb dX9_mayUse_31 (by decide) ?_
        refine lv_goto (tgt := 36) hx hb dX9_mayUse_32 (by decide) ?_
        obtain rfl := Option.some.inj hF
        exact J12 _ _ _ hP hD hS (lv_sub hl [0, 1] rfl)
theorem dX9_modeAt_0 : decode cX9_modeAt 0 = .ok (.iload_n 1, 1) := by decide +kernel
theorem dX9_modeAt_1 : decode cX9_modeAt 1 = .ok (.ifCond .ge 5, 3) := by decide +kernel
theorem dX9_modeAt_4 : decode cX9_modeAt 4 = .ok (.iconst (-1), 1) := by decide +kernel
theorem dX9_modeAt_5 : decode cX9_modeAt 5 = .ok (.ireturn, 1) := by decide +kernel
theorem dX9_modeAt_6 : decode cX9_modeAt 6 = .ok (.aload_n 0, 1) := by decide +kernel
theorem dX9_modeAt_7 : decode cX9_modeAt 7 = .ok (.getfield 24, 3) := by decide +kernel
theorem dX9_modeAt_10 : decode cX9_modeAt 10 = .ok (.bipush 8, 2) := by decide +kernel
theorem dX9_modeAt_12 : decode cX9_modeAt 12 = .ok (.iload_n 1, 1) := by decide +kernel
theorem dX9_modeAt_13 : decode cX9_modeAt 13 = .ok (.iconst 4, 1) := by decide +kernel
theorem dX9_modeAt_14 : decode cX9_modeAt 14 = .ok (.ishr, 1) := by decide +kernel
theorem dX9_modeAt_15 : decode cX9_modeAt 15 = .ok (.imul, 1) := by decide +kernel
theorem dX9_modeAt_16 : decode cX9_modeAt 16 = .ok (.iconst 0, 1) := by decide +kernel
theorem dX9_modeAt_17 : decode cX9_modeAt 17 = .ok (.iadd, 1) := by decide +kernel
theorem dX9_modeAt_18 : decode cX9_modeAt 18 = .ok (.iaload, 1) := by decide +kernel
theorem dX9_modeAt_19 : decode cX9_modeAt 19 = .ok (.istore_n 2, 1) := by decide +kernel
theorem dX9_modeAt_20 : decode cX9_modeAt 20 = .ok (.aload_n 0, 1) := by decide +kernel
theorem dX9_modeAt_21 : decode cX9_modeAt 21 = .ok (.getfield 119, 3) := by decide +kernel
theorem dX9_modeAt_24 : decode cX9_modeAt 24 = .ok (.bipush 10, 2) := by decide +kernel
theorem dX9_modeAt_26 : decode cX9_modeAt 26 = .ok (.iaload, 1) := by decide +kernel
theorem dX9_modeAt_27 : decode cX9_modeAt 27 = .ok (.iconst 1, 1) := by decide +kernel
theorem dX9_modeAt_28 : decode cX9_modeAt 28 = .ok (.if_icmp .ne 10, 3) := by decide +kernel
theorem dX9_modeAt_31 : decode cX9_modeAt 31 = .ok (.iload_n 2, 1) := by decide +kernel
theorem dX9_modeAt_32 : decode cX9_modeAt 32 = .ok (.iconst 3, 1) := by decide +kernel
theorem dX9_modeAt_33 : decode cX9_modeAt 33 = .ok (.if_icmp .ne 5, 3) := by decide +kernel
theorem dX9_modeAt_36 : decode cX9_modeAt 36 = .ok (.iconst (-1), 1) := by decide +kernel
theorem dX9_modeAt_37 : decode cX9_modeAt 37 = .ok (.ireturn, 1) := by decide +kernel
theorem dX9_modeAt_38 : decode cX9_modeAt 38 = .ok (.iload_n 2, 1) := by decide +kernel
theorem dX9_modeAt_39 : decode cX9_modeAt 39 = .ok (.ifCond .ne 12, 3) := by decide +kernel
theorem dX9_modeAt_42 : decode cX9_modeAt 42 = .ok (.aload_n 0, 1) := by decide +kernel
theorem dX9_modeAt_43 : decode cX9_modeAt 43 = .ok (.getfield 27, 3) := by decide +kernel
theorem dX9_modeAt_46 : decode cX9_modeAt 46 = .ok (.iload_n 1, 1) := by decide +kernel
theorem dX9_modeAt_47 : decode cX9_modeAt 47 = .ok (.iaload, 1) := by decide +kernel
theorem dX9_modeAt_48 : decode cX9_modeAt 48 = .ok (.goto 4, 3) := by decide +kernel
theorem dX9_modeAt_51 : decode cX9_modeAt 51 = .ok (.iconst 2, 1) := by decide +kernel
theorem dX9_modeAt_52 : decode cX9_modeAt 52 = .ok (.ireturn, 1) := by decide +kernel
def FX9_modeAt (G : GG) (M : DD) (a : Nat) (p0 : Int32) : Option (DD × Int32) :=
  if ((0 : Int32)) ≤ p0 then (ltt ((p0 >>> (((4 : Int32)) &&& 31))) fun x2 =>
  ltt ((((8 : Int32)) * x2)) fun x3 =>
  ltt ((x3 + ((0 : Int32)))) fun x4 =>
  dr G 13 ((M.2 a 6)) fun b5 =>
  chk (¬ (x4 < 0 ∨ G.2.2 b5 ≤ x4.toNatClampNeg)) <|
  ltt (M.1 b5 x4.toNatClampNeg) fun x6 =>
  dr G 13 ((M.2 a 2)) fun b7 =>
  chk (¬ (((10 : Int32)) < 0 ∨ G.2.2 b7 ≤ ((10 : Int32)).toNatClampNeg)) <|
  ltt (M.1 b7 ((10 : Int32)).toNatClampNeg) fun x8 =>
  if x8 = ((1 : Int32)) then (if x6 = ((3 : Int32)) then (some (M, (-1 : Int32))) else
  (bnd (if x6 = ((0 : Int32)) then (dr G 13 ((M.2 a 7)) fun b17 =>
  chk (¬ (p0 < 0 ∨ G.2.2 b17 ≤ p0.toNatClampNeg)) <|
  ltt (M.1 b17 p0.toNatClampNeg) fun x18 =>
  some (x18)) else
  (some ((2 : Int32)))) fun (y15 : Int32) =>
  some (M, y15))) else
  (bnd (if x6 = ((0 : Int32)) then (dr G 13 ((M.2 a 7)) fun b12 =>
  chk (¬ (p0 < 0 ∨ G.2.2 b12 ≤ p0.toNatClampNeg)) <|
  ltt (M.1 b12 p0.toNatClampNeg) fun x13 =>
  some (x13)) else
  (some ((2 : Int32)))) fun (y10 : Int32) =>
  some (M, y10))) else
  (some (M, (-1 : Int32)))
set_option maxHeartbeats 4000000 in
set_option maxRecDepth 100000 in
theorem kX9_modeAt (l : Launch) (D : va_G) (ct : CT) (ad : Nat → Nat) (Z : Nat → Nat) (G : GG) (M : DD) (sz : Nat) (a : Nat) (p0 : Int32) (y : DD × Int32) (hc : a < G.1) (hk : G.2.1 a = 9) (hF : FX9_modeAt G M a p0 = some y) : Met l yX9_modeAt wuX9_modeAt ({ frames := 0, cells := 0, slots := 0, locals := 0 }) (va_Pc [.ref (ad a), .int p0] (kB D ct ad Z G M sz)) (va_Qi (fun (q : Int32) (_ : Unit) => q = y.2) (fun _ t => kE D ct ad G (wA ad G sz) y.1 t) (wA ad G sz)) 0 0 (wA ad G sz) := by
  refine Met.ofW (cc := cX9_modeAt) (maxL := 3) (ret := (some .int)) (by decide) rfl ?_
  intro p e s m args below meth c s₁ B hml hv
  obtain ⟨rfl, hsz, hP, hK, hD0, hZ, hN⟩ := hv
  have hx := B.exec
  have hb := B.bytes
  have hr := B.returns
  have hts := atoms_spec (ws := wuX9_modeAt) B.pre
  have hown : s.vm.findClass RX9 = some m.cls := findClass_of_methodNamed B.named
  have hlocks := B.notSynchronized
  subst hsz
  have hD := wD_self (sz := s.heap.size) hD0
  have hA9 : ∀ q, s.heap.size ≤ q → wA ad G s.heap.size q := fun q h => Or.inr h
  generalize hAe : wA ad G s.heap.size = A at hD hA9 hZ ⊢
  have hS : va_S A s.heap s.heap [] := va_S.rf
  have hl := lv_entry ([.ref (ad a), .int p0]) (n := 3) (Nat.le_of_ble_eq_true rfl)
  rw [lg_entry_eq]
  generalize (lg_sl ([.ref (ad a), .int p0]) ++ List.replicate (3 - (lg_sl ([.ref (ad a), .int p0])).length) Slot.unset).toArray = ls at hl ⊢
  have hl : lv_has ls 3 [(0, .ref (ad a)), (1, .int p0)] := hl
  unfold FX9_modeAt at hF
  refine lv_iload_n hx hb dX9_modeAt_0 rfl (lv_at hl 1 rfl) ?_
  refine lv_if_ge (tgt := 6) hx hb dX9_modeAt_1 (by decide) (fun c1 => ?_) (fun c1 => ?_)
  · rw [if_pos c1] at hF
    refine lv_aload_n hx hb dX9_modeAt_6 rfl (lv_at hl 0 rfl) ?_
    refine va_get (D := D) (ci := 9) (v := va_re ad (M.2 a 6)) (C := RX9) (T := TX9) (N := 20) hx hb hts (mus hf_X9) hown hK hP a (wld_o ct ad G M hc hk (by decide)) rfl 6 (by decide) (hts (.fieldLink RX9 24 "VideoSuite$Work" "info" "[I") (mu mw_442)) (fun _ h9 => h9) rfl dX9_modeAt_7 ?_
    refine lv_bipush (v := (8 : Int32)) hx hb dX9_modeAt_10 (by decide) ?_
    refine lv_iload_n hx hb dX9_modeAt_12 rfl (lv_at hl 1 rfl) ?_
    refine lv_iconst (v := (4 : Int32)) hx hb dX9_modeAt_13 (by decide) ?_
    refine lv_ishr hx hb dX9_modeAt_14 ?_
    obtain ⟨x2, ex2, hF⟩ := ltt_some hF
    refine lv_topi (fun zx2 ezx2 => ?_)
    obtain rfl : x2 = zx2 := ex2.trans ezx2.symm
    refine lv_imul hx hb dX9_modeAt_15 ?_
    obtain ⟨x3, ex3, hF⟩ := ltt_some hF
    refine lv_topi (fun zx3 ezx3 => ?_)
    obtain rfl : x3 = zx3 := ex3.trans ezx3.symm
    refine lv_iconst (v := (0 : Int32)) hx hb dX9_modeAt_16 (by decide) ?_
    refine lv_iadd hx hb dX9_modeAt_17 ?_
    obtain ⟨x4, ex4, hF⟩ := ltt_some hF
    refine lv_topi (fun zx4 ezx4 => ?_)
    obtain rfl : x4 = zx4 := ex4.trans ezx4.symm
    obtain ⟨b5, ho5, hc5, hk5, hF⟩ := dr_some hF
    refine W_st (st' := [.int x4, .ref (ad b5)]) (by rw [va_some ho5]) ?_
    obtain ⟨hvc, hF⟩ := chk_some hF
    refine va_iald hx hb hK hP b5 1 (wld_i ct ad G M hc5 hk5) rfl hvc dX9_modeAt_18 ?_
    obtain ⟨x6, ex6, hF⟩ := ltt_some hF
    refine lv_topi (fun zx6 ezx6 => ?_)
    obtain rfl : x6 = zx6 := ex6.trans ezx6.symm
    refine lv_istore_n (lv' := [(2, .int x6), (0, .ref (ad a)), (1, .int p0)]) hx hb dX9_modeAt_19 rfl hl (by decide) rfl (fun ls hl => ?_)
    refine lv_aload_n hx hb dX9_modeAt_20 rfl (lv_at hl 1 rfl) ?_
    refine va_get (D := D) (ci := 9) (v := va_re ad (M.2 a 2)) (C := RX9) (T := TX9) (N := 20) hx hb hts (mus hf_X9) hown hK hP a (wld_o ct ad G M hc hk (by decide)) rfl 2 (by decide) (hts (.fieldLink RX9 119 "VideoSuite$Work" "par" "[I") (mu mw_432)) (fun _ h9 => h9) rfl dX9_modeAt_21 ?_
    refine lv_bipush (v := (10 : Int32)) hx hb dX9_modeAt_24 (by decide) ?_
    obtain ⟨b7, ho7, hc7, hk7, hF⟩ := dr_some hF
    refine W_st (st' := [.int (10 : Int32), .ref (ad b7)]) (by rw [va_some ho7]) ?_
    obtain ⟨hvc, hF⟩ := chk_some hF
    refine va_iald hx hb hK hP b7 1 (wld_i ct ad G M hc7 hk7) rfl hvc dX9_modeAt_26 ?_
    obtain ⟨x8, ex8, hF⟩ := ltt_some hF
    refine lv_topi (fun zx8 ezx8 => ?_)
    obtain rfl : x8 = zx8 := ex8.trans ezx8.symm
    refine lv_iconst (v := (1 : Int32)) hx hb dX9_modeAt_27 (by decide) ?_
    refine lv_icmp_ne (tgt := 38) hx hb dX9_modeAt_28 (by decide) (fun c9 => ?_) (fun c9 => ?_)
    · rw [if_neg c9] at hF
      refine lv_iload_n hx hb dX9_modeAt_38 rfl (lv_at hl 0 rfl) ?_
      obtain ⟨y10, hy10, hF⟩ := bnd_some hF
      have J10 : ∀ (H : Heap) (locs : List Loc) (ls : Array Slot), va_P D classes (wld ct ad G M) H → va_D A (wld ct ad G M) → va_S A s.heap H locs → lv_has ls 3 [(2, .int x6), (0, .ref (ad a)), (1, .int p0)] → W p l e (headSpec wuX9_modeAt ({ frames := 0, cells := 0, slots := 0, locals := 0 })).room s m ([.ref (ad a), .int p0] : List Value).toArray below meth c H locs 0 0 (MQ below (va_Qi (fun (q : Int32) (_ : Unit) => q = y.2) (fun _ t => kE D ct ad G A y.1 t) A) ([.ref (ad a), .int p0] : List Value).toArray s 0 0 A) (F0 m 52 ls [.int y10]) := by
        intro H locs ls hP hD hS hl
        obtain rfl := Option.some.inj hF
        exact W.iret (v := y10) hx hb hr (fun t ht hW => ⟨⟨_, (), rfl, rfl, ⟨by rw [ht]; exact hP, va_K.moved hW.alike hK, hD⟩⟩, hS.F ht⟩) hS.2.2 dX9_modeAt_52
      clear hF
      have hF := hy10
      clear hy10
      refine lv_if_ne (tgt := 51) hx hb dX9_modeAt_39 (by decide) (fun c11 => ?_) (fun c11 => ?_)
      · rw [if_neg c11] at hF
        refine lv_iconst (v := (2 : Int32)) hx hb dX9_modeAt_51 (by decide) ?_
        obtain rfl := Option.some.inj hF
        exact J10 _ _ _ hP hD hS (lv_sub hl [0, 1, 2] rfl)
      · rw [if_pos c11] at hF
        refine lv_aload_n hx hb dX9_modeAt_42 rfl (lv_at hl 1 rfl) ?_
        refine va_get (D := D) (ci := 9) (v := va_re ad (M.2 a 7)) (C := RX9) (T := TX9) (N := 20) hx hb hts (mus hf_X9) hown hK hP a (wld_o ct ad G M hc hk (by decide)) rfl 7 (by decide) (hts (.fieldLink RX9 27 "VideoSuite$Work" "mode" "[I") (mu mw_446)) (fun _ h9 => h9) rfl dX9_modeAt_43 ?_
        refine lv_iload_n hx hb dX9_modeAt_46 rfl (lv_at hl 2 rfl) ?_
        obtain ⟨b12, ho12, hc12, hk12, hF⟩ := dr_some hF
        refine W_st (st' := [.int p0, .ref (ad b12)]) (by rw [va_some ho12]) ?_
        obtain ⟨hvc, hF⟩ := chk_some hF
        refine va_iald hx hb hK hP b12 1 (wld_i ct ad G M hc12 hk12) rfl hvc dX9_modeAt_47 ?_
        obtain ⟨x13, ex13, hF⟩ := ltt_some hF
        refine lv_topi (fun zx13 ezx13 => ?_)
        obtain rfl : x13 = zx13 := ex13.trans ezx13.symm
        refine lv_goto (tgt := 52) hx hb dX9_modeAt_48 (by decide) ?_
        obtain rfl := Option.some.inj hF
        exact J10 _ _ _ hP hD hS (lv_sub hl [0, 1, 2] rfl)
    · rw [if_pos c9] at hF
      refine lv_iload_n hx hb dX9_modeAt_31 rfl (lv_at hl 0 rfl) ?_
      refine lv_iconst (v := (3 : Int32)) hx hb dX9_modeAt_32 (by decide) ?_
      refine lv_icmp_ne (tgt := 38) hx hb dX9_modeAt_33 (by decide) (fun c14 => ?_) (fun c14 => ?_)
      · rw [if_neg c14] at hF
        refine lv_iload_n hx hb dX9_modeAt_38 rfl (lv_at hl 0 rfl) ?_
        obtain ⟨y15, hy15, hF⟩ := bnd_some hF
        have J15 : ∀ (H : Heap) (locs : List Loc) (ls : Array Slot), va_P D classes (wld ct ad G M) H → va_D A (wld ct ad G M) → va_S A s.heap H locs → lv_has ls 3 [(2, .int x6), (0, .ref (ad a)), (1, .int p0)] → W p l e (headSpec wuX9_modeAt ({ frames := 0, cells := 0, slots := 0, locals := 0 })).room s m ([.ref (ad a), .int p0] : List Value).toArray below meth c H locs 0 0 (MQ below (va_Qi (fun (q : Int32) (_ : Unit) => q = y.2) (fun _ t => kE D ct ad G A y.1 t) A) ([.ref (ad a), .int p0] : List Value).toArray s 0 0 A) (F0 m 52 ls [.int y15]) := by
          intro H locs ls hP hD hS hl
          obtain rfl := Option.some.inj hF
          exact W.iret (v := y15) hx hb hr (fun t ht hW => ⟨⟨_, (), rfl, rfl, ⟨by rw [ht]; exact hP, va_K.moved hW.alike hK, hD⟩⟩, hS.F ht⟩) hS.2.2 dX9_modeAt_52
        clear hF
        have hF := hy15
        clear hy15
        refine lv_if_ne (tgt := 51) hx hb dX9_modeAt_39 (by decide) (fun c16 => ?_) (fun c16 => ?_)
        · rw [if_neg c16] at hF
          refine lv_iconst (v := (2 : Int32)) hx hb dX9_modeAt_51 (by decide) ?_
          obtain rfl := Option.some.inj hF
          exact J15 _ _ _ hP hD hS (lv_sub hl [0, 1, 2] rfl)
        · rw [if_pos c16] at hF
          refine lv_aload_n hx hb dX9_modeAt_42 rfl (lv_at hl 1 rfl) ?_
          refine va_get (D := D) (ci := 9) (v := va_re ad (M.2 a 7)) (C := RX9) (T := TX9) (N := 20) hx hb hts (mus hf_X9) hown hK hP a (wld_o ct ad G M hc hk (by decide)) rfl 7 (by decide) (hts (.fieldLink RX9 27 "VideoSuite$Work" "mode" "[I") (mu mw_446)) (fun _ h9 => h9) rfl dX9_modeAt_43 ?_
          refine lv_iload_n hx hb dX9_modeAt_46 rfl (lv_at hl 2 rfl) ?_
          obtain ⟨b17, ho17, hc17, hk17, hF⟩ := dr_some hF
          refine W_st (st' := [.int p0, .ref (ad b17)]) (by rw [va_some ho17]) ?_
          obtain ⟨hvc, hF⟩ := chk_some hF
          refine va_iald hx hb hK hP b17 1 (wld_i ct ad G M hc17 hk17) rfl hvc dX9_modeAt_47 ?_
          obtain ⟨x18, ex18, hF⟩ := ltt_some hF
          refine lv_topi (fun zx18 ezx18 => ?_)
          obtain rfl : x18 = zx18 := ex18.trans ezx18.symm
          refine lv_goto (tgt := 52) hx hb dX9_modeAt_48 (by decide) ?_
          obtain rfl := Option.some.inj hF
          exact J15 _ _ _ hP hD hS (lv_sub hl [0, 1, 2] rfl)
      · rw [if_pos c14] at hF
        refine lv_iconst (v := (-1 : Int32)) hx hb dX9_modeAt_36 (by decide) ?_
        obtain rfl := Option.some.inj hF
        exact W.iret (v := (-1 : Int32)) hx hb hr (fun t ht hW => ⟨⟨_, (), rfl, rfl, ⟨by rw [ht]; exact hP, va_K.moved hW.alike hK, hD⟩⟩, hS.F ht⟩) hS.2.2 dX9_modeAt_37
  · rw [if_neg c1] at hF
    refine lv_iconst (v := (-1 : Int32)) hx hb dX9_modeAt_4 (by decide) ?_
    obtain rfl := Option.some.inj hF
    exact W.iret (v := (-1 : Int32)) hx hb hr (fun t ht hW => ⟨⟨_, (), rfl, rfl, ⟨by rw [ht]; exact hP, va_K.moved hW.alike hK, hD⟩⟩, hS.F ht⟩) hS.2.2 dX9_modeAt_5
theorem dX9_noteEntries_0 : decode cX9_noteEntries 0 = .ok (.iconst 0, 1) := by decide +kernel
theorem dX9_noteEntries_1 : decode cX9_noteEntries 1 = .ok (.istore_n 1, 1) := by decide +kernel
theorem dX9_noteEntries_2 : decode cX9_noteEntries 2 = .ok (.iload_n 1, 1) := by decide +kernel
theorem dX9_noteEntries_3 : decode cX9_noteEntries 3 = .ok (.bipush 18, 2) := by decide +kernel
theorem dX9_noteEntries_5 : decode cX9_noteEntries 5 = .ok (.if_icmp .ge 57, 3) := by decide +kernel
theorem dX9_noteEntries_8 : decode cX9_noteEntries 8 = .ok (.aload_n 0, 1) := by decide +kernel
theorem dX9_noteEntries_9 : decode cX9_noteEntries 9 = .ok (.getfield 17, 3) := by decide +kernel
theorem dX9_noteEntries_12 : decode cX9_noteEntries 12 = .ok (.iload_n 1, 1) := by decide +kernel
theorem dX9_noteEntries_13 : decode cX9_noteEntries 13 = .ok (.aload_n 0, 1) := by decide +kernel
theorem dX9_noteEntries_14 : decode cX9_noteEntries 14 = .ok (.getfield 11, 3) := by decide +kernel
theorem dX9_noteEntries_17 : decode cX9_noteEntries 17 = .ok (.iload_n 1, 1) := by decide +kernel
theorem dX9_noteEntries_18 : decode cX9_noteEntries 18 = .ok (.aaload, 1) := by decide +kernel
theorem dX9_noteEntries_19 : decode cX9_noteEntries 19 = .ok (.ifnonnull 7, 3) := by decide +kernel
theorem dX9_noteEntries_22 : decode cX9_noteEntries 22 = .ok (.iconst 0, 1) := by decide +kernel
theorem dX9_noteEntries_23 : decode cX9_noteEntries 23 = .ok (.goto 4, 3) := by decide +kernel
theorem dX9_noteEntries_26 : decode cX9_noteEntries 26 = .ok (.iconst 1, 1) := by decide +kernel
theorem dX9_noteEntries_27 : decode cX9_noteEntries 27 = .ok (.iastore, 1) := by decide +kernel
theorem dX9_noteEntries_28 : decode cX9_noteEntries 28 = .ok (.aload_n 0, 1) := by decide +kernel
theorem dX9_noteEntries_29 : decode cX9_noteEntries 29 = .ok (.getfield 21, 3) := by decide +kernel
theorem dX9_noteEntries_32 : decode cX9_noteEntries 32 = .ok (.iload_n 1, 1) := by decide +kernel
theorem dX9_noteEntries_33 : decode cX9_noteEntries 33 = .ok (.aload_n 0, 1) := by decide +kernel
theorem dX9_noteEntries_34 : decode cX9_noteEntries 34 = .ok (.getfield 11, 3) := by decide +kernel
theorem dX9_noteEntries_37 : decode cX9_noteEntries 37 = .ok (.iload_n 1, 1) := by decide +kernel
theorem dX9_noteEntries_38 : decode cX9_noteEntries 38 = .ok (.aaload, 1) := by decide +kernel
theorem dX9_noteEntries_39 : decode cX9_noteEntries 39 = .ok (.ifnonnull 7, 3) := by decide +kernel
theorem dX9_noteEntries_42 : decode cX9_noteEntries 42 = .ok (.iconst 0, 1) := by decide +kernel
theorem dX9_noteEntries_43 : decode cX9_noteEntries 43 = .ok (.goto 12, 3) := by decide +kernel
theorem dX9_noteEntries_46 : decode cX9_noteEntries 46 = .ok (.aload_n 0, 1) := by decide +kernel
theorem dX9_noteEntries_47 : decode cX9_noteEntries 47 = .ok (.getfield 11, 3) := by decide +kernel
theorem dX9_noteEntries_50 : decode cX9_noteEntries 50 = .ok (.iload_n 1, 1) := by decide +kernel
theorem dX9_noteEntries_51 : decode cX9_noteEntries 51 = .ok (.aaload, 1) := by decide +kernel
theorem dX9_noteEntries_52 : decode cX9_noteEntries 52 = .ok (.getfield 105, 3) := by decide +kernel
theorem dX9_noteEntries_55 : decode cX9_noteEntries 55 = .ok (.iastore, 1) := by decide +kernel
theorem dX9_noteEntries_56 : decode cX9_noteEntries 56 = .ok (.iinc 1 1, 3) := by decide +kernel
theorem dX9_noteEntries_59 : decode cX9_noteEntries 59 = .ok (.goto (-57), 3) := by decide +kernel
theorem dX9_noteEntries_62 : decode cX9_noteEntries 62 = .ok (.return_, 1) := by decide +kernel
def FX9_noteEntries (G : GG) (M : DD) (a : Nat)  : Option (DD) :=
  bnd (itr (fun (s2 : Int32 × DD) => ((if ((18 : Int32)) ≤ s2.1 then (some (.inr (s2.1, s2.2))) else
  (dr G 14 ((s2.2.2 a 3)) fun b6 =>
  chk (¬ (s2.1 < 0 ∨ G.2.2 b6 ≤ s2.1.toNatClampNeg)) <|
  bnd (if ((s2.2.2 b6 s2.1.toNatClampNeg)) = none then (some ((0 : Int32))) else
  (some ((1 : Int32)))) fun (y7 : Int32) =>
  dr G 13 ((s2.2.2 a 4)) fun b8 =>
  chk (¬ (s2.1 < 0 ∨ G.2.2 b8 ≤ s2.1.toNatClampNeg)) <|
  ltt (uI s2.2 b8 s2.1.toNatClampNeg y7) fun M9 =>
  dr G 14 ((M9.2 a 3)) fun b10 =>
  chk (¬ (s2.1 < 0 ∨ G.2.2 b10 ≤ s2.1.toNatClampNeg)) <|
  bnd (if ((M9.2 b10 s2.1.toNatClampNeg)) = none then (some ((0 : Int32))) else
  (chk (¬ (s2.1 < 0 ∨ G.2.2 b10 ≤ s2.1.toNatClampNeg)) <|
  dr G 4 ((M9.2 b10 s2.1.toNatClampNeg)) fun b16 =>
  ltt (M9.1 b16 9) fun x17 =>
  some (x17))) fun (y11 : Int32) =>
  dr G 13 ((M9.2 a 5)) fun b12 =>
  chk (¬ (s2.1 < 0 ∨ G.2.2 b12 ≤ s2.1.toNatClampNeg)) <|
  ltt (uI M9 b12 s2.1.toNatClampNeg y11) fun M13 =>
  ltt (s2.1 + (1 : Int32)) fun x14 =>
  some (.inl (x14, M13)))) : Option ((Int32 × DD) ⊕ (Int32 × DD)))) 1000000 ((0 : Int32), M)) fun (y1 : Int32 × DD) =>
  some y1.2
set_option maxHeartbeats 4000000 in
set_option maxRecDepth 100000 in
theorem kX9_noteEntries (l : Launch) (D : va_G) (ct : CT) (ad : Nat → Nat) (Z : Nat → Nat) (G : GG) (M : DD) (sz : Nat) (a : Nat)  (y : DD) (hc : a < G.1) (hk : G.2.1 a = 9) (hF : FX9_noteEntries G M a  = some y) : Met l yX9_noteEntries wuX9_noteEntries ({ frames := 0, cells := 0, slots := 0, locals := 0 }) (va_Pc [.ref (ad a)] (kB D ct ad Z G M sz)) (va_Qv (fun (_ : Unit) => True) (fun _ t => kE D ct ad G (wA ad G sz) y t) (wA ad G sz)) 0 0 (wA ad G sz) := by
  refine Met.ofW (cc := cX9_noteEntries) (maxL := 2) (ret := none) (by decide) rfl ?_
  intro p e s m args below meth c s₁ B hml hv
  obtain ⟨rfl, hsz, hP, hK, hD0, hZ, hN⟩ := hv
  have hx := B.exec
  have hb := B.bytes
  have hr := B.returns
  have hts := atoms_spec (ws := wuX9_noteEntries) B.pre
  have hown : s.vm.findClass RX9 = some m.cls := findClass_of_methodNamed B.named
  have hlocks := B.notSynchronized
  subst hsz
  have hD := wD_self (sz := s.heap.size) hD0
  have hA9 : ∀ q, s.heap.size ≤ q → wA ad G s.heap.size q := fun q h => Or.inr h
  generalize hAe : wA ad G s.heap.size = A at hD hA9 hZ ⊢
  have hS : va_S A s.heap s.heap [] := va_S.rf
  have hl := lv_entry ([.ref (ad a)]) (n := 2) (Nat.le_of_ble_eq_true rfl)
  rw [lg_entry_eq]
  generalize (lg_sl ([.ref (ad a)]) ++ List.replicate (2 - (lg_sl ([.ref (ad a)])).length) Slot.unset).toArray = ls at hl ⊢
  have hl : lv_has ls 2 [(0, .ref (ad a))] := hl
  unfold FX9_noteEntries at hF
  refine lv_iconst (v := (0 : Int32)) hx hb dX9_noteEntries_0 (by decide) ?_
  refine lv_istore_n (lv' := [(1, .int (0 : Int32)), (0, .ref (ad a))]) hx hb dX9_noteEntries_1 rfl hl (by decide) rfl (fun ls hl => ?_)
  obtain ⟨y1, hy1, hF⟩ := bnd_some hF
  have K1 : ∀ (H : Heap) (locs : List Loc) (ls : Array Slot), va_P D classes (wld ct ad G y1.2) H → va_D A (wld ct ad G y1.2) → va_S A s.heap H locs → lv_has ls 2 [(1, .int y1.1), (0, .ref (ad a))] → W p l e (headSpec wuX9_noteEntries ({ frames := 0, cells := 0, slots := 0, locals := 0 })).room s m ([.ref (ad a)] : List Value).toArray below meth c H locs 0 0 (MQ below (va_Qv (fun (_ : Unit) => True) (fun _ t => kE D ct ad G A y t) A) ([.ref (ad a)] : List Value).toArray s 0 0 A) (F0 m 62 ls []) := by
    intro H locs ls hP hD hS hl
    obtain rfl := Option.some.inj hF
    exact W.vret hx hb hr (fun t ht hW => ⟨⟨(), rfl, trivial, ⟨by rw [ht]; exact hP, va_K.moved hW.alike hK, hD⟩⟩, hS.F ht⟩) hS.2.2 dX9_noteEntries_62
  clear hF
  refine itr_rule (fun (s2 : Int32 × DD) => ∀ (H : Heap) (locs : List Loc) (ls : Array Slot), va_P D classes (wld ct ad G s2.2) H → va_D A (wld ct ad G s2.2) → va_S A s.heap H locs → lv_has ls 2 [(1, .int s2.1), (0, .ref (ad a))] → W p l e (headSpec wuX9_noteEntries ({ frames := 0, cells := 0, slots := 0, locals := 0 })).room s m ([.ref (ad a)] : List Value).toArray below meth c H locs 0 0 (MQ below (va_Qv (fun (_ : Unit) => True) (fun _ t => kE D ct ad G A y t) A) ([.ref (ad a)] : List Value).toArray s 0 0 A) (F0 m 2 ls [])) ?_ _ _ hy1 _ _ _ hP hD hS (lv_sub hl [0, 1] rfl)
  rintro s2 ⟨z4, hF, hwz4⟩ H locs ls hP hD hS hl
  try dsimp only at hF
  refine lv_iload_n hx hb dX9_noteEntries_2 rfl (lv_at hl 0 rfl) ?_
  refine lv_bipush (v := (18 : Int32)) hx hb dX9_noteEntries_3 (by decide) ?_
  refine lv_icmp_ge (tgt := 62) hx hb dX9_noteEntries_5 (by decide) (fun c5 => ?_) (fun c5 => ?_)
  · rw [if_pos c5] at hF
    obtain rfl := Option.some.inj hF
    subst hwz4
    exact K1 _ _ _ hP hD hS (lv_sub hl [0, 1] rfl)
  · rw [if_neg c5] at hF
    refine lv_aload_n hx hb dX9_noteEntries_8 rfl (lv_at hl 1 rfl) ?_
    refine va_get (D := D) (ci := 9) (v := va_re ad (s2.2.2 a 4)) (C := RX9) (T := TX9) (N := 20) hx hb hts (mus hf_X9) hown hK hP a (wld_o ct ad G s2.2 hc hk (by decide)) rfl 4 (by decide) (hts (.fieldLink RX9 17 "VideoSuite$Work" "entryThere" "[I") (mu mw_439)) (fun _ h9 => h9) rfl dX9_noteEntries_9 ?_
    refine lv_iload_n hx hb dX9_noteEntries_12 rfl (lv_at hl 0 rfl) ?_
    refine lv_aload_n hx hb dX9_noteEntries_13 rfl (lv_at hl 1 rfl) ?_
    refine va_get (D := D) (ci := 9) (v := va_re ad (s2.2.2 a 3)) (C := RX9) (T := TX9) (N := 20) hx hb hts (mus hf_X9) hown hK hP a (wld_o ct ad G s2.2 hc hk (by decide)) rfl 3 (by decide) (hts (.fieldLink RX9 11 "VideoSuite$Work" "lists" "[LVideoSuite$Picture;") (mu mw_435)) (fun _ h9 => h9) rfl dX9_noteEntries_14 ?_
    refine lv_iload_n hx hb dX9_noteEntries_17 rfl (lv_at hl 0 rfl) ?_
    obtain ⟨b6, ho6, hc6, hk6, hF⟩ := dr_some hF
    refine W_st (st' := [.int s2.1, .ref (ad b6), .int s2.1, va_re ad (s2.2.2 a 4)]) (by rw [va_some ho6]) ?_
    obtain ⟨hvc, hF⟩ := chk_some hF
    refine ld_q hx hb hK hP hc6 hk6 hvc dX9_noteEntries_18 ?_
    obtain ⟨y7, hy7, hF⟩ := bnd_some hF
    have J7 : ∀ (H : Heap) (locs : List Loc) (ls : Array Slot), va_P D classes (wld ct ad G s2.2) H → va_D A (wld ct ad G s2.2) → va_S A s.heap H locs → lv_has ls 2 [(1, .int s2.1), (0, .ref (ad a))] → W p l e (headSpec wuX9_noteEntries ({ frames := 0, cells := 0, slots := 0, locals := 0 })).room s m ([.ref (ad a)] : List Value).toArray below meth c H locs 0 0 (MQ below (va_Qv (fun (_ : Unit) => True) (fun _ t => kE D ct ad G A y t) A) ([.ref (ad a)] : List Value).toArray s 0 0 A) (F0 m 27 ls [.int y7, .int s2.1, va_re ad (s2.2.2 a 4)]) := by
      intro H locs ls hP hD hS hl
      obtain ⟨b8, ho8, hc8, hk8, hF⟩ := dr_some hF
      refine W_st (st' := [.int y7, .int s2.1, .ref (ad b8)]) (by rw [va_some ho8]) ?_
      obtain ⟨hvc, hF⟩ := chk_some hF
      refine va_iast hx hb hK hP hD hS b8 1 (wld_i ct ad G s2.2 hc8 hk8) rfl hvc dX9_noteEntries_27 (fun H locs hP hD hS => ?_)
      obtain ⟨M9, eM9, hF⟩ := ltt_some hF
      rw [set_i ct ad G s2.2 hc8 hk8, ← eM9] at hP hD
      refine lv_aload_n hx hb dX9_noteEntries_28 rfl (lv_at hl 1 rfl) ?_
      refine va_get (D := D) (ci := 9) (v := va_re ad (M9.2 a 5)) (C := RX9) (T := TX9) (N := 20) hx hb hts (mus hf_X9) hown hK hP a (wld_o ct ad G M9 hc hk (by decide)) rfl 5 (by decide) (hts (.fieldLink RX9 21 "VideoSuite$Work" "entryOrder" "[I") (mu mw_441)) (fun _ h9 => h9) rfl dX9_noteEntries_29 ?_
      refine lv_iload_n hx hb dX9_noteEntries_32 rfl (lv_at hl 0 rfl) ?_
      refine lv_aload_n hx hb dX9_noteEntries_33 rfl (lv_at hl 1 rfl) ?_
      refine va_get (D := D) (ci := 9) (v := va_re ad (M9.2 a 3)) (C := RX9) (T := TX9) (N := 20) hx hb hts (mus hf_X9) hown hK hP a (wld_o ct ad G M9 hc hk (by decide)) rfl 3 (by decide) (hts (.fieldLink RX9 11 "VideoSuite$Work" "lists" "[LVideoSuite$Picture;") (mu mw_435)) (fun _ h9 => h9) rfl dX9_noteEntries_34 ?_
      refine lv_iload_n hx hb dX9_noteEntries_37 rfl (lv_at hl 0 rfl) ?_
      obtain ⟨b10, ho10, hc10, hk10, hF⟩ := dr_some hF
      refine W_st (st' := [.int s2.1, .ref (ad b10), .int s2.1, va_re ad (M9.2 a 5)]) (by rw [va_some ho10]) ?_
      obtain ⟨hvc, hF⟩ := chk_some hF
      refine ld_q hx hb hK hP hc10 hk10 hvc dX9_noteEntries_38 ?_
      obtain ⟨y11, hy11, hF⟩ := bnd_some hF
      have J11 : ∀ (H : Heap) (locs : List Loc) (ls : Array Slot), va_P D classes (wld ct ad G M9) H → va_D A (wld ct ad G M9) → va_S A s.heap H locs → lv_has ls 2 [(1, .int s2.1), (0, .ref (ad a))] → W p l e (headSpec wuX9_noteEntries ({ frames := 0, cells := 0, slots := 0, locals := 0 })).room s m ([.ref (ad a)] : List Value).toArray below meth c H locs 0 0 (MQ below (va_Qv (fun (_ : Unit) => True) (fun _ t => kE D ct ad G A y t) A) ([.ref (ad a)] : List Value).toArray s 0 0 A) (F0 m 55 ls [.int y11, .int s2.1, va_re ad (M9.2 a 5)]) := by
        intro H locs ls hP hD hS hl
        obtain ⟨b12, ho12, hc12, hk12, hF⟩ := dr_some hF
        refine W_st (st' := [.int y11, .int s2.1, .ref (ad b12)]) (by rw [va_some ho12]) ?_
        obtain ⟨hvc, hF⟩ := chk_some hF
        refine va_iast hx hb hK hP hD hS b12 1 (wld_i ct ad G M9 hc12 hk12) rfl hvc dX9_noteEntries_55 (fun H locs hP hD hS => ?_)
        obtain ⟨M13, eM13, hF⟩ := ltt_some hF
        rw [set_i ct ad G M9 hc12 hk12, ← eM13] at hP hD
        obtain ⟨x14, ex14, hF⟩ := ltt_some hF
        refine lv_iinc (v := x14) (lv' := [(1, .int x14), (0, .ref (ad a))]) hx hb dX9_noteEntries_56 hl (k := 0) rfl (by rw [ex14]; rfl) (by decide) rfl (fun ls hl => ?_)
        refine lv_goto (tgt := 2) hx hb dX9_noteEntries_59 (by decide) ?_
        obtain rfl := Option.some.inj hF
        exact hwz4 _ _ _ hP hD hS (lv_sub hl [0, 1] rfl)
      clear hF
      have hF := hy11
      clear hy11
      refine lv_ifnonnullq (tgt := 46) hx hb dX9_noteEntries_39 (by decide) (fun c15 => ?_) (fun c15 => ?_)
      · rw [if_neg c15] at hF
        refine lv_aload_n hx hb dX9_noteEntries_46 rfl (lv_at hl 1 rfl) ?_
        refine va_get (D := D) (ci := 9) (v := va_re ad (M9.2 a 3)) (C := RX9) (T := TX9) (N := 20) hx hb hts (mus hf_X9) hown hK hP a (wld_o ct ad G M9 hc hk (by decide)) rfl 3 (by decide) (hts (.fieldLink RX9 11 "VideoSuite$Work" "lists" "[LVideoSuite$Picture;") (mu mw_435)) (fun _ h9 => h9) rfl dX9_noteEntries_47 ?_
        refine lv_iload_n hx hb dX9_noteEntries_50 rfl (lv_at hl 0 rfl) ?_
        refine W_st (st' := [.int s2.1, .ref (ad b10), .int s2.1, va_re ad (M9.2 a 5)]) (by rw [va_some ho10]) ?_
        obtain ⟨hvc, hF⟩ := chk_some hF
        refine ld_q hx hb hK hP hc10 hk10 hvc dX9_noteEntries_51 ?_
        obtain ⟨b16, ho16, hc16, hk16, hF⟩ := dr_some hF
        refine W_st (st' := [.ref (ad b16), .int s2.1, va_re ad (M9.2 a 5)]) (by rw [va_some ho16]) ?_
        refine va_get (D := D) (ci := 4) (v := .int (M9.1 b16 9)) (C := RX4) (T := TX4) (N := 18) hx hb hts (mus hf_X4) hown hK hP b16 (wld_o ct ad G M9 hc16 hk16 (by decide)) rfl 9 (by decide) (hts (.fieldLink RX9 105 "VideoSuite$Picture" "order" "I") (mu mw_1454)) (fun _ h9 => h9) rfl dX9_noteEntries_52 ?_
        obtain ⟨x17, ex17, hF⟩ := ltt_some hF
        refine lv_topi (fun zx17 ezx17 => ?_)
        obtain rfl : x17 = zx17 := ex17.trans ezx17.symm
        obtain rfl := Option.some.inj hF
        exact J11 _ _ _ hP hD hS (lv_sub hl [0, 1] rfl)
      · rw [if_pos c15] at hF
        refine lv_iconst (v := (0 : Int32)) hx hb dX9_noteEntries_42 (by decide) ?_
        refine lv_goto (tgt := 55) hx hb dX9_noteEntries_43 (by decide) ?_
        obtain rfl := Option.some.inj hF
        exact J11 _ _ _ hP hD hS (lv_sub hl [0, 1] rfl)
    clear hF
    have hF := hy7
    clear hy7
    refine lv_ifnonnullq (tgt := 26) hx hb dX9_noteEntries_19 (by decide) (fun c18 => ?_) (fun c18 => ?_)
    · rw [if_neg c18] at hF
      refine lv_iconst (v := (1 : Int32)) hx hb dX9_noteEntries_26 (by decide) ?_
      obtain rfl := Option.some.inj hF
      exact J7 _ _ _ hP hD hS (lv_sub hl [0, 1] rfl)
    · rw [if_pos c18] at hF
      refine lv_iconst (v := (0 : Int32)) hx hb dX9_noteEntries_22 (by decide) ?_
      refine lv_goto (tgt := 27) hx hb dX9_noteEntries_23 (by decide) ?_
      obtain rfl := Option.some.inj hF
      exact J7 _ _ _ hP hD hS (lv_sub hl [0, 1] rfl)
theorem dX9_pieceAt_0 : decode cX9_pieceAt 0 = .ok (.iload_n 1, 1) := by decide +kernel
theorem dX9_pieceAt_1 : decode cX9_pieceAt 1 = .ok (.aload_n 0, 1) := by decide +kernel
theorem dX9_pieceAt_2 : decode cX9_pieceAt 2 = .ok (.getfield 51, 3) := by decide +kernel
theorem dX9_pieceAt_5 : decode cX9_pieceAt 5 = .ok (.getfield 108, 3) := by decide +kernel
theorem dX9_pieceAt_8 : decode cX9_pieceAt 8 = .ok (.irem, 1) := by decide +kernel
theorem dX9_pieceAt_9 : decode cX9_pieceAt 9 = .ok (.iload_n 2, 1) := by decide +kernel
theorem dX9_pieceAt_10 : decode cX9_pieceAt 10 = .ok (.ifCond .ge 7, 3) := by decide +kernel
theorem dX9_pieceAt_13 : decode cX9_pieceAt 13 = .ok (.iconst (-1), 1) := by decide +kernel
theorem dX9_pieceAt_14 : decode cX9_pieceAt 14 = .ok (.goto 14, 3) := by decide +kernel
theorem dX9_pieceAt_17 : decode cX9_pieceAt 17 = .ok (.iload_n 2, 1) := by decide +kernel
theorem dX9_pieceAt_18 : decode cX9_pieceAt 18 = .ok (.bipush 15, 2) := by decide +kernel
theorem dX9_pieceAt_20 : decode cX9_pieceAt 20 = .ok (.if_icmp .le 7, 3) := by decide +kernel
theorem dX9_pieceAt_23 : decode cX9_pieceAt 23 = .ok (.iconst 1, 1) := by decide +kernel
theorem dX9_pieceAt_24 : decode cX9_pieceAt 24 = .ok (.goto 4, 3) := by decide +kernel
theorem dX9_pieceAt_27 : decode cX9_pieceAt 27 = .ok (.iconst 0, 1) := by decide +kernel
theorem dX9_pieceAt_28 : decode cX9_pieceAt 28 = .ok (.iadd, 1) := by decide +kernel
theorem dX9_pieceAt_29 : decode cX9_pieceAt 29 = .ok (.istore 5, 2) := by decide +kernel
theorem dX9_pieceAt_31 : decode cX9_pieceAt 31 = .ok (.iload_n 1, 1) := by decide +kernel
theorem dX9_pieceAt_32 : decode cX9_pieceAt 32 = .ok (.aload_n 0, 1) := by decide +kernel
theorem dX9_pieceAt_33 : decode cX9_pieceAt 33 = .ok (.getfield 51, 3) := by decide +kernel
theorem dX9_pieceAt_36 : decode cX9_pieceAt 36 = .ok (.getfield 108, 3) := by decide +kernel
theorem dX9_pieceAt_39 : decode cX9_pieceAt 39 = .ok (.idiv, 1) := by decide +kernel
theorem dX9_pieceAt_40 : decode cX9_pieceAt 40 = .ok (.iload_n 3, 1) := by decide +kernel
theorem dX9_pieceAt_41 : decode cX9_pieceAt 41 = .ok (.ifCond .ge 7, 3) := by decide +kernel
theorem dX9_pieceAt_44 : decode cX9_pieceAt 44 = .ok (.iconst 1, 1) := by decide +kernel
theorem dX9_pieceAt_45 : decode cX9_pieceAt 45 = .ok (.goto 4, 3) := by decide +kernel
theorem dX9_pieceAt_48 : decode cX9_pieceAt 48 = .ok (.iconst 0, 1) := by decide +kernel
theorem dX9_pieceAt_49 : decode cX9_pieceAt 49 = .ok (.isub, 1) := by decide +kernel
theorem dX9_pieceAt_50 : decode cX9_pieceAt 50 = .ok (.istore 6, 2) := by decide +kernel
theorem dX9_pieceAt_52 : decode cX9_pieceAt 52 = .ok (.iload 5, 2) := by decide +kernel
theorem dX9_pieceAt_54 : decode cX9_pieceAt 54 = .ok (.ifCond .lt 20, 3) := by decide +kernel
theorem dX9_pieceAt_57 : decode cX9_pieceAt 57 = .ok (.iload 5, 2) := by decide +kernel
theorem dX9_pieceAt_59 : decode cX9_pieceAt 59 = .ok (.aload_n 0, 1) := by decide +kernel
theorem dX9_pieceAt_60 : decode cX9_pieceAt 60 = .ok (.getfield 51, 3) := by decide +kernel
theorem dX9_pieceAt_63 : decode cX9_pieceAt 63 = .ok (.getfield 108, 3) := by decide +kernel
theorem dX9_pieceAt_66 : decode cX9_pieceAt 66 = .ok (.if_icmp .ge 8, 3) := by decide +kernel
theorem dX9_pieceAt_69 : decode cX9_pieceAt 69 = .ok (.iload 6, 2) := by decide +kernel
theorem dX9_pieceAt_71 : decode cX9_pieceAt 71 = .ok (.ifCond .ge 5, 3) := by decide +kernel
theorem dX9_pieceAt_74 : decode cX9_pieceAt 74 = .ok (.iconst (-1), 1) := by decide +kernel
theorem dX9_pieceAt_75 : decode cX9_pieceAt 75 = .ok (.ireturn, 1) := by decide +kernel
theorem dX9_pieceAt_76 : decode cX9_pieceAt 76 = .ok (.iload 6, 2) := by decide +kernel
theorem dX9_pieceAt_78 : decode cX9_pieceAt 78 = .ok (.aload_n 0, 1) := by decide +kernel
theorem dX9_pieceAt_79 : decode cX9_pieceAt 79 = .ok (.getfield 51, 3) := by decide +kernel
theorem dX9_pieceAt_82 : decode cX9_pieceAt 82 = .ok (.getfield 108, 3) := by decide +kernel
theorem dX9_pieceAt_85 : decode cX9_pieceAt 85 = .ok (.imul, 1) := by decide +kernel
theorem dX9_pieceAt_86 : decode cX9_pieceAt 86 = .ok (.iload 5, 2) := by decide +kernel
theorem dX9_pieceAt_88 : decode cX9_pieceAt 88 = .ok (.iadd, 1) := by decide +kernel
theorem dX9_pieceAt_89 : decode cX9_pieceAt 89 = .ok (.istore 7, 2) := by decide +kernel
theorem dX9_pieceAt_91 : decode cX9_pieceAt 91 = .ok (.iload_n 3, 1) := by decide +kernel
theorem dX9_pieceAt_92 : decode cX9_pieceAt 92 = .ok (.iconst 3, 1) := by decide +kernel
theorem dX9_pieceAt_93 : decode cX9_pieceAt 93 = .ok (.ishr, 1) := by decide +kernel
theorem dX9_pieceAt_94 : decode cX9_pieceAt 94 = .ok (.iconst 1, 1) := by decide +kernel
theorem dX9_pieceAt_95 : decode cX9_pieceAt 95 = .ok (.iand, 1) := by decide +kernel
theorem dX9_pieceAt_96 : decode cX9_pieceAt 96 = .ok (.bipush 8, 2) := by decide +kernel
theorem dX9_pieceAt_98 : decode cX9_pieceAt 98 = .ok (.imul, 1) := by decide +kernel
theorem dX9_pieceAt_99 : decode cX9_pieceAt 99 = .ok (.iload_n 2, 1) := by decide +kernel
theorem dX9_pieceAt_100 : decode cX9_pieceAt 100 = .ok (.iconst 3, 1) := by decide +kernel
theorem dX9_pieceAt_101 : decode cX9_pieceAt 101 = .ok (.ishr, 1) := by decide +kernel
theorem dX9_pieceAt_102 : decode cX9_pieceAt 102 = .ok (.iconst 1, 1) := by decide +kernel
theorem dX9_pieceAt_103 : decode cX9_pieceAt 103 = .ok (.iand, 1) := by decide +kernel
theorem dX9_pieceAt_104 : decode cX9_pieceAt 104 = .ok (.iconst 4, 1) := by decide +kernel
theorem dX9_pieceAt_105 : decode cX9_pieceAt 105 = .ok (.imul, 1) := by decide +kernel
theorem dX9_pieceAt_106 : decode cX9_pieceAt 106 = .ok (.iadd, 1) := by decide +kernel
theorem dX9_pieceAt_107 : decode cX9_pieceAt 107 = .ok (.iload_n 3, 1) := by decide +kernel
theorem dX9_pieceAt_108 : decode cX9_pieceAt 108 = .ok (.iconst 2, 1) := by decide +kernel
theorem dX9_pieceAt_109 : decode cX9_pieceAt 109 = .ok (.ishr, 1) := by decide +kernel
theorem dX9_pieceAt_110 : decode cX9_pieceAt 110 = .ok (.iconst 1, 1) := by decide +kernel
theorem dX9_pieceAt_111 : decode cX9_pieceAt 111 = .ok (.iand, 1) := by decide +kernel
theorem dX9_pieceAt_112 : decode cX9_pieceAt 112 = .ok (.iconst 2, 1) := by decide +kernel
theorem dX9_pieceAt_113 : decode cX9_pieceAt 113 = .ok (.imul, 1) := by decide +kernel
theorem dX9_pieceAt_114 : decode cX9_pieceAt 114 = .ok (.iadd, 1) := by decide +kernel
theorem dX9_pieceAt_115 : decode cX9_pieceAt 115 = .ok (.iload_n 2, 1) := by decide +kernel
theorem dX9_pieceAt_116 : decode cX9_pieceAt 116 = .ok (.iconst 2, 1) := by decide +kernel
theorem dX9_pieceAt_117 : decode cX9_pieceAt 117 = .ok (.ishr, 1) := by decide +kernel
theorem dX9_pieceAt_118 : decode cX9_pieceAt 118 = .ok (.iconst 1, 1) := by decide +kernel
theorem dX9_pieceAt_119 : decode cX9_pieceAt 119 = .ok (.iand, 1) := by decide +kernel
theorem dX9_pieceAt_120 : decode cX9_pieceAt 120 = .ok (.iadd, 1) := by decide +kernel
theorem dX9_pieceAt_121 : decode cX9_pieceAt 121 = .ok (.istore 8, 2) := by decide +kernel
theorem dX9_pieceAt_123 : decode cX9_pieceAt 123 = .ok (.iload 7, 2) := by decide +kernel
theorem dX9_pieceAt_125 : decode cX9_pieceAt 125 = .ok (.iload_n 1, 1) := by decide +kernel
theorem dX9_pieceAt_126 : decode cX9_pieceAt 126 = .ok (.if_icmp .ne 22, 3) := by decide +kernel
theorem dX9_pieceAt_129 : decode cX9_pieceAt 129 = .ok (.iload 8, 2) := by decide +kernel
theorem dX9_pieceAt_131 : decode cX9_pieceAt 131 = .ok (.iload 4, 2) := by decide +kernel
theorem dX9_pieceAt_133 : decode cX9_pieceAt 133 = .ok (.if_icmp .ge 13, 3) := by decide +kernel
theorem dX9_pieceAt_136 : decode cX9_pieceAt 136 = .ok (.bipush 16, 2) := by decide +kernel
theorem dX9_pieceAt_138 : decode cX9_pieceAt 138 = .ok (.iload_n 1, 1) := by decide +kernel
theorem dX9_pieceAt_139 : decode cX9_pieceAt 139 = .ok (.imul, 1) := by decide +kernel
theorem dX9_pieceAt_140 : decode cX9_pieceAt 140 = .ok (.iload 8, 2) := by decide +kernel
theorem dX9_pieceAt_142 : decode cX9_pieceAt 142 = .ok (.iadd, 1) := by decide +kernel
theorem dX9_pieceAt_143 : decode cX9_pieceAt 143 = .ok (.goto 4, 3) := by decide +kernel
theorem dX9_pieceAt_146 : decode cX9_pieceAt 146 = .ok (.iconst (-1), 1) := by decide +kernel
theorem dX9_pieceAt_147 : decode cX9_pieceAt 147 = .ok (.ireturn, 1) := by decide +kernel
theorem dX9_pieceAt_148 : decode cX9_pieceAt 148 = .ok (.iload 7, 2) := by decide +kernel
theorem dX9_pieceAt_150 : decode cX9_pieceAt 150 = .ok (.iload_n 1, 1) := by decide +kernel
theorem dX9_pieceAt_151 : decode cX9_pieceAt 151 = .ok (.if_icmp .ge 34, 3) := by decide +kernel
theorem dX9_pieceAt_154 : decode cX9_pieceAt 154 = .ok (.aload_n 0, 1) := by decide +kernel
theorem dX9_pieceAt_155 : decode cX9_pieceAt 155 = .ok (.getfield 24, 3) := by decide +kernel
theorem dX9_pieceAt_158 : decode cX9_pieceAt 158 = .ok (.bipush 8, 2) := by decide +kernel
theorem dX9_pieceAt_160 : decode cX9_pieceAt 160 = .ok (.iload 7, 2) := by decide +kernel
theorem dX9_pieceAt_162 : decode cX9_pieceAt 162 = .ok (.imul, 1) := by decide +kernel
theorem dX9_pieceAt_163 : decode cX9_pieceAt 163 = .ok (.bipush 6, 2) := by decide +kernel
theorem dX9_pieceAt_165 : decode cX9_pieceAt 165 = .ok (.iadd, 1) := by decide +kernel
theorem dX9_pieceAt_166 : decode cX9_pieceAt 166 = .ok (.iaload, 1) := by decide +kernel
theorem dX9_pieceAt_167 : decode cX9_pieceAt 167 = .ok (.aload_n 0, 1) := by decide +kernel
theorem dX9_pieceAt_168 : decode cX9_pieceAt 168 = .ok (.getfield 55, 3) := by decide +kernel
theorem dX9_pieceAt_171 : decode cX9_pieceAt 171 = .ok (.if_icmp .ne 14, 3) := by decide +kernel
theorem dX9_pieceAt_174 : decode cX9_pieceAt 174 = .ok (.bipush 16, 2) := by decide +kernel
theorem dX9_pieceAt_176 : decode cX9_pieceAt 176 = .ok (.iload 7, 2) := by decide +kernel
theorem dX9_pieceAt_178 : decode cX9_pieceAt 178 = .ok (.imul, 1) := by decide +kernel
theorem dX9_pieceAt_179 : decode cX9_pieceAt 179 = .ok (.iload 8, 2) := by decide +kernel
theorem dX9_pieceAt_181 : decode cX9_pieceAt 181 = .ok (.iadd, 1) := by decide +kernel
theorem dX9_pieceAt_182 : decode cX9_pieceAt 182 = .ok (.goto 4, 3) := by decide +kernel
theorem dX9_pieceAt_185 : decode cX9_pieceAt 185 = .ok (.iconst (-1), 1) := by decide +kernel
theorem dX9_pieceAt_186 : decode cX9_pieceAt 186 = .ok (.ireturn, 1) := by decide +kernel
def FX9_pieceAt (G : GG) (M : DD) (a : Nat) (p0 : Int32) (p1 : Int32) (p2 : Int32) (p3 : Int32) : Option (DD × Int32) :=
  dr G 4 ((M.2 a 0)) fun b1 =>
  ltt (M.1 b1 1) fun x2 =>
  chk (¬ x2 = 0) <|
  ltt (p0 - p0 / x2 * x2) fun x3 =>
  bnd (if ((0 : Int32)) ≤ p1 then (bnd (if p1 ≤ ((15 : Int32)) then (some ((0 : Int32))) else
  (some ((1 : Int32)))) fun (y49 : Int32) =>
  some (y49)) else
  (some ((-1 : Int32)))) fun (y4 : Int32) =>
  ltt ((x3 + y4)) fun x5 =>
  ltt (M.1 b1 1) fun x6 =>
  chk (¬ x6 = 0) <|
  ltt (p0 / x6) fun x7 =>
  bnd (if ((0 : Int32)) ≤ p2 then (some ((0 : Int32))) else
  (some ((1 : Int32)))) fun (y8 : Int32) =>
  ltt ((x7 - y8)) fun x9 =>
  if x5 < ((0 : Int32)) then (some (M, (-1 : Int32))) else
  (ltt (M.1 b1 1) fun x11 =>
  if x11 ≤ x5 then (some (M, (-1 : Int32))) else
  (if ((0 : Int32)) ≤ x9 then (ltt (M.1 b1 1) fun x14 =>
  ltt ((x9 * x14)) fun x15 =>
  ltt ((x15 + x5)) fun x16 =>
  ltt ((p2 >>> (((3 : Int32)) &&& 31))) fun x17 =>
  ltt ((x17 &&& ((1 : Int32)))) fun x18 =>
  ltt ((x18 * ((8 : Int32)))) fun x19 =>
  ltt ((p1 >>> (((3 : Int32)) &&& 31))) fun x20 =>
  ltt ((x20 &&& ((1 : Int32)))) fun x21 =>
  ltt ((x21 * ((4 : Int32)))) fun x22 =>
  ltt ((x19 + x22)) fun x23 =>
  ltt ((p2 >>> (((2 : Int32)) &&& 31))) fun x24 =>
  ltt ((x24 &&& ((1 : Int32)))) fun x25 =>
  ltt ((x25 * ((2 : Int32)))) fun x26 =>
  ltt ((x23 + x26)) fun x27 =>
  ltt ((p1 >>> (((2 : Int32)) &&& 31))) fun x28 =>
  ltt ((x28 &&& ((1 : Int32)))) fun x29 =>
  ltt ((x27 + x29)) fun x30 =>
  if x16 = p0 then (bnd (if p3 ≤ x30 then (some ((-1 : Int32))) else
  (ltt ((((16 : Int32)) * p0)) fun x45 =>
  ltt ((x45 + x30)) fun x46 =>
  some (x46))) fun (y43 : Int32) =>
  some (M, y43)) else
  (bnd (if p0 ≤ x16 then (some ((-1 : Int32))) else
  (ltt ((((8 : Int32)) * x16)) fun x34 =>
  ltt ((x34 + ((6 : Int32)))) fun x35 =>
  dr G 13 ((M.2 a 6)) fun b36 =>
  chk (¬ (x35 < 0 ∨ G.2.2 b36 ≤ x35.toNatClampNeg)) <|
  ltt (M.1 b36 x35.toNatClampNeg) fun x37 =>
  ltt (M.1 a 11) fun x38 =>
  bnd (if x37 = x38 then (ltt ((((16 : Int32)) * x16)) fun x41 =>
  ltt ((x41 + x30)) fun x42 =>
  some (x42)) else
  (some ((-1 : Int32)))) fun (y39 : Int32) =>
  some (y39))) fun (y32 : Int32) =>
  some (M, y32))) else
  (some (M, (-1 : Int32)))))
set_option maxHeartbeats 4000000 in
set_option maxRecDepth 100000 in
theorem kX9_pieceAt (l : Launch) (D : va_G) (ct : CT) (ad : Nat → Nat) (Z : Nat → Nat) (G : GG) (M : DD) (sz : Nat) (a : Nat) (p0 : Int32) (p1 : Int32) (p2 : Int32) (p3 : Int32) (y : DD × Int32) (hc : a < G.1) (hk : G.2.1 a = 9) (hF : FX9_pieceAt G M a p0 p1 p2 p3 = some y) : Met l yX9_pieceAt wuX9_pieceAt ({ frames := 0, cells := 0, slots := 0, locals := 0 }) (va_Pc [.ref (ad a), .int p0, .int p1, .int p2, .int p3] (kB D ct ad Z G M sz)) (va_Qi (fun (q : Int32) (_ : Unit) => q = y.2) (fun _ t => kE D ct ad G (wA ad G sz) y.1 t) (wA ad G sz)) 0 0 (wA ad G sz) := by
  refine Met.ofW (cc := cX9_pieceAt) (maxL := 9) (ret := (some .int)) (by decide) rfl ?_
  intro p e s m args below meth c s₁ B hml hv
  obtain ⟨rfl, hsz, hP, hK, hD0, hZ, hN⟩ := hv
  have hx := B.exec
  have hb := B.bytes
  have hr := B.returns
  have hts := atoms_spec (ws := wuX9_pieceAt) B.pre
  have hown : s.vm.findClass RX9 = some m.cls := findClass_of_methodNamed B.named
  have hlocks := B.notSynchronized
  subst hsz
  have hD := wD_self (sz := s.heap.size) hD0
  have hA9 : ∀ q, s.heap.size ≤ q → wA ad G s.heap.size q := fun q h => Or.inr h
  generalize hAe : wA ad G s.heap.size = A at hD hA9 hZ ⊢
  have hS : va_S A s.heap s.heap [] := va_S.rf
  have hl := lv_entry ([.ref (ad a), .int p0, .int p1, .int p2, .int p3]) (n := 9) (Nat.le_of_ble_eq_true rfl)
  rw [lg_entry_eq]
  generalize (lg_sl ([.ref (ad a), .int p0, .int p1, .int p2, .int p3]) ++ List.replicate (9 - (lg_sl ([.ref (ad a), .int p0, .int p1, .int p2, .int p3])).length) Slot.unset).toArray = ls at hl ⊢
  have hl : lv_has ls 9 [(0, .ref (ad a)), (1, .int p0), (2, .int p1), (3, .int p2), (4, .int p3)] := hl
  unfold FX9_pieceAt at hF
  refine lv_iload_n hx hb dX9_pieceAt_0 rfl (lv_at hl 1 rfl) ?_
  refine lv_aload_n hx hb dX9_pieceAt_1 rfl (lv_at hl 0 rfl) ?_
  refine va_get (D := D) (ci := 9) (v := va_re ad (M.2 a 0)) (C := RX9) (T := TX9) (N := 20) hx hb hts (mus hf_X9) hown hK hP a (wld_o ct ad G M hc hk (by decide)) rfl 0 (by decide) (hts (.fieldLink RX9 51 "VideoSuite$Work" "pic" "LVideoSuite$Picture;") (mu mw_422)) (fun _ h9 => h9) rfl dX9_pieceAt_2 ?_
  obtain ⟨b1, ho1, hc1, hk1, hF⟩ := dr_some hF
  refine W_st (st' := [.ref (ad b1), .int p0]) (by rw [va_some ho1]) ?_
  refine va_get (D := D) (ci := 4) (v := .int (M.1 b1 1)) (C := RX4) (T := TX4) (N := 18) hx hb hts (mus hf_X4) hown hK hP b1 (wld_o ct ad G M hc1 hk1 (by decide)) rfl 1 (by decide) (hts (.fieldLink RX9 108 "VideoSuite$Picture" "width" "I") (mu mw_1423)) (fun _ h9 => h9) rfl dX9_pieceAt_5 ?_
  obtain ⟨x2, ex2, hF⟩ := ltt_some hF
  refine lv_topi (fun zx2 ezx2 => ?_)
  obtain rfl : x2 = zx2 := ex2.trans ezx2.symm
  obtain ⟨hne, hF⟩ := chk_some hF
  refine lv_irem hx hb dX9_pieceAt_8 hne ?_
  obtain ⟨x3, ex3, hF⟩ := ltt_some hF
  refine lv_topi (fun zx3 ezx3 => ?_)
  obtain rfl : x3 = zx3 := ex3.trans ezx3.symm
  refine lv_iload_n hx hb dX9_pieceAt_9 rfl (lv_at hl 2 rfl) ?_
  obtain ⟨y4, hy4, hF⟩ := bnd_some hF
  have J4 : ∀ (H : Heap) (locs : List Loc) (ls : Array Slot), va_P D classes (wld ct ad G M) H → va_D A (wld ct ad G M) → va_S A s.heap H locs → lv_has ls 9 [(0, .ref (ad a)), (1, .int p0), (2, .int p1), (3, .int p2), (4, .int p3)] → W p l e (headSpec wuX9_pieceAt ({ frames := 0, cells := 0, slots := 0, locals := 0 })).room s m ([.ref (ad a), .int p0, .int p1, .int p2, .int p3] : List Value).toArray below meth c H locs 0 0 (MQ below (va_Qi (fun (q : Int32) (_ : Unit) => q = y.2) (fun _ t => kE D ct ad G A y.1 t) A) ([.ref (ad a), .int p0, .int p1, .int p2, .int p3] : List Value).toArray s 0 0 A) (F0 m 28 ls [.int y4, .int x3]) := by
    intro H locs ls hP hD hS hl
    refine lv_iadd hx hb dX9_pieceAt_28 ?_
    obtain ⟨x5, ex5, hF⟩ := ltt_some hF
    refine lv_topi (fun zx5 ezx5 => ?_)
    obtain rfl : x5 = zx5 := ex5.trans ezx5.symm
    refine lv_istore (lv' := [(5, .int x5), (0, .ref (ad a)), (1, .int p0), (2, .int p1), (3, .int p2), (4, .int p3)]) hx hb dX9_pieceAt_29 hl (by decide) rfl (fun ls hl => ?_)
    refine lv_iload_n hx hb dX9_pieceAt_31 rfl (lv_at hl 2 rfl) ?_
    refine lv_aload_n hx hb dX9_pieceAt_32 rfl (lv_at hl 1 rfl) ?_
    refine va_get (D := D) (ci := 9) (v := va_re ad (M.2 a 0)) (C := RX9) (T := TX9) (N := 20) hx hb hts (mus hf_X9) hown hK hP a (wld_o ct ad G M hc hk (by decide)) rfl 0 (by decide) (hts (.fieldLink RX9 51 "VideoSuite$Work" "pic" "LVideoSuite$Picture;") (mu mw_422)) (fun _ h9 => h9) rfl dX9_pieceAt_33 ?_
    refine W_st (st' := [.ref (ad b1), .int p0]) (by rw [va_some ho1]) ?_
    refine va_get (D := D) (ci := 4) (v := .int (M.1 b1 1)) (C := RX4) (T := TX4) (N := 18) hx hb hts (mus hf_X4) hown hK hP b1 (wld_o ct ad G M hc1 hk1 (by decide)) rfl 1 (by decide) (hts (.fieldLink RX9 108 "VideoSuite$Picture" "width" "I") (mu mw_1423)) (fun _ h9 => h9) rfl dX9_pieceAt_36 ?_
    obtain ⟨x6, ex6, hF⟩ := ltt_some hF
    refine lv_topi (fun zx6 ezx6 => ?_)
    obtain rfl : x6 = zx6 := ex6.trans ezx6.symm
    obtain ⟨hne, hF⟩ := chk_some hF
    refine lv_idiv hx hb dX9_pieceAt_39 hne ?_
    obtain ⟨x7, ex7, hF⟩ := ltt_some hF
    refine lv_topi (fun zx7 ezx7 => ?_)
    obtain rfl : x7 = zx7 := ex7.trans ezx7.symm
    refine lv_iload_n hx hb dX9_pieceAt_40 rfl (lv_at hl 4 rfl) ?_
    obtain ⟨y8, hy8, hF⟩ := bnd_some hF
    have J8 : ∀ (H : Heap) (locs : List Loc) (ls : Array Slot), va_P D classes (wld ct ad G M) H → va_D A (wld ct ad G M) → va_S A s.heap H locs → lv_has ls 9 [(5, .int x5), (0, .ref (ad a)), (1, .int p0), (2, .int p1), (3, .int p2), (4, .int p3)] → W p l e (headSpec wuX9_pieceAt ({ frames := 0, cells := 0, slots := 0, locals := 0 })).room s m ([.ref (ad a), .int p0, .int p1, .int p2, .int p3] : List Value).toArray below meth c H locs 0 0 (MQ below (va_Qi (fun (q : Int32) (_ : Unit) => q = y.2) (fun _ t => kE D ct ad G A y.1 t) A) ([.ref (ad a), .int p0, .int p1, .int p2, .int p3] : List Value).toArray s 0 0 A) (F0 m 49 ls [.int y8, .int x7]) := by
      intro H locs ls hP hD hS hl
      refine lv_isub hx hb dX9_pieceAt_49 ?_
      obtain ⟨x9, ex9, hF⟩ := ltt_some hF
      refine lv_topi (fun zx9 ezx9 => ?_)
      obtain rfl : x9 = zx9 := ex9.trans ezx9.symm
      refine lv_istore (lv' := [(6, .int x9), (5, .int x5), (0, .ref (ad a)), (1, .int p0), (2, .int p1), (3, .int p2), (4, .int p3)]) hx hb dX9_pieceAt_50 hl (by decide) rfl (fun ls hl => ?_)
      refine lv_iload hx hb dX9_pieceAt_52 (lv_at hl 1 rfl) ?_
      refine lv_if_lt (tgt := 74) hx hb dX9_pieceAt_54 (by decide) (fun c10 => ?_) (fun c10 => ?_)
      · rw [if_pos c10] at hF
        refine lv_iconst (v := (-1 : Int32)) hx hb dX9_pieceAt_74 (by decide) ?_
        obtain rfl := Option.some.inj hF
        exact W.iret (v := (-1 : Int32)) hx hb hr (fun t ht hW => ⟨⟨_, (), rfl, rfl, ⟨by rw [ht]; exact hP, va_K.moved hW.alike hK, hD⟩⟩, hS.F ht⟩) hS.2.2 dX9_pieceAt_75
      · rw [if_neg c10] at hF
        refine lv_iload hx hb dX9_pieceAt_57 (lv_at hl 1 rfl) ?_
        refine lv_aload_n hx hb dX9_pieceAt_59 rfl (lv_at hl 2 rfl) ?_
        refine va_get (D := D) (ci := 9) (v := va_re ad (M.2 a 0)) (C := RX9) (T := TX9) (N := 20) hx hb hts (mus hf_X9) hown hK hP a (wld_o ct ad G M hc hk (by decide)) rfl 0 (by decide) (hts (.fieldLink RX9 51 "VideoSuite$Work" "pic" "LVideoSuite$Picture;") (mu mw_422)) (fun _ h9 => h9) rfl dX9_pieceAt_60 ?_
        refine W_st (st' := [.ref (ad b1), .int x5]) (by rw [va_some ho1]) ?_
        refine va_get (D := D) (ci := 4) (v := .int (M.1 b1 1)) (C := RX4) (T := TX4) (N := 18) hx hb hts (mus hf_X4) hown hK hP b1 (wld_o ct ad G M hc1 hk1 (by decide)) rfl 1 (by decide) (hts (.fieldLink RX9 108 "VideoSuite$Picture" "width" "I") (mu mw_1423)) (fun _ h9 => h9) rfl dX9_pieceAt_63 ?_
        obtain ⟨x11, ex11, hF⟩ := ltt_some hF
        refine lv_topi (fun zx11 ezx11 => ?_)
        obtain rfl : x11 = zx11 := ex11.trans ezx11.symm
        refine lv_icmp_ge (tgt := 74) hx hb dX9_pieceAt_66 (by decide) (fun c12 => ?_) (fun c12 => ?_)
        · rw [if_pos c12] at hF
          refine lv_iconst (v := (-1 : Int32)) hx hb dX9_pieceAt_74 (by decide) ?_
          obtain rfl := Option.some.inj hF
          exact W.iret (v := (-1 : Int32)) hx hb hr (fun t ht hW => ⟨⟨_, (), rfl, rfl, ⟨by rw [ht]; exact hP, va_K.moved hW.alike hK, hD⟩⟩, hS.F ht⟩) hS.2.2 dX9_pieceAt_75
        · rw [if_neg c12] at hF
          refine lv_iload hx hb dX9_pieceAt_69 (lv_at hl 0 rfl) ?_
          refine lv_if_ge (tgt := 76) hx hb dX9_pieceAt_71 (by decide) (fun c13 => ?_) (fun c13 => ?_)
          · rw [if_pos c13] at hF
            refine lv_iload hx hb dX9_pieceAt_76 (lv_at hl 0 rfl) ?_
            refine lv_aload_n hx hb dX9_pieceAt_78 rfl (lv_at hl 2 rfl) ?_
            refine va_get (D := D) (ci := 9) (v := va_re ad (M.2 a 0)) (C := RX9) (T := TX9) (N := 20) hx hb hts (mus hf_X9) hown hK hP a (wld_o ct ad G M hc hk (by decide)) rfl 0 (by decide) (hts (.fieldLink RX9 51 "VideoSuite$Work" "pic" "LVideoSuite$Picture;") (mu mw_422)) (fun _ h9 => h9) rfl dX9_pieceAt_79 ?_
            refine W_st (st' := [.ref (ad b1), .int x9]) (by rw [va_some ho1]) ?_
            refine va_get (D := D) (ci := 4) (v := .int (M.1 b1 1)) (C := RX4) (T := TX4) (N := 18) hx hb hts (mus hf_X4) hown hK hP b1 (wld_o ct ad G M hc1 hk1 (by decide)) rfl 1 (by decide) (hts (.fieldLink RX9 108 "VideoSuite$Picture" "width" "I") (mu mw_1423)) (fun _ h9 => h9) rfl dX9_pieceAt_82 ?_
            obtain ⟨x14, ex14, hF⟩ := ltt_some hF
            refine lv_topi (fun zx14 ezx14 => ?_)
            obtain rfl : x14 = zx14 := ex14.trans ezx14.symm
            refine lv_imul hx hb dX9_pieceAt_85 ?_
            obtain ⟨x15, ex15, hF⟩ := ltt_some hF
            refine lv_topi (fun zx15 ezx15 => ?_)
            obtain rfl : x15 = zx15 := ex15.trans ezx15.symm
            refine lv_iload hx hb dX9_pieceAt_86 (lv_at hl 1 rfl) ?_
            refine lv_iadd hx hb dX9_pieceAt_88 ?_
            obtain ⟨x16, ex16, hF⟩ := ltt_some hF
            refine lv_topi (fun zx16 ezx16 => ?_)
            obtain rfl : x16 = zx16 := ex16.trans ezx16.symm
            refine lv_istore (lv' := [(7, .int x16), (6, .int x9), (5, .int x5), (0, .ref (ad a)), (1, .int p0), (2, .int p1), (3, .int p2), (4, .int p3)]) hx hb dX9_pieceAt_89 hl (by decide) rfl (fun ls hl => ?_)
            refine lv_iload_n hx hb dX9_pieceAt_91 rfl (lv_at hl 6 rfl) ?_
            refine lv_iconst (v := (3 : Int32)) hx hb dX9_pieceAt_92 (by decide) ?_
            refine lv_ishr hx hb dX9_pieceAt_93 ?_
            obtain ⟨x17, ex17, hF⟩ := ltt_some hF
            refine lv_topi (fun zx17 ezx17 => ?_)
            obtain rfl : x17 = zx17 := ex17.trans ezx17.symm
            refine lv_iconst (v := (1 : Int32)) hx hb dX9_pieceAt_94 (by decide) ?_
            refine lv_iand hx hb dX9_pieceAt_95 ?_
            obtain ⟨x18, ex18, hF⟩ := ltt_some hF
            refine lv_topi (fun zx18 ezx18 => ?_)
            obtain rfl : x18 = zx18 := ex18.trans ezx18.symm
            refine lv_bipush (v := (8 : Int32)) hx hb dX9_pieceAt_96 (by decide) ?_
            refine lv_imul hx hb dX9_pieceAt_98 ?_
            obtain ⟨x19, ex19, hF⟩ := ltt_some hF
            refine lv_topi (fun zx19 ezx19 => ?_)
            obtain rfl : x19 = zx19 := ex19.trans ezx19.symm
            refine lv_iload_n hx hb dX9_pieceAt_99 rfl (lv_at hl 5 rfl) ?_
            refine lv_iconst (v := (3 : Int32)) hx hb dX9_pieceAt_100 (by decide) ?_
            refine lv_ishr hx hb dX9_pieceAt_101 ?_
            obtain ⟨x20, ex20, hF⟩ := ltt_some hF
            refine lv_topi (fun zx20 ezx20 => ?_)
            obtain rfl : x20 = zx20 := ex20.trans ezx20.symm
            refine lv_iconst (v := (1 : Int32)) hx hb dX9_pieceAt_102 (by decide) ?_
            refine lv_iand hx hb dX9_pieceAt_103 ?_
            obtain ⟨x21, ex21, hF⟩ := ltt_some hF
            refine lv_topi (fun zx21 ezx21 => ?_)
            obtain rfl : x21 = zx21 := ex21.trans ezx21.symm
            refine lv_iconst (v := (4 : Int32)) hx hb dX9_pieceAt_104 (by decide) ?_
            refine lv_imul hx hb dX9_pieceAt_105 ?_
            obtain ⟨x22, ex22, hF⟩ := ltt_some hF
            refine lv_topi (fun zx22 ezx22 => ?_)
            obtain rfl : x22 = zx22 := ex22.trans ezx22.symm
            refine lv_iadd hx hb dX9_pieceAt_106 ?_
            obtain ⟨x23, ex23, hF⟩ := ltt_some hF
            refine lv_topi (fun zx23 ezx23 => ?_)
            obtain rfl : x23 = zx23 := ex23.trans ezx23.symm
            refine lv_iload_n hx hb dX9_pieceAt_107 rfl (lv_at hl 6 rfl) ?_
            refine lv_iconst (v := (2 : Int32)) hx hb dX9_pieceAt_108 (by decide) ?_
            refine lv_ishr hx hb dX9_pieceAt_109 ?_
            obtain ⟨x24, ex24, hF⟩ := ltt_some hF
            refine lv_topi (fun zx24 ezx24 => ?_)
            obtain rfl : x24 = zx24 := ex24.trans ezx24.symm
            refine lv_iconst (v := (1 : Int32)) hx hb dX9_pieceAt_110 (by decide) ?_
            refine lv_iand hx hb dX9_pieceAt_111 ?_
            obtain ⟨x25, ex25, hF⟩ := ltt_some hF
            refine lv_topi (fun zx25 ezx25 => ?_)
            obtain rfl : x25 = zx25 := ex25.trans ezx25.symm
            refine lv_iconst (v := (2 : Int32)) hx hb dX9_pieceAt_112 (by decide) ?_
            refine lv_imul hx hb dX9_pieceAt_113 ?_
            obtain ⟨x26, ex26, hF⟩ := ltt_some hF
            refine lv_topi (fun zx26 ezx26 => ?_)
            obtain rfl : x26 = zx26 := ex26.trans ezx26.symm
            refine lv_iadd hx hb dX9_pieceAt_114 ?_
            obtain ⟨x27, ex27, hF⟩ := ltt_some hF
            refine lv_topi (fun zx27 ezx27 => ?_)
            obtain rfl : x27 = zx27 := ex27.trans ezx27.symm
            refine lv_iload_n hx hb dX9_pieceAt_115 rfl (lv_at hl 5 rfl) ?_
            refine lv_iconst (v := (2 : Int32)) hx hb dX9_pieceAt_116 (by decide) ?_
            refine lv_ishr hx hb dX9_pieceAt_117 ?_
            obtain ⟨x28, ex28, hF⟩ := ltt_some hF
            refine lv_topi (fun zx28 ezx28 => ?_)
            obtain rfl : x28 = zx28 := ex28.trans ezx28.symm
            refine lv_iconst (v := (1 : Int32)) hx hb dX9_pieceAt_118 (by decide) ?_
            refine lv_iand hx hb dX9_pieceAt_119 ?_
            obtain ⟨x29, ex29, hF⟩ := ltt_some hF
            refine lv_topi (fun zx29 ezx29 => ?_)
            obtain rfl : x29 = zx29 := ex29.trans ezx29.symm
            refine lv_iadd hx hb dX9_pieceAt_120 ?_
            obtain ⟨x30, ex30, hF⟩ := ltt_some hF
            refine lv_topi (fun zx30 ezx30 => ?_)
            obtain rfl : x30 = zx30 := ex30.trans ezx30.symm
            refine lv_istore (lv' := [(8, .int x30), (7, .int x16), (6, .int x9), (5, .int x5), (0, .ref (ad a)), (1, .int p0), (2, .int p1), (3, .int p2), (4, .int p3)]) hx hb dX9_pieceAt_121 hl (by decide) rfl (fun ls hl => ?_)
            refine lv_iload hx hb dX9_pieceAt_123 (lv_at hl 1 rfl) ?_
            refine lv_iload_n hx hb dX9_pieceAt_125 rfl (lv_at hl 5 rfl) ?_
            refine lv_icmp_ne (tgt := 148) hx hb dX9_pieceAt_126 (by decide) (fun c31 => ?_) (fun c31 => ?_)
            · rw [if_neg c31] at hF
              refine lv_iload hx hb dX9_pieceAt_148 (lv_at hl 1 rfl) ?_
              refine lv_iload_n hx hb dX9_pieceAt_150 rfl (lv_at hl 5 rfl) ?_
              obtain ⟨y32, hy32, hF⟩ := bnd_some hF
              have J32 : ∀ (H : Heap) (locs : List Loc) (ls : Array Slot), va_P D classes (wld ct ad G M) H → va_D A (wld ct ad G M) → va_S A s.heap H locs → lv_has ls 9 [(8, .int x30), (7, .int x16), (6, .int x9), (5, .int x5), (0, .ref (ad a)), (1, .int p0), (2, .int p1), (3, .int p2), (4, .int p3)] → W p l e (headSpec wuX9_pieceAt ({ frames := 0, cells := 0, slots := 0, locals := 0 })).room s m ([.ref (ad a), .int p0, .int p1, .int p2, .int p3] : List Value).toArray below meth c H locs 0 0 (MQ below (va_Qi (fun (q : Int32) (_ : Unit) => q = y.2) (fun _ t => kE D ct ad G A y.1 t) A) ([.ref (ad a), .int p0, .int p1, .int p2, .int p3] : List Value).toArray s 0 0 A) (F0 m 186 ls [.int y32]) := by
                intro H locs ls hP hD hS hl
                obtain rfl := Option.some.inj hF
                exact W.iret (v := y32) hx hb hr (fun t ht hW => ⟨⟨_, (), rfl, rfl, ⟨by rw [ht]; exact hP, va_K.moved hW.alike hK, hD⟩⟩, hS.F ht⟩) hS.2.2 dX9_pieceAt_186
              clear hF
              have hF := hy32
              clear hy32
              refine lv_icmp_ge (tgt := 185) hx hb dX9_pieceAt_151 (by decide) (fun c33 => ?_) (fun c33 => ?_)
              · rw [if_pos c33] at hF
                refine lv_iconst (v := (-1 : Int32)) hx hb dX9_pieceAt_185 (by decide) ?_
                obtain rfl := Option.some.inj hF
                exact J32 _ _ _ hP hD hS (lv_sub hl [0, 1, 2, 3, 4, 5, 6, 7, 8] rfl)
              · rw [if_neg c33] at hF
                refine lv_aload_n hx hb dX9_pieceAt_154 rfl (lv_at hl 4 rfl) ?_
                refine va_get (D := D) (ci := 9) (v := va_re ad (M.2 a 6)) (C := RX9) (T := TX9) (N := 20) hx hb hts (mus hf_X9) hown hK hP a (wld_o ct ad G M hc hk (by decide)) rfl 6 (by decide) (hts (.fieldLink RX9 24 "VideoSuite$Work" "info" "[I") (mu mw_442)) (fun _ h9 => h9) rfl dX9_pieceAt_155 ?_
                refine lv_bipush (v := (8 : Int32)) hx hb dX9_pieceAt_158 (by decide) ?_
                refine lv_iload hx hb dX9_pieceAt_160 (lv_at hl 1 rfl) ?_
                refine lv_imul hx hb dX9_pieceAt_162 ?_
                obtain ⟨x34, ex34, hF⟩ := ltt_some hF
                refine lv_topi (fun zx34 ezx34 => ?_)
                obtain rfl : x34 = zx34 := ex34.trans ezx34.symm
                refine lv_bipush (v := (6 : Int32)) hx hb dX9_pieceAt_163 (by decide) ?_
                refine lv_iadd hx hb dX9_pieceAt_165 ?_
                obtain ⟨x35, ex35, hF⟩ := ltt_some hF
                refine lv_topi (fun zx35 ezx35 => ?_)
                obtain rfl : x35 = zx35 := ex35.trans ezx35.symm
                obtain ⟨b36, ho36, hc36, hk36, hF⟩ := dr_some hF
                refine W_st (st' := [.int x35, .ref (ad b36)]) (by rw [va_some ho36]) ?_
                obtain ⟨hvc, hF⟩ := chk_some hF
                refine va_iald hx hb hK hP b36 1 (wld_i ct ad G M hc36 hk36) rfl hvc dX9_pieceAt_166 ?_
                obtain ⟨x37, ex37, hF⟩ := ltt_some hF
                refine lv_topi (fun zx37 ezx37 => ?_)
                obtain rfl : x37 = zx37 := ex37.trans ezx37.symm
                refine lv_aload_n hx hb dX9_pieceAt_167 rfl (lv_at hl 4 rfl) ?_
                refine va_get (D := D) (ci := 9) (v := .int (M.1 a 11)) (C := RX9) (T := TX9) (N := 20) hx hb hts (mus hf_X9) hown hK hP a (wld_o ct ad G M hc hk (by decide)) rfl 11 (by decide) (hts (.fieldLink RX9 55 "VideoSuite$Work" "sliceNumber" "I") (mu mw_460)) (fun _ h9 => h9) rfl dX9_pieceAt_168 ?_
                obtain ⟨x38, ex38, hF⟩ := ltt_some hF
                refine lv_topi (fun zx38 ezx38 => ?_)
                obtain rfl : x38 = zx38 := ex38.trans ezx38.symm
                obtain ⟨y39, hy39, hF⟩ := bnd_some hF
                have J39 : ∀ (H : Heap) (locs : List Loc) (ls : Array Slot), va_P D classes (wld ct ad G M) H → va_D A (wld ct ad G M) → va_S A s.heap H locs → lv_has ls 9 [(8, .int x30), (7, .int x16), (6, .int x9), (5, .int x5), (0, .ref (ad a)), (1, .int p0), (2, .int p1), (3, .int p2), (4, .int p3)] → W p l e (headSpec wuX9_pieceAt ({ frames := 0, cells := 0, slots := 0, locals := 0 })).room s m ([.ref (ad a), .int p0, .int p1, .int p2, .int p3] : List Value).toArray below meth c H locs 0 0 (MQ below (va_Qi (fun (q : Int32) (_ : Unit) => q = y.2) (fun _ t => kE D ct ad G A y.1 t) A) ([.ref (ad a), .int p0, .int p1, .int p2, .int p3] : List Value).toArray s 0 0 A) (F0 m 186 ls [.int y39]) := by
                  intro H locs ls hP hD hS hl
                  obtain rfl := Option.some.inj hF
                  exact J32 _ _ _ hP hD hS (lv_sub hl [0, 1, 2, 3, 4, 5, 6, 7, 8] rfl)
                clear hF
                have hF := hy39
                clear hy39
                refine lv_icmp_ne (tgt := 185) hx hb dX9_pieceAt_171 (by decide) (fun c40 => ?_) (fun c40 => ?_)
                · rw [if_neg c40] at hF
                  refine lv_iconst (v := (-1 : Int32)) hx hb dX9_pieceAt_185 (by decide) ?_
                  obtain rfl := Option.some.inj hF
                  exact J39 _ _ _ hP hD hS (lv_sub hl [0, 1, 2, 3, 4, 5, 6, 7, 8] rfl)
                · rw [if_pos c40] at hF
                  refine lv_bipush (v := (16 : Int32)) hx hb dX9_pieceAt_174 (by decide) ?_
                  refine lv_iload hx hb dX9_pieceAt_176 (lv_at hl 1 rfl) ?_
                  refine lv_imul hx hb dX9_pieceAt_178 ?_
                  obtain ⟨x41, ex41, hF⟩ := ltt_some hF
                  refine lv_topi (fun zx41 ezx41 => ?_)
                  obtain rfl : x41 = zx41 := ex41.trans ezx41.symm
                  refine lv_iload hx hb dX9_pieceAt_179 (lv_at hl 0 rfl) ?_
                  refine lv_iadd hx hb dX9_pieceAt_181 ?_
                  obtain ⟨x42, ex42, hF⟩ := ltt_some hF
                  refine lv_topi (fun zx42 ezx42 => ?_)
                  obtain rfl : x42 = zx42 := ex42.trans ezx42.symm
                  refine lv_goto (tgt := 186) hx hb dX9_pieceAt_182 (by decide) ?_
                  obtain rfl := Option.some.inj hF
                  exact J39 _ _ _ hP hD hS (lv_sub hl [0, 1, 2, 3, 4, 5, 6, 7, 8] rfl)
            · rw [if_pos c31] at hF
              refine lv_iload hx hb dX9_pieceAt_129 (lv_at hl 0 rfl) ?_
              refine lv_iload hx hb dX9_pieceAt_131 (lv_at hl 8 rfl) ?_
              obtain ⟨y43, hy43, hF⟩ := bnd_some hF
              have J43 : ∀ (H : Heap) (locs : List Loc) (ls : Array Slot), va_P D classes (wld ct ad G M) H → va_D A (wld ct ad G M) → va_S A s.heap H locs → lv_has ls 9 [(8, .int x30), (7, .int x16), (6, .int x9), (5, .int x5), (0, .ref (ad a)), (1, .int p0), (2, .int p1), (3, .int p2), (4, .int p3)] → W p l e (headSpec wuX9_pieceAt ({ frames := 0, cells := 0, slots := 0, locals := 0 })).room s m ([.ref (ad a), .int p0, .int p1, .int p2, .int p3] : List Value).toArray below meth c H locs 0 0 (MQ below (va_Qi (fun (q : Int32) (_ : Unit) => q = y.2) (fun _ t => kE D ct ad G A y.1 t) A) ([.ref (ad a), .int p0, .int p1, .int p2, .int p3] : List Value).toArray s 0 0 A) (F0 m 147 ls [.int y43]) := by
                intro H locs ls hP hD hS hl
                obtain rfl := Option.some.inj hF
                exact W.iret (v := y43) hx hb hr (fun t ht hW => ⟨⟨_, (), rfl, rfl, ⟨by rw [ht]; exact hP, va_K.moved hW.alike hK, hD⟩⟩, hS.F ht⟩) hS.2.2 dX9_pieceAt_147
              clear hF
              have hF := hy43
              clear hy43
              refine lv_icmp_ge (tgt := 146) hx hb dX9_pieceAt_133 (by decide) (fun c44 => ?_) (fun c44 => ?_)
              · rw [if_pos c44] at hF
                refine lv_iconst (v := (-1 : Int32)) hx hb dX9_pieceAt_146 (by decide) ?_
                obtain rfl := Option.some.inj hF
                exact J43 _ _ _ hP hD hS (lv_sub hl [0, 1, 2, 3, 4, 5, 6, 7, 8] rfl)
              · rw [if_neg c44] at hF
                refine lv_bipush (v := (16 : Int32)) hx hb dX9_pieceAt_136 (by decide) ?_
                refine lv_iload_n hx hb dX9_pieceAt_138 rfl (lv_at hl 5 rfl) ?_
                refine lv_imul hx hb dX9_pieceAt_139 ?_
                obtain ⟨x45, ex45, hF⟩ := ltt_some hF
                refine lv_topi (fun zx45 ezx45 => ?_)
                obtain rfl : x45 = zx45 := ex45.trans ezx45.symm
                refine lv_iload hx hb dX9_pieceAt_140 (lv_at hl 0 rfl) ?_
                refine lv_iadd hx hb dX9_pieceAt_142 ?_
                obtain ⟨x46, ex46, hF⟩ := ltt_some hF
                refine lv_topi (fun zx46 ezx46 => ?_)
                obtain rfl : x46 = zx46 := ex46.trans ezx46.symm
                refine lv_goto (tgt := 147) hx hb dX9_pieceAt_143 (by decide) ?_
                obtain rfl := Option.some.inj hF
                exact J43 _ _ _ hP hD hS (lv_sub hl [0, 1, 2, 3, 4, 5, 6, 7, 8] rfl)
          · rw [if_neg c13] at hF
            refine lv_iconst (v := (-1 : Int32)) hx hb dX9_pieceAt_74 (by decide) ?_
            obtain rfl := Option.some.inj hF
            exact W.iret (v := (-1 : Int32)) hx hb hr (fun t ht hW => ⟨⟨_, (), rfl, rfl, ⟨by rw [ht]; exact hP, va_K.moved hW.alike hK, hD⟩⟩, hS.F ht⟩) hS.2.2 dX9_pieceAt_75
    clear hF
    have hF := hy8
    clear hy8
    refine lv_if_ge (tgt := 48) hx hb dX9_pieceAt_41 (by decide) (fun c47 => ?_) (fun c47 => ?_)
    · rw [if_pos c47] at hF
      refine lv_iconst (v := (0 : Int32)) hx hb dX9_pieceAt_48 (by decide) ?_
      obtain rfl := Option.some.inj hF
      exact J8 _ _ _ hP hD hS (lv_sub hl [0, 1, 2, 3, 4, 5] rfl)
    · rw [if_neg c47] at hF
      refine lv_iconst (v := (1 : Int32)) hx hb dX9_pieceAt_44 (by decide) ?_
      refine lv_goto (tgt := 49) hx hb dX9_pieceAt_45 (by decide) ?_
      obtain rfl := Option.some.inj hF
      exact J8 _ _ _ hP hD hS (lv_sub hl [0, 1, 2, 3, 4, 5] rfl)
  clear hF
  have hF := hy4
  clear hy4
  refine lv_if_ge (tgt := 17) hx hb dX9_pieceAt_10 (by decide) (fun c48 => ?_) (fun c48 => ?_)
  · rw [if_pos c48] at hF
    refine lv_iload_n hx hb dX9_pieceAt_17 rfl (lv_at hl 2 rfl) ?_
    refine lv_bipush (v := (15 : Int32)) hx hb dX9_pieceAt_18 (by decide) ?_
    obtain ⟨y49, hy49, hF⟩ := bnd_some hF
    have J49 : ∀ (H : Heap) (locs : List Loc) (ls : Array Slot), va_P D classes (wld ct ad G M) H → va_D A (wld ct ad G M) → va_S A s.heap H locs → lv_has ls 9 [(0, .ref (ad a)), (1, .int p0), (2, .int p1), (3, .int p2), (4, .int p3)] → W p l e (headSpec wuX9_pieceAt ({ frames := 0, cells := 0, slots := 0, locals := 0 })).room s m ([.ref (ad a), .int p0, .int p1, .int p2, .int p3] : List Value).toArray below meth c H locs 0 0 (MQ below (va_Qi (fun (q : Int32) (_ : Unit) => q = y.2) (fun _ t => kE D ct ad G A y.1 t) A) ([.ref (ad a), .int p0, .int p1, .int p2, .int p3] : List Value).toArray s 0 0 A) (F0 m 28 ls [.int y49, .int x3]) := by
      intro H locs ls hP hD hS hl
      obtain rfl := Option.some.inj hF
      exact J4 _ _ _ hP hD hS (lv_sub hl [0, 1, 2, 3, 4] rfl)
    clear hF
    have hF := hy49
    clear hy49
    refine lv_icmp_le (tgt := 27) hx hb dX9_pieceAt_20 (by decide) (fun c50 => ?_) (fun c50 => ?_)
    · rw [if_pos c50] at hF
      refine lv_iconst (v := (0 : Int32)) hx hb dX9_pieceAt_27 (by decide) ?_
      obtain rfl := Option.some.inj hF
      exact J49 _ _ _ hP hD hS (lv_sub hl [0, 1, 2, 3, 4] rfl)
    · rw [if_neg c50] at hF
      refine lv_iconst (v := (1 : Int32)) hx hb dX9_pieceAt_23 (by decide) ?_
      refine lv_goto (tgt := 28) hx hb dX9_pieceAt_24 (by decide) ?_
      obtain rfl := Option.some.inj hF
      exact J49 _ _ _ hP hD hS (lv_sub hl [0, 1, 2, 3, 4] rfl)
  · rw [if_neg c48] at hF
    refine lv_iconst (v := (-1 : Int32)) hx hb dX9_pieceAt_13 (by decide) ?_
    refine lv_goto (tgt := 28) hx hb dX9_pieceAt_14 (by decide) ?_
    obtain rfl := Option.some.inj hF
    exact J4 _ _ _ hP hD hS (lv_sub hl [0, 1, 2, 3, 4] rfl)
theorem dX9_pieceX_0 : decode cX9_pieceX 0 = .ok (.bipush 8, 2) := by decide +kernel
theorem dX9_pieceX_2 : decode cX9_pieceX 2 = .ok (.iload_n 0, 1) := by decide +kernel
theorem dX9_pieceX_3 : decode cX9_pieceX 3 = .ok (.iconst 4, 1) := by decide +kernel
theorem dX9_pieceX_4 : decode cX9_pieceX 4 = .ok (.idiv, 1) := by decide +kernel
theorem dX9_pieceX_5 : decode cX9_pieceX 5 = .ok (.iconst 2, 1) := by decide +kernel
theorem dX9_pieceX_6 : decode cX9_pieceX 6 = .ok (.irem, 1) := by decide +kernel
theorem dX9_pieceX_7 : decode cX9_pieceX 7 = .ok (.imul, 1) := by decide +kernel
theorem dX9_pieceX_8 : decode cX9_pieceX 8 = .ok (.iconst 4, 1) := by decide +kernel
theorem dX9_pieceX_9 : decode cX9_pieceX 9 = .ok (.iload_n 0, 1) := by decide +kernel
theorem dX9_pieceX_10 : decode cX9_pieceX 10 = .ok (.iconst 2, 1) := by decide +kernel
theorem dX9_pieceX_11 : decode cX9_pieceX 11 = .ok (.irem, 1) := by decide +kernel
theorem dX9_pieceX_12 : decode cX9_pieceX 12 = .ok (.imul, 1) := by decide +kernel
theorem dX9_pieceX_13 : decode cX9_pieceX 13 = .ok (.iadd, 1) := by decide +kernel
theorem dX9_pieceX_14 : decode cX9_pieceX 14 = .ok (.ireturn, 1) := by decide +kernel
def FX9_pieceX (G : GG) (M : DD) (p0 : Int32) : Option (DD × Int32) :=
  ltt (p0 / ((4 : Int32))) fun x1 =>
  ltt (x1 - x1 / ((2 : Int32)) * ((2 : Int32))) fun x2 =>
  ltt ((((8 : Int32)) * x2)) fun x3 =>
  ltt (p0 - p0 / ((2 : Int32)) * ((2 : Int32))) fun x4 =>
  ltt ((((4 : Int32)) * x4)) fun x5 =>
  ltt ((x3 + x5)) fun x6 =>
  some (M, x6)
set_option maxHeartbeats 4000000 in
set_option maxRecDepth 100000 in
theorem kX9_pieceX (l : Launch) (D : va_G) (ct : CT) (ad : Nat → Nat) (Z : Nat → Nat) (G : GG) (M : DD) (sz : Nat) (p0 : Int32) (y : DD × Int32) (hF : FX9_pieceX G M p0 = some y) : Met l yX9_pieceX wuX9_pieceX ({ frames := 0, cells := 0, slots := 0, locals := 0 }) (va_Pc [.int p0] (kB D ct ad Z G M sz)) (va_Qi (fun (q : Int32) (_ : Unit) => q = y.2) (fun _ t => kE D ct ad G (wA ad G sz) y.1 t) (wA ad G sz)) 0 0 (wA ad G sz) := by
  refine Met.ofW (cc := cX9_pieceX) (maxL := 1) (ret := (some .int)) (by decide) rfl ?_
  intro p e s m args below meth c s₁ B hml hv
  obtain ⟨rfl, hsz, hP, hK, hD0, hZ, hN⟩ := hv
  have hx := B.exec
  have hb := B.bytes
  have hr := B.returns
  have hts := atoms_spec (ws := wuX9_pieceX) B.pre
  have hown : s.vm.findClass RX9 = some m.cls := findClass_of_methodNamed B.named
  have hlocks := B.notSynchronized
  subst hsz
  have hD := wD_self (sz := s.heap.size) hD0
  have hA9 : ∀ q, s.heap.size ≤ q → wA ad G s.heap.size q := fun q h => Or.inr h
  generalize hAe : wA ad G s.heap.size = A at hD hA9 hZ ⊢
  have hS : va_S A s.heap s.heap [] := va_S.rf
  have hl := lv_entry ([.int p0]) (n := 1) (Nat.le_of_ble_eq_true rfl)
  rw [lg_entry_eq]
  generalize (lg_sl ([.int p0]) ++ List.replicate (1 - (lg_sl ([.int p0])).length) Slot.unset).toArray = ls at hl ⊢
  have hl : lv_has ls 1 [(0, .int p0)] := hl
  unfold FX9_pieceX at hF
  refine lv_bipush (v := (8 : Int32)) hx hb dX9_pieceX_0 (by decide) ?_
  refine lv_iload_n hx hb dX9_pieceX_2 rfl (lv_at hl 0 rfl) ?_
  refine lv_iconst (v := (4 : Int32)) hx hb dX9_pieceX_3 (by decide) ?_
  refine lv_idiv hx hb dX9_pieceX_4 (by decide) ?_
  obtain ⟨x1, ex1, hF⟩ := ltt_some hF
  refine lv_topi (fun zx1 ezx1 => ?_)
  obtain rfl : x1 = zx1 := ex1.trans ezx1.symm
  refine lv_iconst (v := (2 : Int32)) hx hb dX9_pieceX_5 (by decide) ?_
  refine lv_irem hx hb dX9_pieceX_6 (by decide) ?_
  obtain ⟨x2, ex2, hF⟩ := ltt_some hF
  refine lv_topi (fun zx2 ezx2 => ?_)
  obtain rfl : x2 = zx2 := ex2.trans ezx2.symm
  refine lv_imul hx hb dX9_pieceX_7 ?_
  obtain ⟨x3, ex3, hF⟩ := ltt_some hF
  refine lv_topi (fun zx3 ezx3 => ?_)
  obtain rfl : x3 = zx3 := ex3.trans ezx3.symm
  refine lv_iconst (v := (4 : Int32)) hx hb dX9_pieceX_8 (by decide) ?_
  refine lv_iload_n hx hb dX9_pieceX_9 rfl (lv_at hl 0 rfl) ?_
  refine lv_iconst (v := (2 : Int32)) hx hb dX9_pieceX_10 (by decide) ?_
  refine lv_irem hx hb dX9_pieceX_11 (by decide) ?_
  obtain ⟨x4, ex4, hF⟩ := ltt_some hF
  refine lv_topi (fun zx4 ezx4 => ?_)
  obtain rfl : x4 = zx4 := ex4.trans ezx4.symm
  refine lv_imul hx hb dX9_pieceX_12 ?_
  obtain ⟨x5, ex5, hF⟩ := ltt_some hF
  refine lv_topi (fun zx5 ezx5 => ?_)
  obtain rfl : x5 = zx5 := ex5.trans ezx5.symm
  refine lv_iadd hx hb dX9_pieceX_13 ?_
  obtain ⟨x6, ex6, hF⟩ := ltt_some hF
  refine lv_topi (fun zx6 ezx6 => ?_)
  obtain rfl : x6 = zx6 := ex6.trans ezx6.symm
  obtain rfl := Option.some.inj hF
  exact W.iret (v := x6) hx hb hr (fun t ht hW => ⟨⟨_, (), rfl, rfl, ⟨by rw [ht]; exact hP, va_K.moved hW.alike hK, hD⟩⟩, hS.F ht⟩) hS.2.2 dX9_pieceX_14
theorem dX9_pieceY_0 : decode cX9_pieceY 0 = .ok (.bipush 8, 2) := by decide +kernel
theorem dX9_pieceY_2 : decode cX9_pieceY 2 = .ok (.iload_n 0, 1) := by decide +kernel
theorem dX9_pieceY_3 : decode cX9_pieceY 3 = .ok (.bipush 8, 2) := by decide +kernel
theorem dX9_pieceY_5 : decode cX9_pieceY 5 = .ok (.idiv, 1) := by decide +kernel
theorem dX9_pieceY_6 : decode cX9_pieceY 6 = .ok (.imul, 1) := by decide +kernel
theorem dX9_pieceY_7 : decode cX9_pieceY 7 = .ok (.iconst 4, 1) := by decide +kernel
theorem dX9_pieceY_8 : decode cX9_pieceY 8 = .ok (.iload_n 0, 1) := by decide +kernel
theorem dX9_pieceY_9 : decode cX9_pieceY 9 = .ok (.iconst 2, 1) := by decide +kernel
theorem dX9_pieceY_10 : decode cX9_pieceY 10 = .ok (.idiv, 1) := by decide +kernel
theorem dX9_pieceY_11 : decode cX9_pieceY 11 = .ok (.iconst 2, 1) := by decide +kernel
theorem dX9_pieceY_12 : decode cX9_pieceY 12 = .ok (.irem, 1) := by decide +kernel
theorem dX9_pieceY_13 : decode cX9_pieceY 13 = .ok (.imul, 1) := by decide +kernel
theorem dX9_pieceY_14 : decode cX9_pieceY 14 = .ok (.iadd, 1) := by decide +kernel
theorem dX9_pieceY_15 : decode cX9_pieceY 15 = .ok (.ireturn, 1) := by decide +kernel
def FX9_pieceY (G : GG) (M : DD) (p0 : Int32) : Option (DD × Int32) :=
  ltt (p0 / ((8 : Int32))) fun x1 =>
  ltt ((((8 : Int32)) * x1)) fun x2 =>
  ltt (p0 / ((2 : Int32))) fun x3 =>
  ltt (x3 - x3 / ((2 : Int32)) * ((2 : Int32))) fun x4 =>
  ltt ((((4 : Int32)) * x4)) fun x5 =>
  ltt ((x2 + x5)) fun x6 =>
  some (M, x6)
set_option maxHeartbeats 4000000 in
set_option maxRecDepth 100000 in
theorem kX9_pieceY (l : Launch) (D : va_G) (ct : CT) (ad : Nat → Nat) (Z : Nat → Nat) (G : GG) (M : DD) (sz : Nat) (p0 : Int32) (y : DD × Int32) (hF : FX9_pieceY G M p0 = some y) : Met l yX9_pieceY wuX9_pieceY ({ frames := 0, cells := 0, slots := 0, locals := 0 }) (va_Pc [.int p0] (kB D ct ad Z G M sz)) (va_Qi (fun (q : Int32) (_ : Unit) => q = y.2) (fun _ t => kE D ct ad G (wA ad G sz) y.1 t) (wA ad G sz)) 0 0 (wA ad G sz) := by
  refine Met.ofW (cc := cX9_pieceY) (maxL := 1) (ret := (some .int)) (by decide) rfl ?_
  intro p e s m args below meth c s₁ B hml hv
  obtain ⟨rfl, hsz, hP, hK, hD0, hZ, hN⟩ := hv
  have hx := B.exec
  have hb := B.bytes
  have hr := B.returns
  have hts := atoms_spec (ws := wuX9_pieceY) B.pre
  have hown : s.vm.findClass RX9 = some m.cls := findClass_of_methodNamed B.named
  have hlocks := B.notSynchronized
  subst hsz
  have hD := wD_self (sz := s.heap.size) hD0
  have hA9 : ∀ q, s.heap.size ≤ q → wA ad G s.heap.size q := fun q h => Or.inr h
  generalize hAe : wA ad G s.heap.size = A at hD hA9 hZ ⊢
  have hS : va_S A s.heap s.heap [] := va_S.rf
  have hl := lv_entry ([.int p0]) (n := 1) (Nat.le_of_ble_eq_true rfl)
  rw [lg_entry_eq]
  generalize (lg_sl ([.int p0]) ++ List.replicate (1 - (lg_sl ([.int p0])).length) Slot.unset).toArray = ls at hl ⊢
  have hl : lv_has ls 1 [(0, .int p0)] := hl
  unfold FX9_pieceY at hF
  refine lv_bipush (v := (8 : Int32)) hx hb dX9_pieceY_0 (by decide) ?_
  refine lv_iload_n hx hb dX9_pieceY_2 rfl (lv_at hl 0 rfl) ?_
  refine lv_bipush (v := (8 : Int32)) hx hb dX9_pieceY_3 (by decide) ?_
  refine lv_idiv hx hb dX9_pieceY_5 (by decide) ?_
  obtain ⟨x1, ex1, hF⟩ := ltt_some hF
  refine lv_topi (fun zx1 ezx1 => ?_)
  obtain rfl : x1 = zx1 := ex1.trans ezx1.symm
  refine lv_imul hx hb dX9_pieceY_6 ?_
  obtain ⟨x2, ex2, hF⟩ := ltt_some hF
  refine lv_topi (fun zx2 ezx2 => ?_)
  obtain rfl : x2 = zx2 := ex2.trans ezx2.symm
  refine lv_iconst (v := (4 : Int32)) hx hb dX9_pieceY_7 (by decide) ?_
  refine lv_iload_n hx hb dX9_pieceY_8 rfl (lv_at hl 0 rfl) ?_
  refine lv_iconst (v := (2 : Int32)) hx hb dX9_pieceY_9 (by decide) ?_
  refine lv_idiv hx hb dX9_pieceY_10 (by decide) ?_
  obtain ⟨x3, ex3, hF⟩ := ltt_some hF
  refine lv_topi (fun zx3 ezx3 => ?_)
  obtain rfl : x3 = zx3 := ex3.trans ezx3.symm
  refine lv_iconst (v := (2 : Int32)) hx hb dX9_pieceY_11 (by decide) ?_
  refine lv_irem hx hb dX9_pieceY_12 (by decide) ?_
  obtain ⟨x4, ex4, hF⟩ := ltt_some hF
  refine lv_topi (fun zx4 ezx4 => ?_)
  obtain rfl : x4 = zx4 := ex4.trans ezx4.symm
  refine lv_imul hx hb dX9_pieceY_13 ?_
  obtain ⟨x5, ex5, hF⟩ := ltt_some hF
  refine lv_topi (fun zx5 ezx5 => ?_)
  obtain rfl : x5 = zx5 := ex5.trans ezx5.symm
  refine lv_iadd hx hb dX9_pieceY_14 ?_
  obtain ⟨x6, ex6, hF⟩ := ltt_some hF
  refine lv_topi (fun zx6 ezx6 => ?_)
  obtain rfl : x6 = zx6 := ex6.trans ezx6.symm
  obtain rfl := Option.some.inj hF
  exact W.iret (v := x6) hx hb hr (fun t ht hW => ⟨⟨_, (), rfl, rfl, ⟨by rw [ht]; exact hP, va_K.moved hW.alike hK, hD⟩⟩, hS.F ht⟩) hS.2.2 dX9_pieceY_15
set_option maxRecDepth 20000 in
theorem gX9_planQuarter_X9_addGroup : GoodIn wuX9_planQuarter (wsV RX9 148 RX9 yX9_addGroup wuX9_addGroup) := gu_V mw_1955 mw_1957 mw_64 mw_171 mw_1958
set_option maxRecDepth 20000 in
set_option maxRecDepth 20000 in
theorem gX9_planQuarter_X9_addPart : GoodIn wuX9_planQuarter (wsV RX9 152 RX9 yX9_addPart wuX9_addPart) := gu_V mw_1959 mw_1961 mw_65 mw_171 mw_1962
theorem dX9_planQuarter_0 : decode cX9_planQuarter 0 = .ok (.aload_n 0, 1) := by decide +kernel
theorem dX9_planQuarter_1 : decode cX9_planQuarter 1 = .ok (.getfield 39, 3) := by decide +kernel
theorem dX9_planQuarter_4 : decode cX9_planQuarter 4 = .ok (.iload_n 2, 1) := by decide +kernel
theorem dX9_planQuarter_5 : decode cX9_planQuarter 5 = .ok (.iaload, 1) := by decide +kernel
theorem dX9_planQuarter_6 : decode cX9_planQuarter 6 = .ok (.istore_n 3, 1) := by decide +kernel
theorem dX9_planQuarter_7 : decode cX9_planQuarter 7 = .ok (.iload_n 1, 1) := by decide +kernel
theorem dX9_planQuarter_8 : decode cX9_planQuarter 8 = .ok (.ifCond .ne 7, 3) := by decide +kernel
theorem dX9_planQuarter_11 : decode cX9_planQuarter 11 = .ok (.iload_n 3, 1) := by decide +kernel
theorem dX9_planQuarter_12 : decode cX9_planQuarter 12 = .ok (.goto 8, 3) := by decide +kernel
theorem dX9_planQuarter_15 : decode cX9_planQuarter 15 = .ok (.getstatic 155, 3) := by decide +kernel
theorem dX9_planQuarter_18 : decode cX9_planQuarter 18 = .ok (.iload_n 3, 1) := by decide +kernel
theorem dX9_planQuarter_19 : decode cX9_planQuarter 19 = .ok (.iaload, 1) := by decide +kernel
theorem dX9_planQuarter_20 : decode cX9_planQuarter 20 = .ok (.istore 4, 2) := by decide +kernel
theorem dX9_planQuarter_22 : decode cX9_planQuarter 22 = .ok (.iload_n 1, 1) := by decide +kernel
theorem dX9_planQuarter_23 : decode cX9_planQuarter 23 = .ok (.ifCond .ne 7, 3) := by decide +kernel
theorem dX9_planQuarter_26 : decode cX9_planQuarter 26 = .ok (.iconst 1, 1) := by decide +kernel
theorem dX9_planQuarter_27 : decode cX9_planQuarter 27 = .ok (.goto 8, 3) := by decide +kernel
theorem dX9_planQuarter_30 : decode cX9_planQuarter 30 = .ok (.getstatic 158, 3) := by decide +kernel
theorem dX9_planQuarter_33 : decode cX9_planQuarter 33 = .ok (.iload_n 3, 1) := by decide +kernel
theorem dX9_planQuarter_34 : decode cX9_planQuarter 34 = .ok (.iaload, 1) := by decide +kernel
theorem dX9_planQuarter_35 : decode cX9_planQuarter 35 = .ok (.istore 5, 2) := by decide +kernel
theorem dX9_planQuarter_37 : decode cX9_planQuarter 37 = .ok (.iload 5, 2) := by decide +kernel
theorem dX9_planQuarter_39 : decode cX9_planQuarter 39 = .ok (.ifCond .ne 4, 3) := by decide +kernel
theorem dX9_planQuarter_42 : decode cX9_planQuarter 42 = .ok (.return_, 1) := by decide +kernel
theorem dX9_planQuarter_43 : decode cX9_planQuarter 43 = .ok (.aload_n 0, 1) := by decide +kernel
theorem dX9_planQuarter_44 : decode cX9_planQuarter 44 = .ok (.iconst 4, 1) := by decide +kernel
theorem dX9_planQuarter_45 : decode cX9_planQuarter 45 = .ok (.iload_n 2, 1) := by decide +kernel
theorem dX9_planQuarter_46 : decode cX9_planQuarter 46 = .ok (.imul, 1) := by decide +kernel
theorem dX9_planQuarter_47 : decode cX9_planQuarter 47 = .ok (.bipush 8, 2) := by decide +kernel
theorem dX9_planQuarter_49 : decode cX9_planQuarter 49 = .ok (.bipush 8, 2) := by decide +kernel
theorem dX9_planQuarter_51 : decode cX9_planQuarter 51 = .ok (.iload 5, 2) := by decide +kernel
theorem dX9_planQuarter_53 : decode cX9_planQuarter 53 = .ok (.invokevirtual 148, 3) := by decide +kernel
theorem dX9_planQuarter_56 : decode cX9_planQuarter 56 = .ok (.iload 4, 2) := by decide +kernel
theorem dX9_planQuarter_58 : decode cX9_planQuarter 58 = .ok (.iconst 1, 1) := by decide +kernel
theorem dX9_planQuarter_59 : decode cX9_planQuarter 59 = .ok (.if_icmp .le 7, 3) := by decide +kernel
theorem dX9_planQuarter_62 : decode cX9_planQuarter 62 = .ok (.iconst 4, 1) := by decide +kernel
theorem dX9_planQuarter_63 : decode cX9_planQuarter 63 = .ok (.goto 5, 3) := by decide +kernel
theorem dX9_planQuarter_66 : decode cX9_planQuarter 66 = .ok (.bipush 8, 2) := by decide +kernel
theorem dX9_planQuarter_68 : decode cX9_planQuarter 68 = .ok (.istore 6, 2) := by decide +kernel
theorem dX9_planQuarter_70 : decode cX9_planQuarter 70 = .ok (.iload 4, 2) := by decide +kernel
theorem dX9_planQuarter_72 : decode cX9_planQuarter 72 = .ok (.iconst 2, 1) := by decide +kernel
theorem dX9_planQuarter_73 : decode cX9_planQuarter 73 = .ok (.irem, 1) := by decide +kernel
theorem dX9_planQuarter_74 : decode cX9_planQuarter 74 = .ok (.iconst 1, 1) := by decide +kernel
theorem dX9_planQuarter_75 : decode cX9_planQuarter 75 = .ok (.if_icmp .ne 7, 3) := by decide +kernel
theorem dX9_planQuarter_78 : decode cX9_planQuarter 78 = .ok (.iconst 4, 1) := by decide +kernel
theorem dX9_planQuarter_79 : decode cX9_planQuarter 79 = .ok (.goto 5, 3) := by decide +kernel
theorem dX9_planQuarter_82 : decode cX9_planQuarter 82 = .ok (.bipush 8, 2) := by decide +kernel
theorem dX9_planQuarter_84 : decode cX9_planQuarter 84 = .ok (.istore 7, 2) := by decide +kernel
theorem dX9_planQuarter_86 : decode cX9_planQuarter 86 = .ok (.iconst 0, 1) := by decide +kernel
theorem dX9_planQuarter_87 : decode cX9_planQuarter 87 = .ok (.istore 8, 2) := by decide +kernel
theorem dX9_planQuarter_89 : decode cX9_planQuarter 89 = .ok (.iload 8, 2) := by decide +kernel
theorem dX9_planQuarter_91 : decode cX9_planQuarter 91 = .ok (.iconst 4, 1) := by decide +kernel
theorem dX9_planQuarter_92 : decode cX9_planQuarter 92 = .ok (.if_icmp .ge 62, 3) := by decide +kernel
theorem dX9_planQuarter_95 : decode cX9_planQuarter 95 = .ok (.iload 4, 2) := by decide +kernel
theorem dX9_planQuarter_97 : decode cX9_planQuarter 97 = .ok (.ifCond .ne 8, 3) := by decide +kernel
theorem dX9_planQuarter_100 : decode cX9_planQuarter 100 = .ok (.iload 8, 2) := by decide +kernel
theorem dX9_planQuarter_102 : decode cX9_planQuarter 102 = .ok (.ifCond .gt 33, 3) := by decide +kernel
theorem dX9_planQuarter_105 : decode cX9_planQuarter 105 = .ok (.iload 4, 2) := by decide +kernel
theorem dX9_planQuarter_107 : decode cX9_planQuarter 107 = .ok (.iconst 2, 1) := by decide +kernel
theorem dX9_planQuarter_108 : decode cX9_planQuarter 108 = .ok (.if_icmp .ne 12, 3) := by decide +kernel
theorem dX9_planQuarter_111 : decode cX9_planQuarter 111 = .ok (.iload 8, 2) := by decide +kernel
theorem dX9_planQuarter_113 : decode cX9_planQuarter 113 = .ok (.iconst 1, 1) := by decide +kernel
theorem dX9_planQuarter_114 : decode cX9_planQuarter 114 = .ok (.if_icmp .le 6, 3) := by decide +kernel
theorem dX9_planQuarter_117 : decode cX9_planQuarter 117 = .ok (.goto 18, 3) := by decide +kernel
theorem dX9_planQuarter_120 : decode cX9_planQuarter 120 = .ok (.aload_n 0, 1) := by decide +kernel
theorem dX9_planQuarter_121 : decode cX9_planQuarter 121 = .ok (.iconst 4, 1) := by decide +kernel
theorem dX9_planQuarter_122 : decode cX9_planQuarter 122 = .ok (.iload_n 2, 1) := by decide +kernel
theorem dX9_planQuarter_123 : decode cX9_planQuarter 123 = .ok (.imul, 1) := by decide +kernel
theorem dX9_planQuarter_124 : decode cX9_planQuarter 124 = .ok (.iload 8, 2) := by decide +kernel
theorem dX9_planQuarter_126 : decode cX9_planQuarter 126 = .ok (.iadd, 1) := by decide +kernel
theorem dX9_planQuarter_127 : decode cX9_planQuarter 127 = .ok (.iload 6, 2) := by decide +kernel
theorem dX9_planQuarter_129 : decode cX9_planQuarter 129 = .ok (.iload 7, 2) := by decide +kernel
theorem dX9_planQuarter_131 : decode cX9_planQuarter 131 = .ok (.iconst 0, 1) := by decide +kernel
theorem dX9_planQuarter_132 : decode cX9_planQuarter 132 = .ok (.invokevirtual 152, 3) := by decide +kernel
theorem dX9_planQuarter_135 : decode cX9_planQuarter 135 = .ok (.iload 8, 2) := by decide +kernel
theorem dX9_planQuarter_137 : decode cX9_planQuarter 137 = .ok (.iload 4, 2) := by decide +kernel
theorem dX9_planQuarter_139 : decode cX9_planQuarter 139 = .ok (.iconst 1, 1) := by decide +kernel
theorem dX9_planQuarter_140 : decode cX9_planQuarter 140 = .ok (.if_icmp .ne 7, 3) := by decide +kernel
theorem dX9_planQuarter_143 : decode cX9_planQuarter 143 = .ok (.iconst 2, 1) := by decide +kernel
theorem dX9_planQuarter_144 : decode cX9_planQuarter 144 = .ok (.goto 4, 3) := by decide +kernel
theorem dX9_planQuarter_147 : decode cX9_planQuarter 147 = .ok (.iconst 1, 1) := by decide +kernel
theorem dX9_planQuarter_148 : decode cX9_planQuarter 148 = .ok (.iadd, 1) := by decide +kernel
theorem dX9_planQuarter_149 : decode cX9_planQuarter 149 = .ok (.istore 8, 2) := by decide +kernel
theorem dX9_planQuarter_151 : decode cX9_planQuarter 151 = .ok (.goto (-62), 3) := by decide +kernel
theorem dX9_planQuarter_154 : decode cX9_planQuarter 154 = .ok (.return_, 1) := by decide +kernel
def FX9_planQuarter (G : GG) (M : DD) (a : Nat) (p0 : Int32) (p1 : Int32) : Option (DD) :=
  dr G 13 ((M.2 a 12)) fun b2 =>
  chk (¬ (p1 < 0 ∨ G.2.2 b2 ≤ p1.toNatClampNeg)) <|
  ltt (M.1 b2 p1.toNatClampNeg) fun x3 =>
  bnd (if p0 = ((0 : Int32)) then (some (x3)) else
  (chk (¬ (x3 < 0 ∨ 13 ≤ x3.toNatClampNeg)) <|
  ltt ((sT 17).getD x3.toNatClampNeg 0) fun x49 =>
  some (x49))) fun (y4 : Int32) =>
  bnd (if p0 = ((0 : Int32)) then (some ((1 : Int32))) else
  (chk (¬ (x3 < 0 ∨ 13 ≤ x3.toNatClampNeg)) <|
  ltt ((sT 18).getD x3.toNatClampNeg 0) fun x47 =>
  some (x47))) fun (y5 : Int32) =>
  if y5 = ((0 : Int32)) then (some M) else
  (ltt ((((4 : Int32)) * p1)) fun x7 =>
  bnd (FX9_addGroup G M a x7 ((8 : Int32)) ((8 : Int32)) y5) fun y8 =>
  bnd (if y4 ≤ ((1 : Int32)) then (some ((8 : Int32))) else
  (some ((4 : Int32)))) fun (y9 : Int32) =>
  ltt (y4 - y4 / ((2 : Int32)) * ((2 : Int32))) fun x10 =>
  bnd (if x10 = ((1 : Int32)) then (some ((4 : Int32))) else
  (some ((8 : Int32)))) fun (y11 : Int32) =>
  bnd (itr (fun (s13 : Int32 × DD) => ((if ((4 : Int32)) ≤ s13.1 then (some (.inr (s13.1, s13.2))) else
  (bnd (if y4 = ((0 : Int32)) then (bnd (if ((0 : Int32)) < s13.1 then (some (s13.2)) else
  (bnd (if y4 = ((2 : Int32)) then (bnd (if s13.1 ≤ ((1 : Int32)) then (ltt ((((4 : Int32)) * p1)) fun x41 =>
  ltt ((x41 + s13.1)) fun x42 =>
  bnd (FX9_addPart G s13.2 a x42 y9 y11 ((0 : Int32))) fun y43 =>
  some (y43)) else
  (some (s13.2))) fun (y39 : DD) =>
  some (y39)) else
  (ltt ((((4 : Int32)) * p1)) fun x36 =>
  ltt ((x36 + s13.1)) fun x37 =>
  bnd (FX9_addPart G s13.2 a x37 y9 y11 ((0 : Int32))) fun y38 =>
  some (y38))) fun (y34 : DD) =>
  some (y34))) fun (y32 : DD) =>
  some (y32)) else
  (bnd (if y4 = ((2 : Int32)) then (bnd (if s13.1 ≤ ((1 : Int32)) then (ltt ((((4 : Int32)) * p1)) fun x29 =>
  ltt ((x29 + s13.1)) fun x30 =>
  bnd (FX9_addPart G s13.2 a x30 y9 y11 ((0 : Int32))) fun y31 =>
  some (y31)) else
  (some (s13.2))) fun (y27 : DD) =>
  some (y27)) else
  (ltt ((((4 : Int32)) * p1)) fun x24 =>
  ltt ((x24 + s13.1)) fun x25 =>
  bnd (FX9_addPart G s13.2 a x25 y9 y11 ((0 : Int32))) fun y26 =>
  some (y26))) fun (y22 : DD) =>
  some (y22))) fun (y17 : DD) =>
  bnd (if y4 = ((1 : Int32)) then (some ((2 : Int32))) else
  (some ((1 : Int32)))) fun (y18 : Int32) =>
  ltt ((s13.1 + y18)) fun x19 =>
  some (.inl (x19, y17)))) : Option ((Int32 × DD) ⊕ (Int32 × DD)))) 1000000 ((0 : Int32), y8)) fun (y12 : Int32 × DD) =>
  some y12.2)
set_option maxHeartbeats 4000000 in
set_option maxRecDepth 100000 in
theorem kX9_planQuarter (l : Launch) (D : va_G) (ct : CT) (ad : Nat → Nat) (Z : Nat → Nat) (G : GG) (M : DD) (sz : Nat) (a : Nat) (p0 : Int32) (p1 : Int32) (y : DD) (hc : a < G.1) (hk : G.2.1 a = 9) (hF : FX9_planQuarter G M a p0 p1 = some y) : Met l yX9_planQuarter wuX9_planQuarter ({ frames := 1, cells := 0, slots := 0, locals := 25 }) (va_Pc [.ref (ad a), .int p0, .int p1] (kB D ct ad Z G M sz)) (va_Qv (fun (_ : Unit) => True) (fun _ t => kE D ct ad G (wA ad G sz) y t) (wA ad G sz)) 0 0 (wA ad G sz) := by
  refine Met.ofW (cc := cX9_planQuarter) (maxL := 9) (ret := none) (by decide) rfl ?_
  intro p e s m args below meth c s₁ B hml hv
  obtain ⟨rfl, hsz, hP, hK, hD0, hZ, hN⟩ := hv
  have hx := B.exec
  have hb := B.bytes
  have hr := B.returns
  have hts := atoms_spec (ws := wuX9_planQuarter) B.pre
  have hown : s.vm.findClass RX9 = some m.cls := findClass_of_methodNamed B.named
  have hlocks := B.notSynchronized
  subst hsz
  have hD := wD_self (sz := s.heap.size) hD0
  have hA9 : ∀ q, s.heap.size ≤ q → wA ad G s.heap.size q := fun q h => Or.inr h
  generalize hAe : wA ad G s.heap.size = A at hD hA9 hZ ⊢
  have hS : va_S A s.heap s.heap [] := va_S.rf
  have hl := lv_entry ([.ref (ad a), .int p0, .int p1]) (n := 9) (Nat.le_of_ble_eq_true rfl)
  rw [lg_entry_eq]
  generalize (lg_sl ([.ref (ad a), .int p0, .int p1]) ++ List.replicate (9 - (lg_sl ([.ref (ad a), .int p0, .int p1])).length) Slot.unset).toArray = ls at hl ⊢
  have hl : lv_has ls 9 [(0, .ref (ad a)), (1, .int p0), (2, .int p1)] := hl
  unfold FX9_planQuarter at hF
  refine lv_aload_n hx hb dX9_planQuarter_0 rfl (lv_at hl 0 rfl) ?_
  refine va_get (D := D) (ci := 9) (v := va_re ad (M.2 a 12)) (C := RX9) (T := TX9) (N := 20) hx hb hts (mus hf_X9) hown hK hP a (wld_o ct ad G M hc hk (by decide)) rfl 12 (by decide) (hts (.fieldLink RX9 39 "VideoSuite$Work" "sub" "[I") (mu mw_463)) (fun _ h9 => h9) rfl dX9_planQuarter_1 ?_
  refine lv_iload_n hx hb dX9_planQuarter_4 rfl (lv_at hl 2 rfl) ?_
  obtain ⟨b2, ho2, hc2, hk2, hF⟩ := dr_some hF
  refine W_st (st' := [.int p1, .ref (ad b2)]) (by rw [va_some ho2]) ?_
  obtain ⟨hvc, hF⟩ := chk_some hF
  refine va_iald hx hb hK hP b2 1 (wld_i ct ad G M hc2 hk2) rfl hvc dX9_planQuarter_5 ?_
  obtain ⟨x3, ex3, hF⟩ := ltt_some hF
  refine lv_topi (fun zx3 ezx3 => ?_)
  obtain rfl : x3 = zx3 := ex3.trans ezx3.symm
  refine lv_istore_n (lv' := [(3, .int x3), (0, .ref (ad a)), (1, .int p0), (2, .int p1)]) hx hb dX9_planQuarter_6 rfl hl (by decide) rfl (fun ls hl => ?_)
  refine lv_iload_n hx hb dX9_planQuarter_7 rfl (lv_at hl 2 rfl) ?_
  obtain ⟨y4, hy4, hF⟩ := bnd_some hF
  have J4 : ∀ (H : Heap) (locs : List Loc) (ls : Array Slot), va_P D classes (wld ct ad G M) H → va_D A (wld ct ad G M) → va_S A s.heap H locs → lv_has ls 9 [(3, .int x3), (0, .ref (ad a)), (1, .int p0), (2, .int p1)] → W p l e (headSpec wuX9_planQuarter ({ frames := 1, cells := 0, slots := 0, locals := 25 })).room s m ([.ref (ad a), .int p0, .int p1] : List Value).toArray below meth c H locs 0 0 (MQ below (va_Qv (fun (_ : Unit) => True) (fun _ t => kE D ct ad G A y t) A) ([.ref (ad a), .int p0, .int p1] : List Value).toArray s 0 0 A) (F0 m 20 ls [.int y4]) := by
    intro H locs ls hP hD hS hl
    refine lv_istore (lv' := [(4, .int y4), (3, .int x3), (0, .ref (ad a)), (1, .int p0), (2, .int p1)]) hx hb dX9_planQuarter_20 hl (by decide) rfl (fun ls hl => ?_)
    refine lv_iload_n hx hb dX9_planQuarter_22 rfl (lv_at hl 3 rfl) ?_
    obtain ⟨y5, hy5, hF⟩ := bnd_some hF
    have J5 : ∀ (H : Heap) (locs : List Loc) (ls : Array Slot), va_P D classes (wld ct ad G M) H → va_D A (wld ct ad G M) → va_S A s.heap H locs → lv_has ls 9 [(4, .int y4), (3, .int x3), (0, .ref (ad a)), (1, .int p0), (2, .int p1)] → W p l e (headSpec wuX9_planQuarter ({ frames := 1, cells := 0, slots := 0, locals := 25 })).room s m ([.ref (ad a), .int p0, .int p1] : List Value).toArray below meth c H locs 0 0 (MQ below (va_Qv (fun (_ : Unit) => True) (fun _ t => kE D ct ad G A y t) A) ([.ref (ad a), .int p0, .int p1] : List Value).toArray s 0 0 A) (F0 m 35 ls [.int y5]) := by
      intro H locs ls hP hD hS hl
      refine lv_istore (lv' := [(5, .int y5), (4, .int y4), (3, .int x3), (0, .ref (ad a)), (1, .int p0), (2, .int p1)]) hx hb dX9_planQuarter_35 hl (by decide) rfl (fun ls hl => ?_)
      refine lv_iload hx hb dX9_planQuarter_37 (lv_at hl 0 rfl) ?_
      refine lv_if_ne (tgt := 43) hx hb dX9_planQuarter_39 (by decide) (fun c6 => ?_) (fun c6 => ?_)
      · rw [if_neg c6] at hF
        refine lv_aload_n hx hb dX9_planQuarter_43 rfl (lv_at hl 3 rfl) ?_
        refine lv_iconst (v := (4 : Int32)) hx hb dX9_planQuarter_44 (by decide) ?_
        refine lv_iload_n hx hb dX9_planQuarter_45 rfl (lv_at hl 5 rfl) ?_
        refine lv_imul hx hb dX9_planQuarter_46 ?_
        obtain ⟨x7, ex7, hF⟩ := ltt_some hF
        refine lv_topi (fun zx7 ezx7 => ?_)
        obtain rfl : x7 = zx7 := ex7.trans ezx7.symm
        refine lv_bipush (v := (8 : Int32)) hx hb dX9_planQuarter_47 (by decide) ?_
        refine lv_bipush (v := (8 : Int32)) hx hb dX9_planQuarter_49 (by decide) ?_
        refine lv_iload hx hb dX9_planQuarter_51 (lv_at hl 0 rfl) ?_
        obtain ⟨y8, hy8, hF⟩ := bnd_some hF
        have hf9 := wA_in hD hA9 hS
        refine va_callv (va_runV (As := [.int x7, .int (8 : Int32), .int (8 : Int32), .int y5]) (rest := []) ⟨hx, hb, hml, hown, hts⟩ (kX9_addGroup l D ct ad Z G M H.size a x7 ((8 : Int32)) ((8 : Int32)) y5 y8 hc hk hy8) (cwV 4 hts gX9_planQuarter_X9_addGroup rfl rfl rfl (by decide +kernel) ⟨Nat.le_of_ble_eq_true rfl, Nat.le_of_ble_eq_true rfl⟩) ⟨fun a U g mk q => by obtain ⟨q0, q1, qP, qK, qD, qZ, qN⟩ := q; exact ⟨q0, q1, qP, va_K.moved (u := U) (U := U.calling g mk a) (Vm.Alike.refl U.vm) qK, qD, sF.moved (u := U) (U := U.calling g mk a) (Vm.Alike.refl U.vm) qZ, nF.same rfl qN⟩, va_recv hK hP (ci := 9) (q0 := a) rfl (wld_o ct ad G M hc hk (by decide)), fun U hU hW => ⟨rfl, by rw [hU], by rw [hU]; exact hP, va_K.moved hW.alike hK, hD.weaken (fun _ _ _ _ => trivial), by rw [hU]; exact ((hZ.kept hS.2.1).narrow hf9).moved hW.alike, hN.warm hW⟩⟩ rfl rfl hl.1 rfl (lv_room (Nat.le_of_ble_eq_true rfl)) dX9_planQuarter_53 ⟨(Nat.zero_le _), (Nat.zero_le _)⟩) hS (fun q _ h => hf9 q h) hf9 (fun u t H locs ht hvm hw hB hz1 hk1 hS => ?_)
        obtain ⟨hP, hK9, hD9⟩ := hB
        rw [ht] at hP
        have hD := hD9.weaken (fun _ q _ h => hf9 q.1 h)
        refine lv_iload hx hb dX9_planQuarter_56 (lv_at hl 1 rfl) ?_
        refine lv_iconst (v := (1 : Int32)) hx hb dX9_planQuarter_58 (by decide) ?_
        obtain ⟨y9, hy9, hF⟩ := bnd_some hF
        have J9 : ∀ (H : Heap) (locs : List Loc) (ls : Array Slot), va_P D classes (wld ct ad G y8) H → va_D A (wld ct ad G y8) → va_S A s.heap H locs → lv_has ls 9 [(5, .int y5), (4, .int y4), (3, .int x3), (0, .ref (ad a)), (1, .int p0), (2, .int p1)] → W p l e (headSpec wuX9_planQuarter ({ frames := 1, cells := 0, slots := 0, locals := 25 })).room s m ([.ref (ad a), .int p0, .int p1] : List Value).toArray below meth c H locs 0 0 (MQ below (va_Qv (fun (_ : Unit) => True) (fun _ t => kE D ct ad G A y t) A) ([.ref (ad a), .int p0, .int p1] : List Value).toArray s 0 0 A) (F0 m 68 ls [.int y9]) := by
          intro H locs ls hP hD hS hl
          refine lv_istore (lv' := [(6, .int y9), (5, .int y5), (4, .int y4), (3, .int x3), (0, .ref (ad a)), (1, .int p0), (2, .int p1)]) hx hb dX9_planQuarter_68 hl (by decide) rfl (fun ls hl => ?_)
          refine lv_iload hx hb dX9_planQuarter_70 (lv_at hl 2 rfl) ?_
          refine lv_iconst (v := (2 : Int32)) hx hb dX9_planQuarter_72 (by decide) ?_
          refine lv_irem hx hb dX9_planQuarter_73 (by decide) ?_
          obtain ⟨x10, ex10, hF⟩ := ltt_some hF
          refine lv_topi (fun zx10 ezx10 => ?_)
          obtain rfl : x10 = zx10 := ex10.trans ezx10.symm
          refine lv_iconst (v := (1 : Int32)) hx hb dX9_planQuarter_74 (by decide) ?_
          obtain ⟨y11, hy11, hF⟩ := bnd_some hF
          have J11 : ∀ (H : Heap) (locs : List Loc) (ls : Array Slot), va_P D classes (wld ct ad G y8) H → va_D A (wld ct ad G y8) → va_S A s.heap H locs → lv_has ls 9 [(6, .int y9), (5, .int y5), (4, .int y4), (3, .int x3), (0, .ref (ad a)), (1, .int p0), (2, .int p1)] → W p l e (headSpec wuX9_planQuarter ({ frames := 1, cells := 0, slots := 0, locals := 25 })).room s m ([.ref (ad a), .int p0, .int p1] : List Value).toArray below meth c H locs 0 0 (MQ below (va_Qv (fun (_ : Unit) => True) (fun _ t => kE D ct ad G A y t) A) ([.ref (ad a), .int p0, .int p1] : List Value).toArray s 0 0 A) (F0 m 84 ls [.int y11]) := by
            intro H locs ls hP hD hS hl
            refine lv_istore (lv' := [(7, .int y11), (6, .int y9), (5, .int y5), (4, .int y4), (3, .int x3), (0, .ref (ad a)), (1, .int p0), (2, .int p1)]) hx hb dX9_planQuarter_84 hl (by decide) rfl (fun ls hl => ?_)
            refine lv_iconst (v := (0 : Int32)) hx hb dX9_planQuarter_86 (by decide) ?_
            refine lv_istore (lv' := [(8, .int (0 : Int32)), (7, .int y11), (6, .int y9), (5, .int y5), (4, .int y4), (3, .int x3), (0, .ref (ad a)), (1, .int p0), (2, .int p1)]) hx hb dX9_planQuarter_87 hl (by decide) rfl (fun ls hl => ?_)
            obtain ⟨y12, hy12, hF⟩ := bnd_some hF
            have K12 : ∀ (H : Heap) (locs : List Loc) (ls : Array Slot), va_P D classes (wld ct ad G y12.2) H → va_D A (wld ct ad G y12.2) → va_S A s.heap H locs → lv_has ls 9 [(8, .int y12.1), (7, .int y11), (6, .int y9), (5, .int y5), (4, .int y4), (3, .int x3), (0, .ref (ad a)), (1, .int p0), (2, .int p1)] → W p l e (headSpec wuX9_planQuarter ({ frames := 1, cells := 0, slots := 0, locals := 25 })).room s m ([.ref (ad a), .int p0, .int p1] : List Value).toArray below meth c H locs 0 0 (MQ below (va_Qv (fun (_ : Unit) => True) (fun _ t => kE D ct ad G A y t) A) ([.ref (ad a), .int p0, .int p1] : List Value).toArray s 0 0 A) (F0 m 154 ls []) := by
              intro H locs ls hP hD hS hl
              obtain rfl := Option.some.inj hF
              exact W.vret hx hb hr (fun t ht hW => ⟨⟨(), rfl, trivial, ⟨by rw [ht]; exact hP, va_K.moved hW.alike hK, hD⟩⟩, hS.F ht⟩) hS.2.2 dX9_planQuarter_154
            clear hF
            refine itr_rule (fun (s13 : Int32 × DD) => ∀ (H : Heap) (locs : List Loc) (ls : Array Slot), va_P D classes (wld ct ad G s13.2) H → va_D A (wld ct ad G s13.2) → va_S A s.heap H locs → lv_has ls 9 [(8, .int s13.1), (7, .int y11), (6, .int y9), (5, .int y5), (4, .int y4), (3, .int x3), (0, .ref (ad a)), (1, .int p0), (2, .int p1)] → W p l e (headSpec wuX9_planQuarter ({ frames := 1, cells := 0, slots := 0, locals := 25 })).room s m ([.ref (ad a), .int p0, .int p1] : List Value).toArray below meth c H locs 0 0 (MQ below (va_Qv (fun (_ : Unit) => True) (fun _ t => kE D ct ad G A y t) A) ([.ref (ad a), .int p0, .int p1] : List Value).toArray s 0 0 A) (F0 m 89 ls [])) ?_ _ _ hy12 _ _ _ hP hD hS (lv_sub hl [0, 1, 2, 3, 4, 5, 6, 7, 8] rfl)
            rintro s13 ⟨z15, hF, hwz15⟩ H locs ls hP hD hS hl
            try dsimp only at hF
            refine lv_iload hx hb dX9_planQuarter_89 (lv_at hl 0 rfl) ?_
            refine lv_iconst (v := (4 : Int32)) hx hb dX9_planQuarter_91 (by decide) ?_
            refine lv_icmp_ge (tgt := 154) hx hb dX9_planQuarter_92 (by decide) (fun c16 => ?_) (fun c16 => ?_)
            · rw [if_pos c16] at hF
              obtain rfl := Option.some.inj hF
              subst hwz15
              exact K12 _ _ _ hP hD hS (lv_sub hl [0, 1, 2, 3, 4, 5, 6, 7, 8] rfl)
            · rw [if_neg c16] at hF
              refine lv_iload hx hb dX9_planQuarter_95 (lv_at hl 4 rfl) ?_
              obtain ⟨y17, hy17, hF⟩ := bnd_some hF
              have J17 : ∀ (H : Heap) (locs : List Loc) (ls : Array Slot), va_P D classes (wld ct ad G y17) H → va_D A (wld ct ad G y17) → va_S A s.heap H locs → lv_has ls 9 [(8, .int s13.1), (7, .int y11), (6, .int y9), (5, .int y5), (4, .int y4), (3, .int x3), (0, .ref (ad a)), (1, .int p0), (2, .int p1)] → W p l e (headSpec wuX9_planQuarter ({ frames := 1, cells := 0, slots := 0, locals := 25 })).room s m ([.ref (ad a), .int p0, .int p1] : List Value).toArray below meth c H locs 0 0 (MQ below (va_Qv (fun (_ : Unit) => True) (fun _ t => kE D ct ad G A y t) A) ([.ref (ad a), .int p0, .int p1] : List Value).toArray s 0 0 A) (F0 m 135 ls []) := by
                intro H locs ls hP hD hS hl
                refine lv_iload hx hb dX9_planQuarter_135 (lv_at hl 0 rfl) ?_
                refine lv_iload hx hb dX9_planQuarter_137 (lv_at hl 4 rfl) ?_
                refine lv_iconst (v := (1 : Int32)) hx hb dX9_planQuarter_139 (by decide) ?_
                obtain ⟨y18, hy18, hF⟩ := bnd_some hF
                have J18 : ∀ (H : Heap) (locs : List Loc) (ls : Array Slot), va_P D classes (wld ct ad G y17) H → va_D A (wld ct ad G y17) → va_S A s.heap H locs → lv_has ls 9 [(8, .int s13.1), (7, .int y11), (6, .int y9), (5, .int y5), (4, .int y4), (3, .int x3), (0, .ref (ad a)), (1, .int p0), (2, .int p1)] → W p l e (headSpec wuX9_planQuarter ({ frames := 1, cells := 0, slots := 0, locals := 25 })).room s m ([.ref (ad a), .int p0, .int p1] : List Value).toArray below meth c H locs 0 0 (MQ below (va_Qv (fun (_ : Unit) => True) (fun _ t => kE D ct ad G A y t) A) ([.ref (ad a), .int p0, .int p1] : List Value).toArray s 0 0 A) (F0 m 148 ls [.int y18, .int s13.1]) := by
                  intro H locs ls hP hD hS hl
                  refine lv_iadd hx hb dX9_planQuarter_148 ?_
                  obtain ⟨x19, ex19, hF⟩ := ltt_some hF
                  refine lv_topi (fun zx19 ezx19 => ?_)
                  obtain rfl : x19 = zx19 := ex19.trans ezx19.symm
                  refine lv_istore (lv' := [(8, .int x19), (7, .int y11), (6, .int y9), (5, .int y5), (4, .int y4), (3, .int x3), (0, .ref (ad a)), (1, .int p0), (2, .int p1)]) hx hb dX9_planQuarter_149 hl (by decide) rfl (fun ls hl => ?_)
                  refine lv_goto (tgt := 89) hx hb dX9_planQuarter_151 (by decide) ?_
                  obtain rfl := Option.some.inj hF
                  exact hwz15 _ _ _ hP hD hS (lv_sub hl [0, 1, 2, 3, 4, 5, 6, 7, 8] rfl)
                clear hF
                have hF := hy18
                clear hy18
                refine lv_icmp_ne (tgt := 147) hx hb dX9_planQuarter_140 (by decide) (fun c20 => ?_) (fun c20 => ?_)
                · rw [if_neg c20] at hF
                  refine lv_iconst (v := (1 : Int32)) hx hb dX9_planQuarter_147 (by decide) ?_
                  obtain rfl := Option.some.inj hF
                  exact J18 _ _ _ hP hD hS (lv_sub hl [0, 1, 2, 3, 4, 5, 6, 7, 8] rfl)
                · rw [if_pos c20] at hF
                  refine lv_iconst (v := (2 : Int32)) hx hb dX9_planQuarter_143 (by decide) ?_
                  refine lv_goto (tgt := 148) hx hb dX9_planQuarter_144 (by decide) ?_
                  obtain rfl := Option.some.inj hF
                  exact J18 _ _ _ hP hD hS (lv_sub hl [0, 1, 2, 3, 4, 5, 6, 7, 8] rfl)
              clear hF
              have hF := hy17
              clear hy17
              refine lv_if_ne (tgt := 105) hx hb dX9_planQuarter_97 (by decide) (fun c21 => ?_) (fun c21 => ?_)
              · rw [if_neg c21] at hF
                refine lv_iload hx hb dX9_planQuarter_105 (lv_at hl 4 rfl) ?_
                refine lv_iconst (v := (2 : Int32)) hx hb dX9_planQuarter_107 (by decide) ?_
                obtain ⟨y22, hy22, hF⟩ := bnd_some hF
                have J22 : ∀ (H : Heap) (locs : List Loc) (ls : Array Slot), va_P D classes (wld ct ad G y22) H → va_D A (wld ct ad G y22) → va_S A s.heap H locs → lv_has ls 9 [(8, .int s13.1), (7, .int y11), (6, .int y9), (5, .int y5), (4, .int y4), (3, .int x3), (0, .ref (ad a)), (1, .int p0), (2, .int p1)] → W p l e (headSpec wuX9_planQuarter ({ frames := 1, cells := 0, slots := 0, locals := 25 })).room s m ([.ref (ad a), .int p0, .int p1] : List Value).toArray below meth c H locs 0 0 (MQ below (va_Qv (fun (_ : Unit) => True) (fun _ t => kE D ct ad G A y t) A) ([.ref (ad a), .int p0, .int p1] : List Value).toArray s 0 0 A) (F0 m 135 ls []) := by
                  intro H locs ls hP hD hS hl
                  obtain rfl := Option.some.inj hF
                  exact J17 _ _ _ hP hD hS (lv_sub hl [0, 1, 2, 3, 4, 5, 6, 7, 8] rfl)
                clear hF
                have hF := hy22
                clear hy22
                refine lv_icmp_ne (tgt := 120) hx hb dX9_planQuarter_108 (by decide) (fun c23 => ?_) (fun c23 => ?_)
                · rw [if_neg c23] at hF
                  refine lv_aload_n hx hb dX9_planQuarter_120 rfl (lv_at hl 6 rfl) ?_
                  refine lv_iconst (v := (4 : Int32)) hx hb dX9_planQuarter_121 (by decide) ?_
                  refine lv_iload_n hx hb dX9_planQuarter_122 rfl (lv_at hl 8 rfl) ?_
                  refine lv_imul hx hb dX9_planQuarter_123 ?_
                  obtain ⟨x24, ex24, hF⟩ := ltt_some hF
                  refine lv_topi (fun zx24 ezx24 => ?_)
                  obtain rfl : x24 = zx24 := ex24.trans ezx24.symm
                  refine lv_iload hx hb dX9_planQuarter_124 (lv_at hl 0 rfl) ?_
                  refine lv_iadd hx hb dX9_planQuarter_126 ?_
                  obtain ⟨x25, ex25, hF⟩ := ltt_some hF
                  refine lv_topi (fun zx25 ezx25 => ?_)
                  obtain rfl : x25 = zx25 := ex25.trans ezx25.symm
                  refine lv_iload hx hb dX9_planQuarter_127 (lv_at hl 2 rfl) ?_
                  refine lv_iload hx hb dX9_planQuarter_129 (lv_at hl 1 rfl) ?_
                  refine lv_iconst (v := (0 : Int32)) hx hb dX9_planQuarter_131 (by decide) ?_
                  obtain ⟨y26, hy26, hF⟩ := bnd_some hF
                  have hf9 := wA_in hD hA9 hS
                  refine va_callv (va_runV (As := [.int x25, .int y9, .int y11, .int (0 : Int32)]) (rest := []) ⟨hx, hb, hml, hown, hts⟩ (kX9_addPart l D ct ad Z G s13.2 H.size a x25 y9 y11 ((0 : Int32)) y26 hc hk hy26) (cwV 4 hts gX9_planQuarter_X9_addPart rfl rfl rfl (by decide +kernel) ⟨Nat.le_of_ble_eq_true rfl, Nat.le_of_ble_eq_true rfl⟩) ⟨fun a U g mk q => by obtain ⟨q0, q1, qP, qK, qD, qZ, qN⟩ := q; exact ⟨q0, q1, qP, va_K.moved (u := U) (U := U.calling g mk a) (Vm.Alike.refl U.vm) qK, qD, sF.moved (u := U) (U := U.calling g mk a) (Vm.Alike.refl U.vm) qZ, nF.same rfl qN⟩, va_recv hK hP (ci := 9) (q0 := a) rfl (wld_o ct ad G s13.2 hc hk (by decide)), fun U hU hW => ⟨rfl, by rw [hU], by rw [hU]; exact hP, va_K.moved hW.alike hK, hD.weaken (fun _ _ _ _ => trivial), by rw [hU]; exact ((hZ.kept hS.2.1).narrow hf9).moved hW.alike, hN.warm hW⟩⟩ rfl rfl hl.1 rfl (lv_room (Nat.le_of_ble_eq_true rfl)) dX9_planQuarter_132 ⟨(Nat.zero_le _), (Nat.zero_le _)⟩) hS (fun q _ h => hf9 q h) hf9 (fun u t H locs ht hvm hw hB hz1 hk1 hS => ?_)
                  obtain ⟨hP, hK9, hD9⟩ := hB
                  rw [ht] at hP
                  have hD := hD9.weaken (fun _ q _ h => hf9 q.1 h)
                  obtain rfl := Option.some.inj hF
                  exact J22 _ _ _ hP hD hS (lv_sub hl [0, 1, 2, 3, 4, 5, 6, 7, 8] rfl)
                · rw [if_pos c23] at hF
                  refine lv_iload hx hb dX9_planQuarter_111 (lv_at hl 0 rfl) ?_
                  refine lv_iconst (v := (1 : Int32)) hx hb dX9_planQuarter_113 (by decide) ?_
                  obtain ⟨y27, hy27, hF⟩ := bnd_some hF
                  have J27 : ∀ (H : Heap) (locs : List Loc) (ls : Array Slot), va_P D classes (wld ct ad G y27) H → va_D A (wld ct ad G y27) → va_S A s.heap H locs → lv_has ls 9 [(8, .int s13.1), (7, .int y11), (6, .int y9), (5, .int y5), (4, .int y4), (3, .int x3), (0, .ref (ad a)), (1, .int p0), (2, .int p1)] → W p l e (headSpec wuX9_planQuarter ({ frames := 1, cells := 0, slots := 0, locals := 25 })).room s m ([.ref (ad a), .int p0, .int p1] : List Value).toArray below meth c H locs 0 0 (MQ below (va_Qv (fun (_ : Unit) => True) (fun _ t => kE D ct ad G A y t) A) ([.ref (ad a), .int p0, .int p1] : List Value).toArray s 0 0 A) (F0 m 135 ls []) := by
                    intro H locs ls hP hD hS hl
                    obtain rfl := Option.some.inj hF
                    exact J22 _ _ _ hP hD hS (lv_sub hl [0, 1, 2, 3, 4, 5, 6, 7, 8] rfl)
                  clear hF
                  have hF := hy27
                  clear hy27
                  refine lv_icmp_le (tgt := 120) hx hb dX9_planQuarter_114 (by decide) (fun c28 => ?_) (fun c28 => ?_)
                  · rw [if_pos c28] at hF
                    refine lv_aload_n hx hb dX9_planQuarter_120 rfl (lv_at hl 6 rfl) ?_
                    refine lv_iconst (v := (4 : Int32)) hx hb dX9_planQuarter_121 (by decide) ?_
                    refine lv_iload_n hx hb dX9_planQuarter_122 rfl (lv_at hl 8 rfl) ?_
                    refine lv_imul hx hb dX9_planQuarter_123 ?_
                    obtain ⟨x29, ex29, hF⟩ := ltt_some hF
                    refine lv_topi (fun zx29 ezx29 => ?_)
                    obtain rfl : x29 = zx29 := ex29.trans ezx29.symm
                    refine lv_iload hx hb dX9_planQuarter_124 (lv_at hl 0 rfl) ?_
                    refine lv_iadd hx hb dX9_planQuarter_126 ?_
                    obtain ⟨x30, ex30, hF⟩ := ltt_some hF
                    refine lv_topi (fun zx30 ezx30 => ?_)
                    obtain rfl : x30 = zx30 := ex30.trans ezx30.symm
                    refine lv_iload hx hb dX9_planQuarter_127 (lv_at hl 2 rfl) ?_
                    refine lv_iload hx hb dX9_planQuarter_129 (lv_at hl 1 rfl) ?_
                    refine lv_iconst (v := (0 : Int32)) hx hb dX9_planQuarter_131 (by decide) ?_
                    obtain ⟨y31, hy31, hF⟩ := bnd_some hF
                    have hf9 := wA_in hD hA9 hS
                    refine va_callv (va_runV (As := [.int x30, .int y9, .int y11, .int (0 : Int32)]) (rest := []) ⟨hx, hb, hml, hown, hts⟩ (kX9_addPart l D ct ad Z G s13.2 H.size a x30 y9 y11 ((0 : Int32)) y31 hc hk hy31) (cwV 4 hts gX9_planQuarter_X9_addPart rfl rfl rfl (by decide +kernel) ⟨Nat.le_of_ble_eq_true rfl, Nat.le_of_ble_eq_true rfl⟩) ⟨fun a U g mk q => by obtain ⟨q0, q1, qP, qK, qD, qZ, qN⟩ := q; exact ⟨q0, q1, qP, va_K.moved (u := U) (U := U.calling g mk a) (Vm.Alike.refl U.vm) qK, qD, sF.moved (u := U) (U := U.calling g mk a) (Vm.Alike.refl U.vm) qZ, nF.same rfl qN⟩, va_recv hK hP (ci := 9) (q0 := a) rfl (wld_o ct ad G s13.2 hc hk (by decide)), fun U hU hW => ⟨rfl, by rw [hU], by rw [hU]; exact hP, va_K.moved hW.alike hK, hD.weaken (fun _ _ _ _ => trivial), by rw [hU]; exact ((hZ.kept hS.2.1).narrow hf9).moved hW.alike, hN.warm hW⟩⟩ rfl rfl hl.1 rfl (lv_room (Nat.le_of_ble_eq_true rfl)) dX9_planQuarter_132 ⟨(Nat.zero_le _), (Nat.zero_le _)⟩) hS (fun q _ h => hf9 q h) hf9 (fun u t H locs ht hvm hw hB hz1 hk1 hS => ?_)
                    obtain ⟨hP, hK9, hD9⟩ := hB
                    rw [ht] at hP
                    have hD := hD9.weaken (fun _ q _ h => hf9 q.1 h)
                    obtain rfl := Option.some.inj hF
                    exact J27 _ _ _ hP hD hS (lv_sub hl [0, 1, 2, 3, 4, 5, 6, 7, 8] rfl)
                  · rw [if_neg c28] at hF
                    refine lv_goto (tgt := 135) hx hb dX9_planQuarter_117 (by decide) ?_
                    obtain rfl := Option.some.inj hF
                    exact J27 _ _ _ hP hD hS (lv_sub hl [0, 1, 2, 3, 4, 5, 6, 7, 8] rfl)
              · rw [if_pos c21] at hF
                refine lv_iload hx hb dX9_planQuarter_100 (lv_at hl 0 rfl) ?_
                obtain ⟨y32, hy32, hF⟩ := bnd_some hF
                have J32 : ∀ (H : Heap) (locs : List Loc) (ls : Array Slot), va_P D classes (wld ct ad G y32) H → va_D A (wld ct ad G y32) → va_S A s.heap H locs → lv_has ls 9 [(8, .int s13.1), (7, .int y11), (6, .int y9), (5, .int y5), (4, .int y4), (3, .int x3), (0, .ref (ad a)), (1, .int p0), (2, .int p1)] → W p l e (headSpec wuX9_planQuarter ({ frames := 1, cells := 0, slots := 0, locals := 25 })).room s m ([.ref (ad a), .int p0, .int p1] : List Value).toArray below meth c H locs 0 0 (MQ below (va_Qv (fun (_ : Unit) => True) (fun _ t => kE D ct ad G A y t) A) ([.ref (ad a), .int p0, .int p1] : List Value).toArray s 0 0 A) (F0 m 135 ls []) := by
                  intro H locs ls hP hD hS hl
                  obtain rfl := Option.some.inj hF
                  exact J17 _ _ _ hP hD hS (lv_sub hl [0, 1, 2, 3, 4, 5, 6, 7, 8] rfl)
                clear hF
                have hF := hy32
                clear hy32
                refine lv_if_gt (tgt := 135) hx hb dX9_planQuarter_102 (by decide) (fun c33 => ?_) (fun c33 => ?_)
                · rw [if_pos c33] at hF
                  obtain rfl := Option.some.inj hF
                  exact J32 _ _ _ hP hD hS (lv_sub hl [0, 1, 2, 3, 4, 5, 6, 7, 8] rfl)
                · rw [if_neg c33] at hF
                  refine lv_iload hx hb dX9_planQuarter_105 (lv_at hl 4 rfl) ?_
                  refine lv_iconst (v := (2 : Int32)) hx hb dX9_planQuarter_107 (by decide) ?_
                  obtain ⟨y34, hy34, hF⟩ := bnd_some hF
                  have J34 : ∀ (H : Heap) (locs : List Loc) (ls : Array Slot), va_P D classes (wld ct ad G y34) H → va_D A (wld ct ad G y34) → va_S A s.heap H locs → lv_has ls 9 [(8, .int s13.1), (7, .int y11), (6, .int y9), (5, .int y5), (4, .int y4), (3, .int x3), (0, .ref (ad a)), (1, .int p0), (2, .int p1)] → W p l e (headSpec wuX9_planQuarter ({ frames := 1, cells := 0, slots := 0, locals := 25 })).room s m ([.ref (ad a), .int p0, .int p1] : List Value).toArray below meth c H locs 0 0 (MQ below (va_Qv (fun (_ : Unit) => True) (fun _ t => kE D ct ad G A y t) A) ([.ref (ad a), .int p0, .int p1] : List Value).toArray s 0 0 A) (F0 m 135 ls []) := by
                    intro H locs ls hP hD hS hl
                    obtain rfl := Option.some.inj hF
                    exact J32 _ _ _ hP hD hS (lv_sub hl [0, 1, 2, 3, 4, 5, 6, 7, 8] rfl)
                  clear hF
                  have hF := hy34
                  clear hy34
                  refine lv_icmp_ne (tgt := 120) hx hb dX9_planQuarter_108 (by decide) (fun c35 => ?_) (fun c35 => ?_)
                  · rw [if_neg c35] at hF
                    refine lv_aload_n hx hb dX9_planQuarter_120 rfl (lv_at hl 6 rfl) ?_
                    refine lv_iconst (v := (4 : Int32)) hx hb dX9_planQuarter_121 (by decide) ?_
                    refine lv_iload_n hx hb dX9_planQuarter_122 rfl (lv_at hl 8 rfl) ?_
                    refine lv_imul hx hb dX9_planQuarter_123 ?_
                    obtain ⟨x36, ex36, hF⟩ := ltt_some hF
                    refine lv_topi (fun zx36 ezx36 => ?_)
                    obtain rfl : x36 = zx36 := ex36.trans ezx36.symm
                    refine lv_iload hx hb dX9_planQuarter_124 (lv_at hl 0 rfl) ?_
                    refine lv_iadd hx hb dX9_planQuarter_126 ?_
                    obtain ⟨x37, ex37, hF⟩ := ltt_some hF
                    refine lv_topi (fun zx37 ezx37 => ?_)
                    obtain rfl : x37 = zx37 := ex37.trans ezx37.symm
                    refine lv_iload hx hb dX9_planQuarter_127 (lv_at hl 2 rfl) ?_
                    refine lv_iload hx hb dX9_planQuarter_129 (lv_at hl 1 rfl) ?_
                    refine lv_iconst (v := (0 : Int32)) hx hb dX9_planQuarter_131 (by decide) ?_
                    obtain ⟨y38, hy38, hF⟩ := bnd_some hF
                    have hf9 := wA_in hD hA9 hS
                    refine va_callv (va_runV (As := [.int x37, .int y9, .int y11, .int (0 : Int32)]) (rest := []) ⟨hx, hb, hml, hown, hts⟩ (kX9_addPart l D ct ad Z G s13.2 H.size a x37 y9 y11 ((0 : Int32)) y38 hc hk hy38) (cwV 4 hts gX9_planQuarter_X9_addPart rfl rfl rfl (by decide +kernel) ⟨Nat.le_of_ble_eq_true rfl, Nat.le_of_ble_eq_true rfl⟩) ⟨fun a U g mk q => by obtain ⟨q0, q1, qP, qK, qD, qZ, qN⟩ := q; exact ⟨q0, q1, qP, va_K.moved (u := U) (U := U.calling g mk a) (Vm.Alike.refl U.vm) qK, qD, sF.moved (u := U) (U := U.calling g mk a) (Vm.Alike.refl U.vm) qZ, nF.same rfl qN⟩, va_recv hK hP (ci := 9) (q0 := a) rfl (wld_o ct ad G s13.2 hc hk (by decide)), fun U hU hW => ⟨rfl, by rw [hU], by rw [hU]; exact hP, va_K.moved hW.alike hK, hD.weaken (fun _ _ _ _ => trivial), by rw [hU]; exact ((hZ.kept hS.2.1).narrow hf9).moved hW.alike, hN.warm hW⟩⟩ rfl rfl hl.1 rfl (lv_room (Nat.le_of_ble_eq_true rfl)) dX9_planQuarter_132 ⟨(Nat.zero_le _), (Nat.zero_le _)⟩) hS (fun q _ h => hf9 q h) hf9 (fun u t H locs ht hvm hw hB hz1 hk1 hS => ?_)
                    obtain ⟨hP, hK9, hD9⟩ := hB
                    rw [ht] at hP
                    have hD := hD9.weaken (fun _ q _ h => hf9 q.1 h)
                    obtain rfl := Option.some.inj hF
                    exact J34 _ _ _ hP hD hS (lv_sub hl [0, 1, 2, 3, 4, 5, 6, 7, 8] rfl)
                  · rw [if_pos c35] at hF
                    refine lv_iload hx hb dX9_planQuarter_111 (lv_at hl 0 rfl) ?_
                    refine lv_iconst (v := (1 : Int32)) hx hb dX9_planQuarter_113 (by decide) ?_
                    obtain ⟨y39, hy39, hF⟩ := bnd_some hF
                    have J39 : ∀ (H : Heap) (locs : List Loc) (ls : Array Slot), va_P D classes (wld ct ad G y39) H → va_D A (wld ct ad G y39) → va_S A s.heap H locs → lv_has ls 9 [(8, .int s13.1), (7, .int y11), (6, .int y9), (5, .int y5), (4, .int y4), (3, .int x3), (0, .ref (ad a)), (1, .int p0), (2, .int p1)] → W p l e (headSpec wuX9_planQuarter ({ frames := 1, cells := 0, slots := 0, locals := 25 })).room s m ([.ref (ad a), .int p0, .int p1] : List Value).toArray below meth c H locs 0 0 (MQ below (va_Qv (fun (_ : Unit) => True) (fun _ t => kE D ct ad G A y t) A) ([.ref (ad a), .int p0, .int p1] : List Value).toArray s 0 0 A) (F0 m 135 ls []) := by
                      intro H locs ls hP hD hS hl
                      obtain rfl := Option.some.inj hF
                      exact J34 _ _ _ hP hD hS (lv_sub hl [0, 1, 2, 3, 4, 5, 6, 7, 8] rfl)
                    clear hF
                    have hF := hy39
                    clear hy39
                    refine lv_icmp_le (tgt := 120) hx hb dX9_planQuarter_114 (by decide) (fun c40 => ?_) (fun c40 => ?_)
                    · rw [if_pos c40] at hF
                      refine lv_aload_n hx hb dX9_planQuarter_120 rfl (lv_at hl 6 rfl) ?_
                      refine lv_iconst (v := (4 : Int32)) hx hb dX9_planQuarter_121 (by decide) ?_
                      refine lv_iload_n hx hb dX9_planQuarter_122 rfl (lv_at hl 8 rfl) ?_
                      refine lv_imul hx hb dX9_planQuarter_123 ?_
                      obtain ⟨x41, ex41, hF⟩ := ltt_some hF
                      refine lv_topi (fun zx41 ezx41 => ?_)
                      obtain rfl : x41 = zx41 := ex41.trans ezx41.symm
                      refine lv_iload hx hb dX9_planQuarter_124 (lv_at hl 0 rfl) ?_
                      refine lv_iadd hx hb dX9_planQuarter_126 ?_
                      obtain ⟨x42, ex42, hF⟩ := ltt_some hF
                      refine lv_topi (fun zx42 ezx42 => ?_)
                      obtain rfl : x42 = zx42 := ex42.trans ezx42.symm
                      refine lv_iload hx hb dX9_planQuarter_127 (lv_at hl 2 rfl) ?_
                      refine lv_iload hx hb dX9_planQuarter_129 (lv_at hl 1 rfl) ?_
                      refine lv_iconst (v := (0 : Int32)) hx hb dX9_planQuarter_131 (by decide) ?_
                      obtain ⟨y43, hy43, hF⟩ := bnd_some hF
                      have hf9 := wA_in hD hA9 hS
                      refine va_callv (va_runV (As := [.int x42, .int y9, .int y11, .int (0 : Int32)]) (rest := []) ⟨hx, hb, hml, hown, hts⟩ (kX9_addPart l D ct ad Z G s13.2 H.size a x42 y9 y11 ((0 : Int32)) y43 hc hk hy43) (cwV 4 hts gX9_planQuarter_X9_addPart rfl rfl rfl (by decide +kernel) ⟨Nat.le_of_ble_eq_true rfl, Nat.le_of_ble_eq_true rfl⟩) ⟨fun a U g mk q => by obtain ⟨q0, q1, qP, qK, qD, qZ, qN⟩ := q; exact ⟨q0, q1, qP, va_K.moved (u := U) (U := U.calling g mk a) (Vm.Alike.refl U.vm) qK, qD, sF.moved (u := U) (U := U.calling g mk a) (Vm.Alike.refl U.vm) qZ, nF.same rfl qN⟩, va_recv hK hP (ci := 9) (q0 := a) rfl (wld_o ct ad G s13.2 hc hk (by decide)), fun U hU hW => ⟨rfl, by rw [hU], by rw [hU]; exact hP, va_K.moved hW.alike hK, hD.weaken (fun _ _ _ _ => trivial), by rw [hU]; exact ((hZ.kept hS.2.1).narrow hf9).moved hW.alike, hN.warm hW⟩⟩ rfl rfl hl.1 rfl (lv_room (Nat.le_of_ble_eq_true rfl)) dX9_planQuarter_132 ⟨(Nat.zero_le _), (Nat.zero_le _)⟩) hS (fun q _ h => hf9 q h) hf9 (fun u t H locs ht hvm hw hB hz1 hk1 hS => ?_)
                      obtain ⟨hP, hK9, hD9⟩ := hB
                      rw [ht] at hP
                      have hD := hD9.weaken (fun _ q _ h => hf9 q.1 h)
                      obtain rfl := Option.some.inj hF
                      exact J39 _ _ _ hP hD hS (lv_sub hl [0, 1, 2, 3, 4, 5, 6, 7, 8] rfl)
                    · rw [if_neg c40] at hF
                      refine lv_goto (tgt := 135) hx hb dX9_planQuarter_117 (by decide) ?_
                      obtain rfl := Option.some.inj hF
                      exact J39 _ _ _ hP hD hS (lv_sub hl [0, 1, 2, 3, 4, 5, 6, 7, 8] rfl)
          clear hF
          have hF := hy11
          clear hy11
          refine lv_icmp_ne (tgt := 82) hx hb dX9_planQuarter_75 (by decide) (fun c44 => ?_) (fun c44 => ?_)
          · rw [if_neg c44] at hF
            refine lv_bipush (v := (8 : Int32)) hx hb dX9_planQuarter_82 (by decide) ?_
            obtain rfl := Option.some.inj hF
            exact J11 _ _ _ hP hD hS (lv_sub hl [0, 1, 2, 3, 4, 5, 6] rfl)
          · rw [if_pos c44] at hF
            refine lv_iconst (v := (4 : Int32)) hx hb dX9_planQuarter_78 (by decide) ?_
            refine lv_goto (tgt := 84) hx hb dX9_planQuarter_79 (by decide) ?_
            obtain rfl := Option.some.inj hF
            exact J11 _ _ _ hP hD hS (lv_sub hl [0, 1, 2, 3, 4, 5, 6] rfl)
        clear hF
        have hF := hy9
        clear hy9
        refine lv_icmp_le (tgt := 66) hx hb dX9_planQuarter_59 (by decide) (fun c45 => ?_) (fun c45 => ?_)
        · rw [if_pos c45] at hF
          refine lv_bipush (v := (8 : Int32)) hx hb dX9_planQuarter_66 (by decide) ?_
          obtain rfl := Option.some.inj hF
          exact J9 _ _ _ hP hD hS (lv_sub hl [0, 1, 2, 3, 4, 5] rfl)
        · rw [if_neg c45] at hF
          refine lv_iconst (v := (4 : Int32)) hx hb dX9_planQuarter_62 (by decide) ?_
          refine lv_goto (tgt := 68) hx hb dX9_planQuarter_63 (by decide) ?_
          obtain rfl := Option.some.inj hF
          exact J9 _ _ _ hP hD hS (lv_sub hl [0, 1, 2, 3, 4, 5] rfl)
      · rw [if_pos c6] at hF
        obtain rfl := Option.some.inj hF
        exact W.vret hx hb hr (fun t ht hW => ⟨⟨(), rfl, trivial, ⟨by rw [ht]; exact hP, va_K.moved hW.alike hK, hD⟩⟩, hS.F ht⟩) hS.2.2 dX9_planQuarter_42
    clear hF
    have hF := hy5
    clear hy5
    refine lv_if_ne (tgt := 30) hx hb dX9_planQuarter_23 (by decide) (fun c46 => ?_) (fun c46 => ?_)
    · rw [if_neg c46] at hF
      refine va_gets hx hb (hZ.1 18 (by decide)).1 hS hown (hts (.fieldLink RX9 158 "VideoSuite$Work" "SUB_USE" "[I") (mu mw_1953)) (fun _ h => h) dX9_planQuarter_30 ?_
      refine lv_iload_n hx hb dX9_planQuarter_33 rfl (lv_at hl 1 rfl) ?_
      obtain ⟨hvc, hF⟩ := chk_some hF
      refine va_ti (v := .int ((sT 18).getD x3.toNatClampNeg 0)) hx hb (hZ.1 18 (by decide)).2 hS hvc rfl dX9_planQuarter_34 ?_
      obtain ⟨x47, ex47, hF⟩ := ltt_some hF
      refine lv_topi (fun zx47 ezx47 => ?_)
      obtain rfl : x47 = zx47 := ex47.trans ezx47.symm
      obtain rfl := Option.some.inj hF
      exact J5 _ _ _ hP hD hS (lv_sub hl [0, 1, 2, 3, 4] rfl)
    · rw [if_pos c46] at hF
      refine lv_iconst (v := (1 : Int32)) hx hb dX9_planQuarter_26 (by decide) ?_
      refine lv_goto (tgt := 35) hx hb dX9_planQuarter_27 (by decide) ?_
      obtain rfl := Option.some.inj hF
      exact J5 _ _ _ hP hD hS (lv_sub hl [0, 1, 2, 3, 4] rfl)
  clear hF
  have hF := hy4
  clear hy4
  refine lv_if_ne (tgt := 15) hx hb dX9_planQuarter_8 (by decide) (fun c48 => ?_) (fun c48 => ?_)
  · rw [if_neg c48] at hF
    refine va_gets hx hb (hZ.1 17 (by decide)).1 hS hown (hts (.fieldLink RX9 155 "VideoSuite$Work" "SUB_SHAPE" "[I") (mu mw_1951)) (fun _ h => h) dX9_planQuarter_15 ?_
    refine lv_iload_n hx hb dX9_planQuarter_18 rfl (lv_at hl 0 rfl) ?_
    obtain ⟨hvc, hF⟩ := chk_some hF
    refine va_ti (v := .int ((sT 17).getD x3.toNatClampNeg 0)) hx hb (hZ.1 17 (by decide)).2 hS hvc rfl dX9_planQuarter_19 ?_
    obtain ⟨x49, ex49, hF⟩ := ltt_some hF
    refine lv_topi (fun zx49 ezx49 => ?_)
    obtain rfl : x49 = zx49 := ex49.trans ezx49.symm
    obtain rfl := Option.some.inj hF
    exact J4 _ _ _ hP hD hS (lv_sub hl [0, 1, 2, 3] rfl)
  · rw [if_pos c48] at hF
    refine lv_iload_n hx hb dX9_planQuarter_11 rfl (lv_at hl 0 rfl) ?_
    refine lv_goto (tgt := 20) hx hb dX9_planQuarter_12 (by decide) ?_
    obtain rfl := Option.some.inj hF
    exact J4 _ _ _ hP hD hS (lv_sub hl [0, 1, 2, 3] rfl)
