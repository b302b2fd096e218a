theorem dJ7_copyOf_9075b_0 : decode cJ7_copyOf_9075b 0 = .ok (.iload_n 1, 1) := by decide +kernel
theorem dJ7_copyOf_9075b_1 : decode cJ7_copyOf_9075b 1 = .ok (.aload_n 0, 1) := by decide +kernel
theorem dJ7_copyOf_9075b_2 : decode cJ7_copyOf_9075b 2 = .ok (.arraylength, 1) := by decide +kernel
theorem dJ7_copyOf_9075b_3 : decode cJ7_copyOf_9075b 3 = .ok (.if_icmp .ne 11, 3) := by decide +kernel
theorem dJ7_copyOf_9075b_6 : decode cJ7_copyOf_9075b 6 = .ok (.aload_n 0, 1) := by decide +kernel
theorem dJ7_copyOf_9075b_7 : decode cJ7_copyOf_9075b 7 = .ok (.invokevirtual 310, 3) := by decide +kernel
theorem dJ7_copyOf_9075b_10 : decode cJ7_copyOf_9075b 10 = .ok (.checkcast 311, 3) := by decide +kernel
theorem dJ7_copyOf_9075b_13 : decode cJ7_copyOf_9075b 13 = .ok (.areturn, 1) := by decide +kernel
theorem dJ7_copyOf_9075b_14 : decode cJ7_copyOf_9075b 14 = .ok (.iload_n 1, 1) := by decide +kernel
theorem dJ7_copyOf_9075b_15 : decode cJ7_copyOf_9075b 15 = .ok (.newarray .byte, 2) := by decide +kernel
theorem dJ7_copyOf_9075b_17 : decode cJ7_copyOf_9075b 17 = .ok (.astore_n 2, 1) := by decide +kernel
theorem dJ7_copyOf_9075b_18 : decode cJ7_copyOf_9075b 18 = .ok (.aload_n 0, 1) := by decide +kernel
theorem dJ7_copyOf_9075b_19 : decode cJ7_copyOf_9075b 19 = .ok (.iconst 0, 1) := by decide +kernel
theorem dJ7_copyOf_9075b_20 : decode cJ7_copyOf_9075b 20 = .ok (.aload_n 2, 1) := by decide +kernel
theorem dJ7_copyOf_9075b_21 : decode cJ7_copyOf_9075b 21 = .ok (.iconst 0, 1) := by decide +kernel
theorem dJ7_copyOf_9075b_22 : decode cJ7_copyOf_9075b 22 = .ok (.aload_n 0, 1) := by decide +kernel
theorem dJ7_copyOf_9075b_23 : decode cJ7_copyOf_9075b 23 = .ok (.arraylength, 1) := by decide +kernel
theorem dJ7_copyOf_9075b_24 : decode cJ7_copyOf_9075b 24 = .ok (.iload_n 1, 1) := by decide +kernel
theorem dJ7_copyOf_9075b_25 : decode cJ7_copyOf_9075b 25 = .ok (.invokestatic 304, 3) := by decide +kernel
theorem dJ7_copyOf_9075b_28 : decode cJ7_copyOf_9075b 28 = .ok (.invokestatic 150, 3) := by decide +kernel
theorem dJ7_copyOf_9075b_31 : decode cJ7_copyOf_9075b 31 = .ok (.aload_n 2, 1) := by decide +kernel
theorem dJ7_copyOf_9075b_32 : decode cJ7_copyOf_9075b 32 = .ok (.areturn, 1) := by decide +kernel
noncomputable def FJ7_copyOf_9075b (G : GG) (M : DD) (p0 : Option Nat) (p1 : Int32) : Option (NN × DD × Option Nat) :=
  dr (xt G []) 12 p0 fun b1 =>
  ltt (Int32.ofNat ((xt G []).2.2 b1)) fun x2 =>
  bnd (if p1 = x2 then (none) else
  (some (M))) fun (y3 : DD) =>
  chkP (Clo (xt G []) y3) <|
  chk (¬ p1 < 0 ∧ p1.toNatClampNeg * 4 ≤ 536870912) <|
  chk (okd (xt G []) p0 = true) <|
  ltt ((xt G []).1) fun c6 =>
  app [(12, p1.toNatClampNeg)] <|
  ltt ([] ++ [(12, p1.toNatClampNeg)]) fun L8 =>
  ltt (rO y3 c6) fun M9 =>
  ltt (Int32.ofNat ((xt G L8).2.2 b1)) fun x12 =>
  ltt (if p1 < x12 then p1 else x12) fun x13 =>
  chk (¬ ((0 : Int32)) < 0 ∧ ¬ ((0 : Int32)) < 0 ∧ ¬ x13 < 0 ∧ ((0 : Int32)).toNatClampNeg + x13.toNatClampNeg ≤ (xt G L8).2.2 b1 ∧ ((0 : Int32)).toNatClampNeg + x13.toNatClampNeg ≤ (xt G L8).2.2 c6) <|
  chk (∀ i, i < x13.toNatClampNeg → fits .byte (.int (M9.1 b1 (((0 : Int32)).toNatClampNeg + i))) = true) <|
  ltt (rI M9 c6 (va_cpy (M9.1 b1) (M9.1 c6) ((0 : Int32)).toNatClampNeg ((0 : Int32)).toNatClampNeg x13.toNatClampNeg)) fun M14 =>
  some ([], (M14, some c6))
set_option maxHeartbeats 4000000 in
set_option maxRecDepth 100000 in
theorem kJ7_copyOf_9075b (l : Launch) (D : va_G) (ct : CT) (ad : Nat → Nat) (Z : Nat → Nat) (G : GG) (M : DD) (sz : Nat) (p0 : Option Nat) (p1 : Int32) (y : NN × DD × Option Nat) (hF : FJ7_copyOf_9075b G M p0 p1 = some y) : Met l yJ7_copyOf_9075b wuJ7_copyOf_9075b ({ frames := 1, cells := y.1.length, slots := wt y.1, locals := 80 }) (va_Pc [va_re ad p0, .int p1] (kB D ct ad Z G M sz)) (va_Qr (fun (u : Nat → Nat) => agr G.1 ad u) (fun u q t => (∃ b, y.2.2 = some b ∧ q = u b) ∧ kE D ct u (xt G y.1) (wA ad G sz) y.2.1 t) (wA ad G sz)) y.1.length (wt y.1) (wA ad G sz) := by
  refine Met.ofW (cc := cJ7_copyOf_9075b) (maxL := 3) (ret := (some (.array .byte))) (by decide) rfl ?_
  intro p e s m args below meth c s₁ B hml hv
  obtain ⟨rfl, hsz, hP, hK, hD0, hZ, hN⟩ := hv
  have hx := B.exec
  have hb := B.bytes
  have hr := B.returns
  have hts := atoms_spec (ws := wuJ7_copyOf_9075b) B.pre
  have hown : s.vm.findClass RJ7 = some m.cls := findClass_of_methodNamed B.named
  have hlocks := B.notSynchronized
  subst hsz
  have hD := wD_self (sz := s.heap.size) hD0
  have hA9 : ∀ q, s.heap.size ≤ q → wA ad G s.heap.size q := fun q h => Or.inr h
  generalize hAe : wA ad G s.heap.size = A at hD hA9 hZ ⊢
  have hS : va_S A s.heap s.heap [] := va_S.rf
  have hl := lv_entry ([va_re ad p0, .int p1]) (n := 3) (by cases p0 <;> exact Nat.le_of_ble_eq_true rfl)
  rw [lg_entry_eq]
  generalize (lg_sl ([va_re ad p0, .int p1]) ++ List.replicate (3 - (lg_sl ([va_re ad p0, .int p1])).length) Slot.unset).toArray = ls at hl ⊢
  have hl : lv_has ls 3 [(0, va_re ad p0), (1, .int p1)] := by have e9 : lv_args 0 [va_re ad p0, .int p1] = [(0, va_re ad p0), (1, .int p1)] := (by cases p0 <;> rfl); rw [e9] at hl; exact hl
  unfold FJ7_copyOf_9075b at hF
  rw [← wld_0 ct ad G M] at hP hD
  have hag := agr_rf G.1 ad
  obtain ⟨w0, hw0⟩ : ∃ z, z = y := ⟨_, rfl⟩
  rw [← hw0] at hF
  have hT : y.1 = [] ++ w0.1 := by rw [hw0]; rfl
  have h2 : y.2 = w0.2 := by rw [hw0]
  have hbl : y.1.length ≤ y.1.length ∧ wt y.1 ≤ wt y.1 := ⟨Nat.le_refl _, Nat.le_refl _⟩
  refine lv_iload_n hx hb dJ7_copyOf_9075b_0 rfl (lv_at hl 1 rfl) ?_
  refine lv_aloadq_n hx hb dJ7_copyOf_9075b_1 rfl (lv_at hl 0 rfl) ?_
  obtain ⟨b1, ho1, hc1, hk1, hF⟩ := dr_some hF
  refine W_st (st' := [.ref (ad b1), .int p1]) (by rw [va_some ho1]) ?_
  refine va_alen (v := Int32.ofNat ((xt G []).2.2 b1)) hx hb hK hP b1 0 (wld_b ct ad (xt G []) M hc1 hk1) rfl rfl dJ7_copyOf_9075b_2 ?_
  obtain ⟨x2, ex2, hF⟩ := ltt_some hF
  refine lv_topi (fun zx2 ezx2 => ?_)
  obtain rfl : x2 = zx2 := ex2.trans ezx2.symm
  obtain ⟨y3, hy3, hF⟩ := bnd_some hF
  have J3 : ∀ (H : Heap) (locs : List Loc) (ls : Array Slot), va_P D classes (wld ct ad (xt G []) y3) H → va_D A (wld ct ad (xt G []) y3) → va_S A s.heap H locs → lv_has ls 3 [(0, va_re ad p0), (1, .int p1)] → W p l e (headSpec wuJ7_copyOf_9075b ({ frames := 1, cells := y.1.length, slots := wt y.1, locals := 80 })).room s m ([va_re ad p0, .int p1] : List Value).toArray below meth c H locs ([] : NN).length (wt []) (MQ below (va_Qr (fun (u : Nat → Nat) => agr G.1 ad u) (fun u q t => (∃ b, y.2.2 = some b ∧ q = u b) ∧ kE D ct u (xt G y.1) A y.2.1 t) A) ([va_re ad p0, .int p1] : List Value).toArray s y.1.length (wt y.1) A) (F0 m 14 ls []) := by
    intro H locs ls hP hD hS hl
    refine lv_iload_n hx hb dJ7_copyOf_9075b_14 rfl (lv_at hl 1 rfl) ?_
    obtain ⟨hC4, hF⟩ := chkP_some hF
    obtain ⟨hz9, hF⟩ := chk_some hF
    obtain ⟨hq5, hF⟩ := chk_some hF
    obtain ⟨c6, ec6, hF⟩ := ltt_some hF
    obtain ⟨w7, hF, ew7⟩ := app_some hF
    obtain ⟨L8, eL8, hF⟩ := ltt_some hF
    have hT8 : y.1 = ([] ++ [(12, p1.toNatClampNeg)]) ++ w7.1 := by rw [hT, ew7]; simp only [List.append_assoc]
    obtain ⟨M9, eM9, hF⟩ := ltt_some hF
    refine new_b hx hb (hts (.arrayClass .byte) (mu mw_265)) hK hP hD hS hA9 hz9.1 hz9.2 hC4 (room_1s hT8 hbl) dJ7_copyOf_9075b_15 (fun ad10 H hn11 hP hD hS => ?_)
    rw [← ec6, ← eL8, ← eM9] at hP hD
    refine W_cs (k := L8.length) (n := wt L8) (by rw [eL8]) (by rw [eL8]) ?_
    refine W_st (st' := [.ref (ad10 c6)]) (by rw [ec6]) ?_
    have hT : y.1 = L8 ++ w7.1 := by rw [hT8, eL8]
    have h2 : y.2 = w7.2 := by rw [h2, ew7]
    have hl := lv_sub (l' := [(0, va_re ad p0), (1, .int p1)]) hl [0, 1] rfl
    have e9 : ([(0, va_re ad p0), (1, .int p1)] : List (Nat × Value)) = [(0, va_re ad10 p0), (1, .int p1)] := (by first | rfl | simp only [agr_re hn11 hq5])
    rw [e9] at hl
    clear e9
    have hk1 : (xt G L8).2.1 b1 = 12 := by rw [eL8]; exact xt_k _ hc1 hk1
    have hc1 : b1 < (xt G L8).1 := by rw [eL8]; exact xt_l _ hc1
    have hag := agr_t (xt_ge _ _) hag hn11
    have hc6 : c6 < (xt G L8).1 := by rw [ec6, eL8]; exact cnt_new _ _ _
    have hk6 : (xt G L8).2.1 c6 = 12 := by rw [ec6, eL8]; exact (kind_new _ _ _ _).1
    refine lv_astore_n (lv' := [(2, .ref (ad10 c6)), (0, va_re ad10 p0), (1, .int p1)]) hx hb dJ7_copyOf_9075b_17 rfl hl (by decide) rfl (fun ls hl => ?_)
    refine lv_aloadq_n hx hb dJ7_copyOf_9075b_18 rfl (lv_at hl 1 rfl) ?_
    refine lv_iconst (v := (0 : Int32)) hx hb dJ7_copyOf_9075b_19 (by decide) ?_
    refine lv_aload_n hx hb dJ7_copyOf_9075b_20 rfl (lv_at hl 0 rfl) ?_
    refine lv_iconst (v := (0 : Int32)) hx hb dJ7_copyOf_9075b_21 (by decide) ?_
    refine lv_aloadq_n hx hb dJ7_copyOf_9075b_22 rfl (lv_at hl 1 rfl) ?_
    refine W_st (st' := [.ref (ad10 b1), .int (0 : Int32), .ref (ad10 c6), .int (0 : Int32), .ref (ad10 b1)]) (by rw [va_some ho1]) ?_
    refine va_alen (v := Int32.ofNat ((xt G L8).2.2 b1)) hx hb hK hP b1 0 (wld_b ct ad10 (xt G L8) M9 hc1 hk1) rfl rfl dJ7_copyOf_9075b_23 ?_
    obtain ⟨x12, ex12, hF⟩ := ltt_some hF
    refine lv_topi (fun zx12 ezx12 => ?_)
    obtain rfl : x12 = zx12 := ex12.trans ezx12.symm
    refine lv_iload_n hx hb dJ7_copyOf_9075b_24 rfl (lv_at hl 2 rfl) ?_
    refine va_mmin hx hb (hml.trans hl.1.symm) hown (hts (.methodLink RJ7 304 Lib.Math.min.name) (mu mw_1156)) (hts (.static Lib.Math.min.name) (mu mw_1157)) (hts (.initialized "java/lang/Math") (mu mw_183)) (hts (.code Lib.Math.min.name Lib.Math.min.code 2 (some .int)) (mu mw_1158)) (Nat.le_of_ble_eq_true rfl) (Nat.le_of_ble_eq_true rfl) (room_d hT hbl).1 (room_d hT hbl).2 dJ7_copyOf_9075b_25 ?_
    obtain ⟨x13, ex13, hF⟩ := ltt_some hF
    refine lv_topi (fun zx13 ezx13 => ?_)
    obtain rfl : x13 = zx13 := ex13.trans ezx13.symm
    obtain ⟨hv9, hF⟩ := chk_some hF
    obtain ⟨hv8, hF⟩ := chk_some hF
    refine va_copyi (ty := .byte) hx hb (hml.trans hl.1.symm) hown (hts (.methodLink RJ7 150 arraycopyName) (mu mw_1159)) (hts (.native arraycopyName) (mu mw_1093)) (hts (.static arraycopyName) (mu mw_1092)) (hts (.initialized "java/lang/System") (mu mw_181)) hK hP hD hS b1 c6 0 0 (wld_b ct ad10 (xt G L8) M9 hc1 hk1) (wld_b ct ad10 (xt G L8) M9 hc6 hk6) rfl rfl rfl hv9.1 hv9.2.1 hv9.2.2.1 hv9.2.2.2.1 hv9.2.2.2.2 hv8 (Nat.le_of_ble_eq_true rfl) (show _ ≤ _ from (by decide +kernel : 0 + (nativeFrameWords "java/lang/System" "arraycopy" 5 + 11) ≤ 80)) dJ7_copyOf_9075b_28 (fun H locs hP hD hS => ?_)
    obtain ⟨M14, eM14, hF⟩ := ltt_some hF
    rw [set_rb ct ad10 (xt G L8) M9 hc6 hk6, ← eM14] at hP hD
    refine lv_aload_n hx hb dJ7_copyOf_9075b_31 rfl (lv_at hl 0 rfl) ?_
    obtain rfl := Option.some.inj hF
    have e1 : y.1 = L8 := by rw [hT]; exact List.append_nil _
    have e2 : y.2 = (M14, some c6) := h2
    refine W.widen (k := y.1.length) (n := wt y.1) (Nat.le_of_eq (by rw [e1])) (Nat.le_of_eq (by rw [e1])) ?_
    exact W.aret (v := .ref (ad10 c6)) hx hb hr (Or.inr ⟨_, rfl⟩) (Or.inr ⟨_, rfl⟩) (fun t ht hW => ⟨⟨ad10, _, rfl, hag, ⟨c6, by rw [e2], rfl⟩, (by unfold kE; rw [e1, e2]; exact ⟨by rw [ht]; exact hP, va_K.moved hW.alike hK, hD⟩)⟩, hS.F ht⟩) hS.2.2 dJ7_copyOf_9075b_32
  clear hF
  have hF := hy3
  clear hy3
  refine lv_icmp_ne (tgt := 14) hx hb dJ7_copyOf_9075b_3 (by decide) (fun c15 => ?_) (fun c15 => ?_)
  · rw [if_neg c15] at hF
    obtain rfl := Option.some.inj hF
    exact J3 _ _ _ hP hD hS (lv_sub hl [0, 1] rfl)
  · rw [if_pos c15] at hF
    refine lv_aloadq_n hx hb dJ7_copyOf_9075b_6 rfl (lv_at hl 0 rfl) ?_
    cases hF
theorem dJ7_fill_53178_0 : decode cJ7_fill_53178 0 = .ok (.iconst 0, 1) := by decide +kernel
theorem dJ7_fill_53178_1 : decode cJ7_fill_53178 1 = .ok (.istore_n 2, 1) := by decide +kernel
theorem dJ7_fill_53178_2 : decode cJ7_fill_53178 2 = .ok (.aload_n 0, 1) := by decide +kernel
theorem dJ7_fill_53178_3 : decode cJ7_fill_53178 3 = .ok (.arraylength, 1) := by decide +kernel
theorem dJ7_fill_53178_4 : decode cJ7_fill_53178 4 = .ok (.istore_n 3, 1) := by decide +kernel
theorem dJ7_fill_53178_5 : decode cJ7_fill_53178 5 = .ok (.iload_n 2, 1) := by decide +kernel
theorem dJ7_fill_53178_6 : decode cJ7_fill_53178 6 = .ok (.iload_n 3, 1) := by decide +kernel
theorem dJ7_fill_53178_7 : decode cJ7_fill_53178 7 = .ok (.if_icmp .ge 13, 3) := by decide +kernel
theorem dJ7_fill_53178_10 : decode cJ7_fill_53178 10 = .ok (.aload_n 0, 1) := by decide +kernel
theorem dJ7_fill_53178_11 : decode cJ7_fill_53178 11 = .ok (.iload_n 2, 1) := by decide +kernel
theorem dJ7_fill_53178_12 : decode cJ7_fill_53178 12 = .ok (.iload_n 1, 1) := by decide +kernel
theorem dJ7_fill_53178_13 : decode cJ7_fill_53178 13 = .ok (.iastore, 1) := by decide +kernel
theorem dJ7_fill_53178_14 : decode cJ7_fill_53178 14 = .ok (.iinc 2 1, 3) := by decide +kernel
theorem dJ7_fill_53178_17 : decode cJ7_fill_53178 17 = .ok (.goto (-12), 3) := by decide +kernel
theorem dJ7_fill_53178_20 : decode cJ7_fill_53178 20 = .ok (.return_, 1) := by decide +kernel
def FJ7_fill_53178 (G : GG) (M : DD) (p0 : Option Nat) (p1 : Int32) : Option (DD) :=
  dr G 13 p0 fun b1 =>
  ltt (Int32.ofNat (G.2.2 b1)) fun x2 =>
  bnd (itr (fun (s4 : Int32 × DD) => ((if x2 ≤ s4.1 then (some (.inr (s4.1, s4.2))) else
  (chk (¬ (s4.1 < 0 ∨ G.2.2 b1 ≤ s4.1.toNatClampNeg)) <|
  ltt (uI s4.2 b1 s4.1.toNatClampNeg p1) fun M8 =>
  ltt (s4.1 + (1 : Int32)) fun x9 =>
  some (.inl (x9, M8)))) : Option ((Int32 × DD) ⊕ (Int32 × DD)))) 1000000 ((0 : Int32), M)) fun (y3 : Int32 × DD) =>
  some y3.2
set_option maxHeartbeats 4000000 in
set_option maxRecDepth 100000 in
theorem kJ7_fill_53178 (l : Launch) (D : va_G) (ct : CT) (ad : Nat → Nat) (Z : Nat → Nat) (G : GG) (M : DD) (sz : Nat) (p0 : Option Nat) (p1 : Int32) (y : DD) (hF : FJ7_fill_53178 G M p0 p1 = some y) : Met l yJ7_fill_53178 wuJ7_fill_53178 ({ frames := 0, cells := 0, slots := 0, locals := 0 }) (va_Pc [va_re ad p0, .int p1] (kB D ct ad Z G M sz)) (va_Qv (fun (_ : Unit) => True) (fun _ t => kE D ct ad G (wA ad G sz) y t) (wA ad G sz)) 0 0 (wA ad G sz) := by
  refine Met.ofW (cc := cJ7_fill_53178) (maxL := 4) (ret := none) (by decide) rfl ?_
  intro p e s m args below meth c s₁ B hml hv
  obtain ⟨rfl, hsz, hP, hK, hD0, hZ, hN⟩ := hv
  have hx := B.exec
  have hb := B.bytes
  have hr := B.returns
  have hts := atoms_spec (ws := wuJ7_fill_53178) B.pre
  have hown : s.vm.findClass RJ7 = some m.cls := findClass_of_methodNamed B.named
  have hlocks := B.notSynchronized
  subst hsz
  have hD := wD_self (sz := s.heap.size) hD0
  have hA9 : ∀ q, s.heap.size ≤ q → wA ad G s.heap.size q := fun q h => Or.inr h
  generalize hAe : wA ad G s.heap.size = A at hD hA9 hZ ⊢
  have hS : va_S A s.heap s.heap [] := va_S.rf
  have hl := lv_entry ([va_re ad p0, .int p1]) (n := 4) (by cases p0 <;> exact Nat.le_of_ble_eq_true rfl)
  rw [lg_entry_eq]
  generalize (lg_sl ([va_re ad p0, .int p1]) ++ List.replicate (4 - (lg_sl ([va_re ad p0, .int p1])).length) Slot.unset).toArray = ls at hl ⊢
  have hl : lv_has ls 4 [(0, va_re ad p0), (1, .int p1)] := by have e9 : lv_args 0 [va_re ad p0, .int p1] = [(0, va_re ad p0), (1, .int p1)] := (by cases p0 <;> rfl); rw [e9] at hl; exact hl
  unfold FJ7_fill_53178 at hF
  refine lv_iconst (v := (0 : Int32)) hx hb dJ7_fill_53178_0 (by decide) ?_
  refine lv_istore_n (lv' := [(2, .int (0 : Int32)), (0, va_re ad p0), (1, .int p1)]) hx hb dJ7_fill_53178_1 rfl hl (by decide) rfl (fun ls hl => ?_)
  refine lv_aloadq_n hx hb dJ7_fill_53178_2 rfl (lv_at hl 1 rfl) ?_
  obtain ⟨b1, ho1, hc1, hk1, hF⟩ := dr_some hF
  refine W_st (st' := [.ref (ad b1)]) (by rw [va_some ho1]) ?_
  refine va_alen (v := Int32.ofNat (G.2.2 b1)) hx hb hK hP b1 1 (wld_i ct ad G M hc1 hk1) rfl rfl dJ7_fill_53178_3 ?_
  obtain ⟨x2, ex2, hF⟩ := ltt_some hF
  refine lv_topi (fun zx2 ezx2 => ?_)
  obtain rfl : x2 = zx2 := ex2.trans ezx2.symm
  refine lv_istore_n (lv' := [(3, .int x2), (2, .int (0 : Int32)), (0, va_re ad p0), (1, .int p1)]) hx hb dJ7_fill_53178_4 rfl hl (by decide) rfl (fun ls hl => ?_)
  obtain ⟨y3, hy3, hF⟩ := bnd_some hF
  have K3 : ∀ (H : Heap) (locs : List Loc) (ls : Array Slot), va_P D classes (wld ct ad G y3.2) H → va_D A (wld ct ad G y3.2) → va_S A s.heap H locs → lv_has ls 4 [(3, .int x2), (2, .int y3.1), (0, va_re ad p0), (1, .int p1)] → W p l e (headSpec wuJ7_fill_53178 ({ frames := 0, cells := 0, slots := 0, locals := 0 })).room s m ([va_re ad p0, .int p1] : List Value).toArray below meth c H locs 0 0 (MQ below (va_Qv (fun (_ : Unit) => True) (fun _ t => kE D ct ad G A y t) A) ([va_re ad p0, .int p1] : List Value).toArray s 0 0 A) (F0 m 20 ls []) := by
    intro H locs ls hP hD hS hl
    obtain rfl := Option.some.inj hF
    exact W.vret hx hb hr (fun t ht hW => ⟨⟨(), rfl, trivial, ⟨by rw [ht]; exact hP, va_K.moved hW.alike hK, hD⟩⟩, hS.F ht⟩) hS.2.2 dJ7_fill_53178_20
  clear hF
  refine itr_rule (fun (s4 : Int32 × DD) => ∀ (H : Heap) (locs : List Loc) (ls : Array Slot), va_P D classes (wld ct ad G s4.2) H → va_D A (wld ct ad G s4.2) → va_S A s.heap H locs → lv_has ls 4 [(3, .int x2), (2, .int s4.1), (0, va_re ad p0), (1, .int p1)] → W p l e (headSpec wuJ7_fill_53178 ({ frames := 0, cells := 0, slots := 0, locals := 0 })).room s m ([va_re ad p0, .int p1] : List Value).toArray below meth c H locs 0 0 (MQ below (va_Qv (fun (_ : Unit) => True) (fun _ t => kE D ct ad G A y t) A) ([va_re ad p0, .int p1] : List Value).toArray s 0 0 A) (F0 m 5 ls [])) ?_ _ _ hy3 _ _ _ hP hD hS (lv_sub hl [0, 1, 2, 3] rfl)
  rintro s4 ⟨z6, hF, hwz6⟩ H locs ls hP hD hS hl
  try dsimp only at hF
  refine lv_iload_n hx hb dJ7_fill_53178_5 rfl (lv_at hl 1 rfl) ?_
  refine lv_iload_n hx hb dJ7_fill_53178_6 rfl (lv_at hl 0 rfl) ?_
  refine lv_icmp_ge (tgt := 20) hx hb dJ7_fill_53178_7 (by decide) (fun c7 => ?_) (fun c7 => ?_)
  · rw [if_pos c7] at hF
    obtain rfl := Option.some.inj hF
    subst hwz6
    exact K3 _ _ _ hP hD hS (lv_sub hl [0, 1, 2, 3] rfl)
  · rw [if_neg c7] at hF
    refine lv_aloadq_n hx hb dJ7_fill_53178_10 rfl (lv_at hl 2 rfl) ?_
    refine lv_iload_n hx hb dJ7_fill_53178_11 rfl (lv_at hl 1 rfl) ?_
    refine lv_iload_n hx hb dJ7_fill_53178_12 rfl (lv_at hl 3 rfl) ?_
    refine W_st (st' := [.int p1, .int s4.1, .ref (ad b1)]) (by rw [va_some ho1]) ?_
    obtain ⟨hvc, hF⟩ := chk_some hF
    refine va_iast hx hb hK hP hD hS b1 1 (wld_i ct ad G s4.2 hc1 hk1) rfl hvc dJ7_fill_53178_13 (fun H locs hP hD hS => ?_)
    obtain ⟨M8, eM8, hF⟩ := ltt_some hF
    rw [set_i ct ad G s4.2 hc1 hk1, ← eM8] at hP hD
    obtain ⟨x9, ex9, hF⟩ := ltt_some hF
    refine lv_iinc (v := x9) (lv' := [(2, .int x9), (3, .int x2), (0, va_re ad p0), (1, .int p1)]) hx hb dJ7_fill_53178_14 hl (k := 1) rfl (by rw [ex9]; rfl) (by decide) rfl (fun ls hl => ?_)
    refine lv_goto (tgt := 5) hx hb dJ7_fill_53178_17 (by decide) ?_
    obtain rfl := Option.some.inj hF
    exact hwz6 _ _ _ hP hD hS (lv_sub hl [1, 0, 2, 3] rfl)
theorem dJ7_rangeCheck_23922_0 : decode cJ7_rangeCheck_23922 0 = .ok (.iload_n 1, 1) := by decide +kernel
theorem dJ7_rangeCheck_23922_1 : decode cJ7_rangeCheck_23922 1 = .ok (.iload_n 2, 1) := by decide +kernel
theorem dJ7_rangeCheck_23922_2 : decode cJ7_rangeCheck_23922 2 = .ok (.if_icmp .le 44, 3) := by decide +kernel
theorem dJ7_rangeCheck_23922_5 : decode cJ7_rangeCheck_23922 5 = .ok (.new 43, 3) := by decide +kernel
theorem dJ7_rangeCheck_23922_8 : decode cJ7_rangeCheck_23922 8 = .ok (.dup, 1) := by decide +kernel
theorem dJ7_rangeCheck_23922_9 : decode cJ7_rangeCheck_23922 9 = .ok (.new 45, 3) := by decide +kernel
theorem dJ7_rangeCheck_23922_12 : decode cJ7_rangeCheck_23922 12 = .ok (.dup, 1) := by decide +kernel
theorem dJ7_rangeCheck_23922_13 : decode cJ7_rangeCheck_23922 13 = .ok (.invokespecial 47, 3) := by decide +kernel
theorem dJ7_rangeCheck_23922_16 : decode cJ7_rangeCheck_23922 16 = .ok (.ldc 48, 2) := by decide +kernel
theorem dJ7_rangeCheck_23922_18 : decode cJ7_rangeCheck_23922 18 = .ok (.invokevirtual 50, 3) := by decide +kernel
theorem dJ7_rangeCheck_23922_21 : decode cJ7_rangeCheck_23922 21 = .ok (.iload_n 1, 1) := by decide +kernel
theorem dJ7_rangeCheck_23922_22 : decode cJ7_rangeCheck_23922 22 = .ok (.invokevirtual 54, 3) := by decide +kernel
theorem dJ7_rangeCheck_23922_25 : decode cJ7_rangeCheck_23922 25 = .ok (.ldc 57, 2) := by decide +kernel
theorem dJ7_rangeCheck_23922_27 : decode cJ7_rangeCheck_23922 27 = .ok (.invokevirtual 50, 3) := by decide +kernel
theorem dJ7_rangeCheck_23922_30 : decode cJ7_rangeCheck_23922 30 = .ok (.iload_n 2, 1) := by decide +kernel
theorem dJ7_rangeCheck_23922_31 : decode cJ7_rangeCheck_23922 31 = .ok (.invokevirtual 54, 3) := by decide +kernel
theorem dJ7_rangeCheck_23922_34 : decode cJ7_rangeCheck_23922 34 = .ok (.ldc 59, 2) := by decide +kernel
theorem dJ7_rangeCheck_23922_36 : decode cJ7_rangeCheck_23922 36 = .ok (.invokevirtual 50, 3) := by decide +kernel
theorem dJ7_rangeCheck_23922_39 : decode cJ7_rangeCheck_23922 39 = .ok (.invokevirtual 61, 3) := by decide +kernel
theorem dJ7_rangeCheck_23922_42 : decode cJ7_rangeCheck_23922 42 = .ok (.invokespecial 65, 3) := by decide +kernel
theorem dJ7_rangeCheck_23922_45 : decode cJ7_rangeCheck_23922 45 = .ok (.athrow, 1) := by decide +kernel
theorem dJ7_rangeCheck_23922_46 : decode cJ7_rangeCheck_23922 46 = .ok (.iload_n 1, 1) := by decide +kernel
theorem dJ7_rangeCheck_23922_47 : decode cJ7_rangeCheck_23922 47 = .ok (.ifCond .ge 12, 3) := by decide +kernel
theorem dJ7_rangeCheck_23922_50 : decode cJ7_rangeCheck_23922 50 = .ok (.new 68, 3) := by decide +kernel
theorem dJ7_rangeCheck_23922_53 : decode cJ7_rangeCheck_23922 53 = .ok (.dup, 1) := by decide +kernel
theorem dJ7_rangeCheck_23922_54 : decode cJ7_rangeCheck_23922 54 = .ok (.iload_n 1, 1) := by decide +kernel
theorem dJ7_rangeCheck_23922_55 : decode cJ7_rangeCheck_23922 55 = .ok (.invokespecial 70, 3) := by decide +kernel
theorem dJ7_rangeCheck_23922_58 : decode cJ7_rangeCheck_23922 58 = .ok (.athrow, 1) := by decide +kernel
theorem dJ7_rangeCheck_23922_59 : decode cJ7_rangeCheck_23922 59 = .ok (.iload_n 2, 1) := by decide +kernel
theorem dJ7_rangeCheck_23922_60 : decode cJ7_rangeCheck_23922 60 = .ok (.iload_n 0, 1) := by decide +kernel
theorem dJ7_rangeCheck_23922_61 : decode cJ7_rangeCheck_23922 61 = .ok (.if_icmp .le 12, 3) := by decide +kernel
theorem dJ7_rangeCheck_23922_64 : decode cJ7_rangeCheck_23922 64 = .ok (.new 68, 3) := by decide +kernel
theorem dJ7_rangeCheck_23922_67 : decode cJ7_rangeCheck_23922 67 = .ok (.dup, 1) := by decide +kernel
theorem dJ7_rangeCheck_23922_68 : decode cJ7_rangeCheck_23922 68 = .ok (.iload_n 2, 1) := by decide +kernel
theorem dJ7_rangeCheck_23922_69 : decode cJ7_rangeCheck_23922 69 = .ok (.invokespecial 70, 3) := by decide +kernel
theorem dJ7_rangeCheck_23922_72 : decode cJ7_rangeCheck_23922 72 = .ok (.athrow, 1) := by decide +kernel
theorem dJ7_rangeCheck_23922_73 : decode cJ7_rangeCheck_23922 73 = .ok (.return_, 1) := by decide +kernel
def FJ7_rangeCheck_23922 (G : GG) (M : DD) (p0 : Int32) (p1 : Int32) (p2 : Int32) : Option (DD) :=
  bnd (if p1 ≤ p2 then (some ()) else
  (none)) fun (y1 : Unit) =>
  bnd (if ((0 : Int32)) ≤ p1 then (some ()) else
  (none)) fun (y2 : Unit) =>
  bnd (if p2 ≤ p0 then (some ()) else
  (none)) fun (y3 : Unit) =>
  some M
set_option maxHeartbeats 4000000 in
set_option maxRecDepth 100000 in
theorem kJ7_rangeCheck_23922 (l : Launch) (D : va_G) (ct : CT) (ad : Nat → Nat) (Z : Nat → Nat) (G : GG) (M : DD) (sz : Nat) (p0 : Int32) (p1 : Int32) (p2 : Int32) (y : DD) (hF : FJ7_rangeCheck_23922 G M p0 p1 p2 = some y) : Met l yJ7_rangeCheck_23922 wuJ7_rangeCheck_23922 ({ frames := 0, cells := 0, slots := 0, locals := 0 }) (va_Pc [.int p0, .int p1, .int p2] (kB D ct ad Z G M sz)) (va_Qv (fun (_ : Unit) => True) (fun _ t => kE D ct ad G (wA ad G sz) y t) (wA ad G sz)) 0 0 (wA ad G sz) := by
  refine Met.ofW (cc := cJ7_rangeCheck_23922) (maxL := 3) (ret := none) (by decide) rfl ?_
  intro p e s m args below meth c s₁ B hml hv
  obtain ⟨rfl, hsz, hP, hK, hD0, hZ, hN⟩ := hv
  have hx := B.exec
  have hb := B.bytes
  have hr := B.returns
  have hts := atoms_spec (ws := wuJ7_rangeCheck_23922) B.pre
  have hown : s.vm.findClass RJ7 = some m.cls := findClass_of_methodNamed B.named
  have hlocks := B.notSynchronized
  subst hsz
  have hD := wD_self (sz := s.heap.size) hD0
  have hA9 : ∀ q, s.heap.size ≤ q → wA ad G s.heap.size q := fun q h => Or.inr h
  generalize hAe : wA ad G s.heap.size = A at hD hA9 hZ ⊢
  have hS : va_S A s.heap s.heap [] := va_S.rf
  have hl := lv_entry ([.int p0, .int p1, .int p2]) (n := 3) (Nat.le_of_ble_eq_true rfl)
  rw [lg_entry_eq]
  generalize (lg_sl ([.int p0, .int p1, .int p2]) ++ List.replicate (3 - (lg_sl ([.int p0, .int p1, .int p2])).length) Slot.unset).toArray = ls at hl ⊢
  have hl : lv_has ls 3 [(0, .int p0), (1, .int p1), (2, .int p2)] := hl
  unfold FJ7_rangeCheck_23922 at hF
  refine lv_iload_n hx hb dJ7_rangeCheck_23922_0 rfl (lv_at hl 1 rfl) ?_
  refine lv_iload_n hx hb dJ7_rangeCheck_23922_1 rfl (lv_at hl 2 rfl) ?_
  obtain ⟨y1, hy1, hF⟩ := bnd_some hF
  have J1 : ∀ (H : Heap) (locs : List Loc) (ls : Array Slot), va_P D classes (wld ct ad G M) H → va_D A (wld ct ad G M) → va_S A s.heap H locs → lv_has ls 3 [(0, .int p0), (1, .int p1), (2, .int p2)] → W p l e (headSpec wuJ7_rangeCheck_23922 ({ frames := 0, cells := 0, slots := 0, locals := 0 })).room s m ([.int p0, .int p1, .int p2] : List Value).toArray below meth c H locs 0 0 (MQ below (va_Qv (fun (_ : Unit) => True) (fun _ t => kE D ct ad G A y t) A) ([.int p0, .int p1, .int p2] : List Value).toArray s 0 0 A) (F0 m 46 ls []) := by
    intro H locs ls hP hD hS hl
    refine lv_iload_n hx hb dJ7_rangeCheck_23922_46 rfl (lv_at hl 1 rfl) ?_
    obtain ⟨y2, hy2, hF⟩ := bnd_some hF
    have J2 : ∀ (H : Heap) (locs : List Loc) (ls : Array Slot), va_P D classes (wld ct ad G M) H → va_D A (wld ct ad G M) → va_S A s.heap H locs → lv_has ls 3 [(0, .int p0), (1, .int p1), (2, .int p2)] → W p l e (headSpec wuJ7_rangeCheck_23922 ({ frames := 0, cells := 0, slots := 0, locals := 0 })).room s m ([.int p0, .int p1, .int p2] : List Value).toArray below meth c H locs 0 0 (MQ below (va_Qv (fun (_ : Unit) => True) (fun _ t => kE D ct ad G A y t) A) ([.int p0, .int p1, .int p2] : List Value).toArray s 0 0 A) (F0 m 59 ls []) := by
      intro H locs ls hP hD hS hl
      refine lv_iload_n hx hb dJ7_rangeCheck_23922_59 rfl (lv_at hl 2 rfl) ?_
      refine lv_iload_n hx hb dJ7_rangeCheck_23922_60 rfl (lv_at hl 0 rfl) ?_
      obtain ⟨y3, hy3, hF⟩ := bnd_some hF
      have J3 : ∀ (H : Heap) (locs : List Loc) (ls : Array Slot), va_P D classes (wld ct ad G M) H → va_D A (wld ct ad G M) → va_S A s.heap H locs → lv_has ls 3 [(0, .int p0), (1, .int p1), (2, .int p2)] → W p l e (headSpec wuJ7_rangeCheck_23922 ({ frames := 0, cells := 0, slots := 0, locals := 0 })).room s m ([.int p0, .int p1, .int p2] : List Value).toArray below meth c H locs 0 0 (MQ below (va_Qv (fun (_ : Unit) => True) (fun _ t => kE D ct ad G A y t) A) ([.int p0, .int p1, .int p2] : List Value).toArray s 0 0 A) (F0 m 73 ls []) := by
        intro H locs ls hP hD hS hl
        obtain rfl := Option.some.inj hF
        exact W.vret hx hb hr (fun t ht hW => ⟨⟨(), rfl, trivial, ⟨by rw [ht]; exact hP, va_K.moved hW.alike hK, hD⟩⟩, hS.F ht⟩) hS.2.2 dJ7_rangeCheck_23922_73
      clear hF
      have hF := hy3
      clear hy3
      refine lv_icmp_le (tgt := 73) hx hb dJ7_rangeCheck_23922_61 (by decide) (fun c4 => ?_) (fun c4 => ?_)
      · rw [if_pos c4] at hF
        obtain rfl := Option.some.inj hF
        exact J3 _ _ _ hP hD hS (lv_sub hl [0, 1, 2] rfl)
      · rw [if_neg c4] at hF
        cases hF
    clear hF
    have hF := hy2
    clear hy2
    refine lv_if_ge (tgt := 59) hx hb dJ7_rangeCheck_23922_47 (by decide) (fun c5 => ?_) (fun c5 => ?_)
    · rw [if_pos c5] at hF
      obtain rfl := Option.some.inj hF
      exact J2 _ _ _ hP hD hS (lv_sub hl [0, 1, 2] rfl)
    · rw [if_neg c5] at hF
      cases hF
  clear hF
  have hF := hy1
  clear hy1
  refine lv_icmp_le (tgt := 46) hx hb dJ7_rangeCheck_23922_2 (by decide) (fun c6 => ?_) (fun c6 => ?_)
  · rw [if_pos c6] at hF
    obtain rfl := Option.some.inj hF
    exact J1 _ _ _ hP hD hS (lv_sub hl [0, 1, 2] rfl)
  · rw [if_neg c6] at hF
    cases hF
theorem dX0_clash_0 : decode cX0_clash 0 = .ok (.aload_n 0, 1) := by decide +kernel
theorem dX0_clash_1 : decode cX0_clash 1 = .ok (.getfield 20, 3) := by decide +kernel
theorem dX0_clash_4 : decode cX0_clash 4 = .ok (.iconst 0, 1) := by decide +kernel
theorem dX0_clash_5 : decode cX0_clash 5 = .ok (.iaload, 1) := by decide +kernel
theorem dX0_clash_6 : decode cX0_clash 6 = .ok (.aload_n 0, 1) := by decide +kernel
theorem dX0_clash_7 : decode cX0_clash 7 = .ok (.getfield 20, 3) := by decide +kernel
theorem dX0_clash_10 : decode cX0_clash 10 = .ok (.iconst 1, 1) := by decide +kernel
theorem dX0_clash_11 : decode cX0_clash 11 = .ok (.iaload, 1) := by decide +kernel
theorem dX0_clash_12 : decode cX0_clash 12 = .ok (.imul, 1) := by decide +kernel
theorem dX0_clash_13 : decode cX0_clash 13 = .ok (.bipush 32, 2) := by decide +kernel
theorem dX0_clash_15 : decode cX0_clash 15 = .ok (.if_icmp .le 5, 3) := by decide +kernel
theorem dX0_clash_18 : decode cX0_clash 18 = .ok (.iconst 1, 1) := by decide +kernel
theorem dX0_clash_19 : decode cX0_clash 19 = .ok (.ireturn, 1) := by decide +kernel
theorem dX0_clash_20 : decode cX0_clash 20 = .ok (.aload_n 0, 1) := by decide +kernel
theorem dX0_clash_21 : decode cX0_clash 21 = .ok (.getfield 20, 3) := by decide +kernel
theorem dX0_clash_24 : decode cX0_clash 24 = .ok (.bipush 6, 2) := by decide +kernel
theorem dX0_clash_26 : decode cX0_clash 26 = .ok (.iaload, 1) := by decide +kernel
theorem dX0_clash_27 : decode cX0_clash 27 = .ok (.ifCond .le 27, 3) := by decide +kernel
theorem dX0_clash_30 : decode cX0_clash 30 = .ok (.aload_n 0, 1) := by decide +kernel
theorem dX0_clash_31 : decode cX0_clash 31 = .ok (.getfield 20, 3) := by decide +kernel
theorem dX0_clash_34 : decode cX0_clash 34 = .ok (.bipush 7, 2) := by decide +kernel
theorem dX0_clash_36 : decode cX0_clash 36 = .ok (.iaload, 1) := by decide +kernel
theorem dX0_clash_37 : decode cX0_clash 37 = .ok (.iconst 2, 1) := by decide +kernel
theorem dX0_clash_38 : decode cX0_clash 38 = .ok (.if_icmp .lt 13, 3) := by decide +kernel
theorem dX0_clash_41 : decode cX0_clash 41 = .ok (.aload_n 0, 1) := by decide +kernel
theorem dX0_clash_42 : decode cX0_clash 42 = .ok (.getfield 20, 3) := by decide +kernel
theorem dX0_clash_45 : decode cX0_clash 45 = .ok (.bipush 18, 2) := by decide +kernel
theorem dX0_clash_47 : decode cX0_clash 47 = .ok (.iaload, 1) := by decide +kernel
theorem dX0_clash_48 : decode cX0_clash 48 = .ok (.ifCond .eq 6, 3) := by decide +kernel
theorem dX0_clash_51 : decode cX0_clash 51 = .ok (.bipush 6, 2) := by decide +kernel
theorem dX0_clash_53 : decode cX0_clash 53 = .ok (.ireturn, 1) := by decide +kernel
theorem dX0_clash_54 : decode cX0_clash 54 = .ok (.aload_n 0, 1) := by decide +kernel
theorem dX0_clash_55 : decode cX0_clash 55 = .ok (.getfield 20, 3) := by decide +kernel
theorem dX0_clash_58 : decode cX0_clash 58 = .ok (.bipush 21, 2) := by decide +kernel
theorem dX0_clash_60 : decode cX0_clash 60 = .ok (.iaload, 1) := by decide +kernel
theorem dX0_clash_61 : decode cX0_clash 61 = .ok (.iconst 1, 1) := by decide +kernel
theorem dX0_clash_62 : decode cX0_clash 62 = .ok (.if_icmp .ne 8, 3) := by decide +kernel
theorem dX0_clash_65 : decode cX0_clash 65 = .ok (.bipush 21, 2) := by decide +kernel
theorem dX0_clash_67 : decode cX0_clash 67 = .ok (.goto 4, 3) := by decide +kernel
theorem dX0_clash_70 : decode cX0_clash 70 = .ok (.iconst (-1), 1) := by decide +kernel
theorem dX0_clash_71 : decode cX0_clash 71 = .ok (.ireturn, 1) := by decide +kernel
def FX0_clash (G : GG) (M : DD) (a : Nat)  : Option (DD × Int32) :=
  dr G 13 ((M.2 a 0)) fun b1 =>
  chk (¬ (((0 : Int32)) < 0 ∨ G.2.2 b1 ≤ ((0 : Int32)).toNatClampNeg)) <|
  ltt (M.1 b1 ((0 : Int32)).toNatClampNeg) fun x2 =>
  chk (¬ (((1 : Int32)) < 0 ∨ G.2.2 b1 ≤ ((1 : Int32)).toNatClampNeg)) <|
  ltt (M.1 b1 ((1 : Int32)).toNatClampNeg) fun x3 =>
  ltt ((x2 * x3)) fun x4 =>
  if x4 ≤ ((32 : Int32)) then (chk (¬ (((6 : Int32)) < 0 ∨ G.2.2 b1 ≤ ((6 : Int32)).toNatClampNeg)) <|
  ltt (M.1 b1 ((6 : Int32)).toNatClampNeg) fun x6 =>
  if x6 ≤ ((0 : Int32)) then (chk (¬ (((21 : Int32)) < 0 ∨ G.2.2 b1 ≤ ((21 : Int32)).toNatClampNeg)) <|
  ltt (M.1 b1 ((21 : Int32)).toNatClampNeg) fun x8 =>
  bnd (if x8 = ((1 : Int32)) then (some ((21 : Int32))) else
  (some ((-1 : Int32)))) fun (y9 : Int32) =>
  some (M, y9)) else
  (chk (¬ (((7 : Int32)) < 0 ∨ G.2.2 b1 ≤ ((7 : Int32)).toNatClampNeg)) <|
  ltt (M.1 b1 ((7 : Int32)).toNatClampNeg) fun x11 =>
  if x11 < ((2 : Int32)) then (some (M, (6 : Int32))) else
  (chk (¬ (((18 : Int32)) < 0 ∨ G.2.2 b1 ≤ ((18 : Int32)).toNatClampNeg)) <|
  ltt (M.1 b1 ((18 : Int32)).toNatClampNeg) fun x13 =>
  if x13 = ((0 : Int32)) then (chk (¬ (((21 : Int32)) < 0 ∨ G.2.2 b1 ≤ ((21 : Int32)).toNatClampNeg)) <|
  ltt (M.1 b1 ((21 : Int32)).toNatClampNeg) fun x15 =>
  bnd (if x15 = ((1 : Int32)) then (some ((21 : Int32))) else
  (some ((-1 : Int32)))) fun (y16 : Int32) =>
  some (M, y16)) else
  (some (M, (6 : Int32)))))) else
  (some (M, (1 : Int32)))
set_option maxHeartbeats 4000000 in
set_option maxRecDepth 100000 in
theorem kX0_clash (l : Launch) (D : va_G) (ct : CT) (ad : Nat → Nat) (Z : Nat → Nat) (G : GG) (M : DD) (sz : Nat) (a : Nat)  (y : DD × Int32) (hc : a < G.1) (hk : G.2.1 a = 0) (hF : FX0_clash G M a  = some y) : Met l yX0_clash wuX0_clash ({ frames := 0, cells := 0, slots := 0, locals := 0 }) (va_Pc [.ref (ad a)] (kB D ct ad Z G M sz)) (va_Qi (fun (q : Int32) (_ : Unit) => q = y.2) (fun _ t => kE D ct ad G (wA ad G sz) y.1 t) (wA ad G sz)) 0 0 (wA ad G sz) := by
  refine Met.ofW (cc := cX0_clash) (maxL := 1) (ret := (some .int)) (by decide) rfl ?_
  intro p e s m args below meth c s₁ B hml hv
  obtain ⟨rfl, hsz, hP, hK, hD0, hZ, hN⟩ := hv
  have hx := B.exec
  have hb := B.bytes
  have hr := B.returns
  have hts := atoms_spec (ws := wuX0_clash) B.pre
  have hown : s.vm.findClass RX0 = some m.cls := findClass_of_methodNamed B.named
  have hlocks := B.notSynchronized
  subst hsz
  have hD := wD_self (sz := s.heap.size) hD0
  have hA9 : ∀ q, s.heap.size ≤ q → wA ad G s.heap.size q := fun q h => Or.inr h
  generalize hAe : wA ad G s.heap.size = A at hD hA9 hZ ⊢
  have hS : va_S A s.heap s.heap [] := va_S.rf
  have hl := lv_entry ([.ref (ad a)]) (n := 1) (Nat.le_of_ble_eq_true rfl)
  rw [lg_entry_eq]
  generalize (lg_sl ([.ref (ad a)]) ++ List.replicate (1 - (lg_sl ([.ref (ad a)])).length) Slot.unset).toArray = ls at hl ⊢
  have hl : lv_has ls 1 [(0, .ref (ad a))] := hl
  unfold FX0_clash at hF
  refine lv_aload_n hx hb dX0_clash_0 rfl (lv_at hl 0 rfl) ?_
  refine va_get (D := D) (ci := 0) (v := va_re ad (M.2 a 0)) (C := RX0) (T := TX0) (N := 21) hx hb hts (mus hf_X0) hown hK hP a (wld_o ct ad G M hc hk (by decide)) rfl 0 (by decide) (hts (.fieldLink RX0 20 "VideoSuite$Coder" "setting" "[I") (mu mw_811)) (fun _ h9 => h9) rfl dX0_clash_1 ?_
  refine lv_iconst (v := (0 : Int32)) hx hb dX0_clash_4 (by decide) ?_
  obtain ⟨b1, ho1, hc1, hk1, hF⟩ := dr_some hF
  refine W_st (st' := [.int (0 : Int32), .ref (ad b1)]) (by rw [va_some ho1]) ?_
  obtain ⟨hvc, hF⟩ := chk_some hF
  refine va_iald hx hb hK hP b1 1 (wld_i ct ad G M hc1 hk1) rfl hvc dX0_clash_5 ?_
  obtain ⟨x2, ex2, hF⟩ := ltt_some hF
  refine lv_topi (fun zx2 ezx2 => ?_)
  obtain rfl : x2 = zx2 := ex2.trans ezx2.symm
  refine lv_aload_n hx hb dX0_clash_6 rfl (lv_at hl 0 rfl) ?_
  refine va_get (D := D) (ci := 0) (v := va_re ad (M.2 a 0)) (C := RX0) (T := TX0) (N := 21) hx hb hts (mus hf_X0) hown hK hP a (wld_o ct ad G M hc hk (by decide)) rfl 0 (by decide) (hts (.fieldLink RX0 20 "VideoSuite$Coder" "setting" "[I") (mu mw_811)) (fun _ h9 => h9) rfl dX0_clash_7 ?_
  refine lv_iconst (v := (1 : Int32)) hx hb dX0_clash_10 (by decide) ?_
  refine W_st (st' := [.int (1 : Int32), .ref (ad b1), .int x2]) (by rw [va_some ho1]) ?_
  obtain ⟨hvc, hF⟩ := chk_some hF
  refine va_iald hx hb hK hP b1 1 (wld_i ct ad G M hc1 hk1) rfl hvc dX0_clash_11 ?_
  obtain ⟨x3, ex3, hF⟩ := ltt_some hF
  refine lv_topi (fun zx3 ezx3 => ?_)
  obtain rfl : x3 = zx3 := ex3.trans ezx3.symm
  refine lv_imul hx hb dX0_clash_12 ?_
  obtain ⟨x4, ex4, hF⟩ := ltt_some hF
  refine lv_topi (fun zx4 ezx4 => ?_)
  obtain rfl : x4 = zx4 := ex4.trans ezx4.symm
  refine lv_bipush (v := (32 : Int32)) hx hb dX0_clash_13 (by decide) ?_
  refine lv_icmp_le (tgt := 20) hx hb dX0_clash_15 (by decide) (fun c5 => ?_) (fun c5 => ?_)
  · rw [if_pos c5] at hF
    refine lv_aload_n hx hb dX0_clash_20 rfl (lv_at hl 0 rfl) ?_
    refine va_get (D := D) (ci := 0) (v := va_re ad (M.2 a 0)) (C := RX0) (T := TX0) (N := 21) hx hb hts (mus hf_X0) hown hK hP a (wld_o ct ad G M hc hk (by decide)) rfl 0 (by decide) (hts (.fieldLink RX0 20 "VideoSuite$Coder" "setting" "[I") (mu mw_811)) (fun _ h9 => h9) rfl dX0_clash_21 ?_
    refine lv_bipush (v := (6 : Int32)) hx hb dX0_clash_24 (by decide) ?_
    refine W_st (st' := [.int (6 : Int32), .ref (ad b1)]) (by rw [va_some ho1]) ?_
    obtain ⟨hvc, hF⟩ := chk_some hF
    refine va_iald hx hb hK hP b1 1 (wld_i ct ad G M hc1 hk1) rfl hvc dX0_clash_26 ?_
    obtain ⟨x6, ex6, hF⟩ := ltt_some hF
    refine lv_topi (fun zx6 ezx6 => ?_)
    obtain rfl : x6 = zx6 := ex6.trans ezx6.symm
    refine lv_if_le (tgt := 54) hx hb dX0_clash_27 (by decide) (fun c7 => ?_) (fun c7 => ?_)
    · rw [if_pos c7] at hF
      refine lv_aload_n hx hb dX0_clash_54 rfl (lv_at hl 0 rfl) ?_
      refine va_get (D := D) (ci := 0) (v := va_re ad (M.2 a 0)) (C := RX0) (T := TX0) (N := 21) hx hb hts (mus hf_X0) hown hK hP a (wld_o ct ad G M hc hk (by decide)) rfl 0 (by decide) (hts (.fieldLink RX0 20 "VideoSuite$Coder" "setting" "[I") (mu mw_811)) (fun _ h9 => h9) rfl dX0_clash_55 ?_
      refine lv_bipush (v := (21 : Int32)) hx hb dX0_clash_58 (by decide) ?_
      refine W_st (st' := [.int (21 : Int32), .ref (ad b1)]) (by rw [va_some ho1]) ?_
      obtain ⟨hvc, hF⟩ := chk_some hF
      refine va_iald hx hb hK hP b1 1 (wld_i ct ad G M hc1 hk1) rfl hvc dX0_clash_60 ?_
      obtain ⟨x8, ex8, hF⟩ := ltt_some hF
      refine lv_topi (fun zx8 ezx8 => ?_)
      obtain rfl : x8 = zx8 := ex8.trans ezx8.symm
      refine lv_iconst (v := (1 : Int32)) hx hb dX0_clash_61 (by decide) ?_
      obtain ⟨y9, hy9, hF⟩ := bnd_some hF
      have J9 : ∀ (H : Heap) (locs : List Loc) (ls : Array Slot), va_P D classes (wld ct ad G M) H → va_D A (wld ct ad G M) → va_S A s.heap H locs → lv_has ls 1 [(0, .ref (ad a))] → W p l e (headSpec wuX0_clash ({ frames := 0, cells := 0, slots := 0, locals := 0 })).room s m ([.ref (ad a)] : List Value).toArray below meth c H locs 0 0 (MQ below (va_Qi (fun (q : Int32) (_ : Unit) => q = y.2) (fun _ t => kE D ct ad G A y.1 t) A) ([.ref (ad a)] : List Value).toArray s 0 0 A) (F0 m 71 ls [.int y9]) := by
        intro H locs ls hP hD hS hl
        obtain rfl := Option.some.inj hF
        exact W.iret (v := y9) hx hb hr (fun t ht hW => ⟨⟨_, (), rfl, rfl, ⟨by rw [ht]; exact hP, va_K.moved hW.alike hK, hD⟩⟩, hS.F ht⟩) hS.2.2 dX0_clash_71
      clear hF
      have hF := hy9
      clear hy9
      refine lv_icmp_ne (tgt := 70) hx hb dX0_clash_62 (by decide) (fun c10 => ?_) (fun c10 => ?_)
      · rw [if_neg c10] at hF
        refine lv_iconst (v := (-1 : Int32)) hx hb dX0_clash_70 (by decide) ?_
        obtain rfl := Option.some.inj hF
        exact J9 _ _ _ hP hD hS (lv_sub hl [0] rfl)
      · rw [if_pos c10] at hF
        refine lv_bipush (v := (21 : Int32)) hx hb dX0_clash_65 (by decide) ?_
        refine lv_goto (tgt := 71) hx hb dX0_clash_67 (by decide) ?_
        obtain rfl := Option.some.inj hF
        exact J9 _ _ _ hP hD hS (lv_sub hl [0] rfl)
    · rw [if_neg c7] at hF
      refine lv_aload_n hx hb dX0_clash_30 rfl (lv_at hl 0 rfl) ?_
      refine va_get (D := D) (ci := 0) (v := va_re ad (M.2 a 0)) (C := RX0) (T := TX0) (N := 21) hx hb hts (mus hf_X0) hown hK hP a (wld_o ct ad G M hc hk (by decide)) rfl 0 (by decide) (hts (.fieldLink RX0 20 "VideoSuite$Coder" "setting" "[I") (mu mw_811)) (fun _ h9 => h9) rfl dX0_clash_31 ?_
      refine lv_bipush (v := (7 : Int32)) hx hb dX0_clash_34 (by decide) ?_
      refine W_st (st' := [.int (7 : Int32), .ref (ad b1)]) (by rw [va_some ho1]) ?_
      obtain ⟨hvc, hF⟩ := chk_some hF
      refine va_iald hx hb hK hP b1 1 (wld_i ct ad G M hc1 hk1) rfl hvc dX0_clash_36 ?_
      obtain ⟨x11, ex11, hF⟩ := ltt_some hF
      refine lv_topi (fun zx11 ezx11 => ?_)
      obtain rfl : x11 = zx11 := ex11.trans ezx11.symm
      refine lv_iconst (v := (2 : Int32)) hx hb dX0_clash_37 (by decide) ?_
      refine lv_icmp_lt (tgt := 51) hx hb dX0_clash_38 (by decide) (fun c12 => ?_) (fun c12 => ?_)
      · rw [if_pos c12] at hF
        refine lv_bipush (v := (6 : Int32)) hx hb dX0_clash_51 (by decide) ?_
        obtain rfl := Option.some.inj hF
        exact W.iret (v := (6 : Int32)) hx hb hr (fun t ht hW => ⟨⟨_, (), rfl, rfl, ⟨by rw [ht]; exact hP, va_K.moved hW.alike hK, hD⟩⟩, hS.F ht⟩) hS.2.2 dX0_clash_53
      · rw [if_neg c12] at hF
        refine lv_aload_n hx hb dX0_clash_41 rfl (lv_at hl 0 rfl) ?_
        refine va_get (D := D) (ci := 0) (v := va_re ad (M.2 a 0)) (C := RX0) (T := TX0) (N := 21) hx hb hts (mus hf_X0) hown hK hP a (wld_o ct ad G M hc hk (by decide)) rfl 0 (by decide) (hts (.fieldLink RX0 20 "VideoSuite$Coder" "setting" "[I") (mu mw_811)) (fun _ h9 => h9) rfl dX0_clash_42 ?_
        refine lv_bipush (v := (18 : Int32)) hx hb dX0_clash_45 (by decide) ?_
        refine W_st (st' := [.int (18 : Int32), .ref (ad b1)]) (by rw [va_some ho1]) ?_
        obtain ⟨hvc, hF⟩ := chk_some hF
        refine va_iald hx hb hK hP b1 1 (wld_i ct ad G M hc1 hk1) rfl hvc dX0_clash_47 ?_
        obtain ⟨x13, ex13, hF⟩ := ltt_some hF
        refine lv_topi (fun zx13 ezx13 => ?_)
        obtain rfl : x13 = zx13 := ex13.trans ezx13.symm
        refine lv_if_eq (tgt := 54) hx hb dX0_clash_48 (by decide) (fun c14 => ?_) (fun c14 => ?_)
        · rw [if_pos c14] at hF
          refine lv_aload_n hx hb dX0_clash_54 rfl (lv_at hl 0 rfl) ?_
          refine va_get (D := D) (ci := 0) (v := va_re ad (M.2 a 0)) (C := RX0) (T := TX0) (N := 21) hx hb hts (mus hf_X0) hown hK hP a (wld_o ct ad G M hc hk (by decide)) rfl 0 (by decide) (hts (.fieldLink RX0 20 "VideoSuite$Coder" "setting" "[I") (mu mw_811)) (fun _ h9 => h9) rfl dX0_clash_55 ?_
          refine lv_bipush (v := (21 : Int32)) hx hb dX0_clash_58 (by decide) ?_
          refine W_st (st' := [.int (21 : Int32), .ref (ad b1)]) (by rw [va_some ho1]) ?_
          obtain ⟨hvc, hF⟩ := chk_some hF
          refine va_iald hx hb hK hP b1 1 (wld_i ct ad G M hc1 hk1) rfl hvc dX0_clash_60 ?_
          obtain ⟨x15, ex15, hF⟩ := ltt_some hF
          refine lv_topi (fun zx15 ezx15 => ?_)
          obtain rfl : x15 = zx15 := ex15.trans ezx15.symm
          refine lv_iconst (v := (1 : Int32)) hx hb dX0_clash_61 (by decide) ?_
          obtain ⟨y16, hy16, hF⟩ := bnd_some hF
          have J16 : ∀ (H : Heap) (locs : List Loc) (ls : Array Slot), va_P D classes (wld ct ad G M) H → va_D A (wld ct ad G M) → va_S A s.heap H locs → lv_has ls 1 [(0, .ref (ad a))] → W p l e (headSpec wuX0_clash ({ frames := 0, cells := 0, slots := 0, locals := 0 })).room s m ([.ref (ad a)] : List Value).toArray below meth c H locs 0 0 (MQ below (va_Qi (fun (q : Int32) (_ : Unit) => q = y.2) (fun _ t => kE D ct ad G A y.1 t) A) ([.ref (ad a)] : List Value).toArray s 0 0 A) (F0 m 71 ls [.int y16]) := by
            intro H locs ls hP hD hS hl
            obtain rfl := Option.some.inj hF
            exact W.iret (v := y16) hx hb hr (fun t ht hW => ⟨⟨_, (), rfl, rfl, ⟨by rw [ht]; exact hP, va_K.moved hW.alike hK, hD⟩⟩, hS.F ht⟩) hS.2.2 dX0_clash_71
          clear hF
          have hF := hy16
          clear hy16
          refine lv_icmp_ne (tgt := 70) hx hb dX0_clash_62 (by decide) (fun c17 => ?_) (fun c17 => ?_)
          · rw [if_neg c17] at hF
            refine lv_iconst (v := (-1 : Int32)) hx hb dX0_clash_70 (by decide) ?_
            obtain rfl := Option.some.inj hF
            exact J16 _ _ _ hP hD hS (lv_sub hl [0] rfl)
          · rw [if_pos c17] at hF
            refine lv_bipush (v := (21 : Int32)) hx hb dX0_clash_65 (by decide) ?_
            refine lv_goto (tgt := 71) hx hb dX0_clash_67 (by decide) ?_
            obtain rfl := Option.some.inj hF
            exact J16 _ _ _ hP hD hS (lv_sub hl [0] rfl)
        · rw [if_neg c14] at hF
          refine lv_bipush (v := (6 : Int32)) hx hb dX0_clash_51 (by decide) ?_
          obtain rfl := Option.some.inj hF
          exact W.iret (v := (6 : Int32)) hx hb hr (fun t ht hW => ⟨⟨_, (), rfl, rfl, ⟨by rw [ht]; exact hP, va_K.moved hW.alike hK, hD⟩⟩, hS.F ht⟩) hS.2.2 dX0_clash_53
  · rw [if_neg c5] at hF
    refine lv_iconst (v := (1 : Int32)) hx hb dX0_clash_18 (by decide) ?_
    obtain rfl := Option.some.inj hF
    exact W.iret (v := (1 : Int32)) hx hb hr (fun t ht hW => ⟨⟨_, (), rfl, rfl, ⟨by rw [ht]; exact hP, va_K.moved hW.alike hK, hD⟩⟩, hS.F ht⟩) hS.2.2 dX0_clash_19
theorem dX0_draw_0 : decode cX0_draw 0 = .ok (.aload_n 0, 1) := by decide +kernel
theorem dX0_draw_1 : decode cX0_draw 1 = .ok (.ldc 187, 2) := by decide +kernel
theorem dX0_draw_3 : decode cX0_draw 3 = .ok (.aload_n 0, 1) := by decide +kernel
theorem dX0_draw_4 : decode cX0_draw 4 = .ok (.getfield 113, 3) := by decide +kernel
theorem dX0_draw_7 : decode cX0_draw 7 = .ok (.imul, 1) := by decide +kernel
theorem dX0_draw_8 : decode cX0_draw 8 = .ok (.ldc 188, 2) := by decide +kernel
theorem dX0_draw_10 : decode cX0_draw 10 = .ok (.iadd, 1) := by decide +kernel
theorem dX0_draw_11 : decode cX0_draw 11 = .ok (.putfield 113, 3) := by decide +kernel
theorem dX0_draw_14 : decode cX0_draw 14 = .ok (.iload_n 1, 1) := by decide +kernel
theorem dX0_draw_15 : decode cX0_draw 15 = .ok (.iconst 1, 1) := by decide +kernel
theorem dX0_draw_16 : decode cX0_draw 16 = .ok (.if_icmp .ge 7, 3) := by decide +kernel
theorem dX0_draw_19 : decode cX0_draw 19 = .ok (.iconst 0, 1) := by decide +kernel
theorem dX0_draw_20 : decode cX0_draw 20 = .ok (.goto 12, 3) := by decide +kernel
theorem dX0_draw_23 : decode cX0_draw 23 = .ok (.aload_n 0, 1) := by decide +kernel
theorem dX0_draw_24 : decode cX0_draw 24 = .ok (.getfield 113, 3) := by decide +kernel
theorem dX0_draw_27 : decode cX0_draw 27 = .ok (.bipush 8, 2) := by decide +kernel
theorem dX0_draw_29 : decode cX0_draw 29 = .ok (.iushr, 1) := by decide +kernel
theorem dX0_draw_30 : decode cX0_draw 30 = .ok (.iload_n 1, 1) := by decide +kernel
theorem dX0_draw_31 : decode cX0_draw 31 = .ok (.irem, 1) := by decide +kernel
theorem dX0_draw_32 : decode cX0_draw 32 = .ok (.ireturn, 1) := by decide +kernel
def FX0_draw (G : GG) (M : DD) (a : Nat) (p0 : Int32) : Option (DD × Int32) :=
  ltt (M.1 a 14) fun x1 =>
  ltt ((((1664525 : Int32)) * x1)) fun x2 =>
  ltt ((x2 + ((1013904223 : Int32)))) fun x3 =>
  ltt (uI M a 14 x3) fun M4 =>
  bnd (if ((1 : Int32)) ≤ p0 then (ltt (M4.1 a 14) fun x7 =>
  ltt ((x7.toUInt32 >>> (((8 : Int32)).toUInt32 &&& Int32.toUInt32 31)).toInt32) fun x8 =>
  chk (¬ p0 = 0) <|
  ltt (x8 - x8 / p0 * p0) fun x9 =>
  some (x9)) else
  (some ((0 : Int32)))) fun (y5 : Int32) =>
  some (M4, y5)
set_option maxHeartbeats 4000000 in
set_option maxRecDepth 100000 in
theorem kX0_draw (l : Launch) (D : va_G) (ct : CT) (ad : Nat → Nat) (Z : Nat → Nat) (G : GG) (M : DD) (sz : Nat) (a : Nat) (p0 : Int32) (y : DD × Int32) (hc : a < G.1) (hk : G.2.1 a = 0) (hF : FX0_draw G M a p0 = some y) : Met l yX0_draw wuX0_draw ({ frames := 0, cells := 0, slots := 0, locals := 0 }) (va_Pc [.ref (ad a), .int p0] (kB D ct ad Z G M sz)) (va_Qi (fun (q : Int32) (_ : Unit) => q = y.2) (fun _ t => kE D ct ad G (wA ad G sz) y.1 t) (wA ad G sz)) 0 0 (wA ad G sz) := by
  refine Met.ofW (cc := cX0_draw) (maxL := 2) (ret := (some .int)) (by decide) rfl ?_
  intro p e s m args below meth c s₁ B hml hv
  obtain ⟨rfl, hsz, hP, hK, hD0, hZ, hN⟩ := hv
  have hx := B.exec
  have hb := B.bytes
  have hr := B.returns
  have hts := atoms_spec (ws := wuX0_draw) B.pre
  have hown : s.vm.findClass RX0 = some m.cls := findClass_of_methodNamed B.named
  have hlocks := B.notSynchronized
  subst hsz
  have hD := wD_self (sz := s.heap.size) hD0
  have hA9 : ∀ q, s.heap.size ≤ q → wA ad G s.heap.size q := fun q h => Or.inr h
  generalize hAe : wA ad G s.heap.size = A at hD hA9 hZ ⊢
  have hS : va_S A s.heap s.heap [] := va_S.rf
  have hl := lv_entry ([.ref (ad a), .int p0]) (n := 2) (Nat.le_of_ble_eq_true rfl)
  rw [lg_entry_eq]
  generalize (lg_sl ([.ref (ad a), .int p0]) ++ List.replicate (2 - (lg_sl ([.ref (ad a), .int p0])).length) Slot.unset).toArray = ls at hl ⊢
  have hl : lv_has ls 2 [(0, .ref (ad a)), (1, .int p0)] := hl
  unfold FX0_draw at hF
  refine lv_aload_n hx hb dX0_draw_0 rfl (lv_at hl 0 rfl) ?_
  refine lv_ldc (v := (1664525 : Int32)) hx hb hown (hts (.constant RX0 187 (1664525 : Int32)) (mu mw_2388)) dX0_draw_1 ?_
  refine lv_aload_n hx hb dX0_draw_3 rfl (lv_at hl 0 rfl) ?_
  refine va_get (D := D) (ci := 0) (v := .int (M.1 a 14)) (C := RX0) (T := TX0) (N := 21) hx hb hts (mus hf_X0) hown hK hP a (wld_o ct ad G M hc hk (by decide)) rfl 14 (by decide) (hts (.fieldLink RX0 113 "VideoSuite$Coder" "chance" "I") (mu mw_829)) (fun _ h9 => h9) rfl dX0_draw_4 ?_
  obtain ⟨x1, ex1, hF⟩ := ltt_some hF
  refine lv_topi (fun zx1 ezx1 => ?_)
  obtain rfl : x1 = zx1 := ex1.trans ezx1.symm
  refine lv_imul hx hb dX0_draw_7 ?_
  obtain ⟨x2, ex2, hF⟩ := ltt_some hF
  refine lv_topi (fun zx2 ezx2 => ?_)
  obtain rfl : x2 = zx2 := ex2.trans ezx2.symm
  refine lv_ldc (v := (1013904223 : Int32)) hx hb hown (hts (.constant RX0 188 (1013904223 : Int32)) (mu mw_2389)) dX0_draw_8 ?_
  refine lv_iadd hx hb dX0_draw_10 ?_
  obtain ⟨x3, ex3, hF⟩ := ltt_some hF
  refine lv_topi (fun zx3 ezx3 => ?_)
  obtain rfl : x3 = zx3 := ex3.trans ezx3.symm
  refine va_put (D := D) (ci := 0) (v := .int x3) (ty := .int) (C := RX0) (T := TX0) (N := 21) hx hb hts (mus hf_X0) tyX0 tyX0_ok nmX0 hown hK hP hD hS a (wld_o ct ad G M hc hk (by decide)) rfl 14 (by decide) (hts (.fieldLink RX0 113 "VideoSuite$Coder" "chance" "I") (mu mw_829)) (fun _ h9 => h9) rfl (by decide +kernel) rfl rfl (Nat.le_of_ble_eq_true rfl) dX0_draw_11 (fun H locs hP hD hS => ?_)
  obtain ⟨M4, eM4, hF⟩ := ltt_some hF
  rw [set_oI ct ad G M hc hk (by decide) (by rfl), ← eM4] at hP hD
  refine lv_iload_n hx hb dX0_draw_14 rfl (lv_at hl 1 rfl) ?_
  refine lv_iconst (v := (1 : Int32)) hx hb dX0_draw_15 (by decide) ?_
  obtain ⟨y5, hy5, hF⟩ := bnd_some hF
  have J5 : ∀ (H : Heap) (locs : List Loc) (ls : Array Slot), va_P D classes (wld ct ad G M4) H → va_D A (wld ct ad G M4) → va_S A s.heap H locs → lv_has ls 2 [(0, .ref (ad a)), (1, .int p0)] → W p l e (headSpec wuX0_draw ({ frames := 0, cells := 0, slots := 0, locals := 0 })).room s m ([.ref (ad a), .int p0] : List Value).toArray below meth c H locs 0 0 (MQ below (va_Qi (fun (q : Int32) (_ : Unit) => q = y.2) (fun _ t => kE D ct ad G A y.1 t) A) ([.ref (ad a), .int p0] : List Value).toArray s 0 0 A) (F0 m 32 ls [.int y5]) := by
    intro H locs ls hP hD hS hl
    obtain rfl := Option.some.inj hF
    exact W.iret (v := y5) hx hb hr (fun t ht hW => ⟨⟨_, (), rfl, rfl, ⟨by rw [ht]; exact hP, va_K.moved hW.alike hK, hD⟩⟩, hS.F ht⟩) hS.2.2 dX0_draw_32
  clear hF
  have hF := hy5
  clear hy5
  refine lv_icmp_ge (tgt := 23) hx hb dX0_draw_16 (by decide) (fun c6 => ?_) (fun c6 => ?_)
  · rw [if_pos c6] at hF
    refine lv_aload_n hx hb dX0_draw_23 rfl (lv_at hl 0 rfl) ?_
    refine va_get (D := D) (ci := 0) (v := .int (M4.1 a 14)) (C := RX0) (T := TX0) (N := 21) hx hb hts (mus hf_X0) hown hK hP a (wld_o ct ad G M4 hc hk (by decide)) rfl 14 (by decide) (hts (.fieldLink RX0 113 "VideoSuite$Coder" "chance" "I") (mu mw_829)) (fun _ h9 => h9) rfl dX0_draw_24 ?_
    obtain ⟨x7, ex7, hF⟩ := ltt_some hF
    refine lv_topi (fun zx7 ezx7 => ?_)
    obtain rfl : x7 = zx7 := ex7.trans ezx7.symm
    refine lv_bipush (v := (8 : Int32)) hx hb dX0_draw_27 (by decide) ?_
    refine lv_iushr (v := (x7.toUInt32 >>> (((8 : Int32)).toUInt32 &&& Int32.toUInt32 31)).toInt32) hx hb dX0_draw_29 rfl ?_
    obtain ⟨x8, ex8, hF⟩ := ltt_some hF
    refine lv_topi (fun zx8 ezx8 => ?_)
    obtain rfl : x8 = zx8 := ex8.trans ezx8.symm
    refine lv_iload_n hx hb dX0_draw_30 rfl (lv_at hl 1 rfl) ?_
    obtain ⟨hne, hF⟩ := chk_some hF
    refine lv_irem hx hb dX0_draw_31 hne ?_
    obtain ⟨x9, ex9, hF⟩ := ltt_some hF
    refine lv_topi (fun zx9 ezx9 => ?_)
    obtain rfl : x9 = zx9 := ex9.trans ezx9.symm
    obtain rfl := Option.some.inj hF
    exact J5 _ _ _ hP hD hS (lv_sub hl [0, 1] rfl)
  · rw [if_neg c6] at hF
    refine lv_iconst (v := (0 : Int32)) hx hb dX0_draw_19 (by decide) ?_
    refine lv_goto (tgt := 32) hx hb dX0_draw_20 (by decide) ?_
    obtain rfl := Option.some.inj hF
    exact J5 _ _ _ hP hD hS (lv_sub hl [0, 1] rfl)
set_option maxRecDepth 20000 in
theorem gX0_fillSets_J7_fill_53178 : GoodIn wuX0_fillSets (va_wsS RX0 144 yJ7_fill_53178 wuJ7_fill_53178) := gu_S mw_1124 mw_1125 mw_182 mw_1126
theorem dX0_fillSets_0 : decode cX0_fillSets 0 = .ok (.aload_n 0, 1) := by decide +kernel
theorem dX0_fillSets_1 : decode cX0_fillSets 1 = .ok (.getfield 61, 3) := by decide +kernel
theorem dX0_fillSets_4 : decode cX0_fillSets 4 = .ok (.iconst 0, 1) := by decide +kernel
theorem dX0_fillSets_5 : decode cX0_fillSets 5 = .ok (.invokestatic 144, 3) := by decide +kernel
theorem dX0_fillSets_8 : decode cX0_fillSets 8 = .ok (.aload_n 0, 1) := by decide +kernel
theorem dX0_fillSets_9 : decode cX0_fillSets 9 = .ok (.getfield 61, 3) := by decide +kernel
theorem dX0_fillSets_12 : decode cX0_fillSets 12 = .ok (.iconst 0, 1) := by decide +kernel
theorem dX0_fillSets_13 : decode cX0_fillSets 13 = .ok (.aload_n 0, 1) := by decide +kernel
theorem dX0_fillSets_14 : decode cX0_fillSets 14 = .ok (.getfield 23, 3) := by decide +kernel
theorem dX0_fillSets_17 : decode cX0_fillSets 17 = .ok (.iconst 0, 1) := by decide +kernel
theorem dX0_fillSets_18 : decode cX0_fillSets 18 = .ok (.iaload, 1) := by decide +kernel
theorem dX0_fillSets_19 : decode cX0_fillSets 19 = .ok (.iastore, 1) := by decide +kernel
theorem dX0_fillSets_20 : decode cX0_fillSets 20 = .ok (.aload_n 0, 1) := by decide +kernel
theorem dX0_fillSets_21 : decode cX0_fillSets 21 = .ok (.getfield 61, 3) := by decide +kernel
theorem dX0_fillSets_24 : decode cX0_fillSets 24 = .ok (.iconst 1, 1) := by decide +kernel
theorem dX0_fillSets_25 : decode cX0_fillSets 25 = .ok (.aload_n 0, 1) := by decide +kernel
theorem dX0_fillSets_26 : decode cX0_fillSets 26 = .ok (.getfield 23, 3) := by decide +kernel
theorem dX0_fillSets_29 : decode cX0_fillSets 29 = .ok (.iconst 1, 1) := by decide +kernel
theorem dX0_fillSets_30 : decode cX0_fillSets 30 = .ok (.iaload, 1) := by decide +kernel
theorem dX0_fillSets_31 : decode cX0_fillSets 31 = .ok (.iastore, 1) := by decide +kernel
theorem dX0_fillSets_32 : decode cX0_fillSets 32 = .ok (.aload_n 0, 1) := by decide +kernel
theorem dX0_fillSets_33 : decode cX0_fillSets 33 = .ok (.getfield 61, 3) := by decide +kernel
theorem dX0_fillSets_36 : decode cX0_fillSets 36 = .ok (.iconst 2, 1) := by decide +kernel
theorem dX0_fillSets_37 : decode cX0_fillSets 37 = .ok (.bipush 8, 2) := by decide +kernel
theorem dX0_fillSets_39 : decode cX0_fillSets 39 = .ok (.iastore, 1) := by decide +kernel
theorem dX0_fillSets_40 : decode cX0_fillSets 40 = .ok (.aload_n 0, 1) := by decide +kernel
theorem dX0_fillSets_41 : decode cX0_fillSets 41 = .ok (.getfield 61, 3) := by decide +kernel
theorem dX0_fillSets_44 : decode cX0_fillSets 44 = .ok (.iconst 3, 1) := by decide +kernel
theorem dX0_fillSets_45 : decode cX0_fillSets 45 = .ok (.aload_n 0, 1) := by decide +kernel
theorem dX0_fillSets_46 : decode cX0_fillSets 46 = .ok (.getfield 23, 3) := by decide +kernel
theorem dX0_fillSets_49 : decode cX0_fillSets 49 = .ok (.bipush 18, 2) := by decide +kernel
theorem dX0_fillSets_51 : decode cX0_fillSets 51 = .ok (.iaload, 1) := by decide +kernel
theorem dX0_fillSets_52 : decode cX0_fillSets 52 = .ok (.iastore, 1) := by decide +kernel
theorem dX0_fillSets_53 : decode cX0_fillSets 53 = .ok (.aload_n 0, 1) := by decide +kernel
theorem dX0_fillSets_54 : decode cX0_fillSets 54 = .ok (.getfield 61, 3) := by decide +kernel
theorem dX0_fillSets_57 : decode cX0_fillSets 57 = .ok (.iconst 4, 1) := by decide +kernel
theorem dX0_fillSets_58 : decode cX0_fillSets 58 = .ok (.bipush 8, 2) := by decide +kernel
theorem dX0_fillSets_60 : decode cX0_fillSets 60 = .ok (.iastore, 1) := by decide +kernel
theorem dX0_fillSets_61 : decode cX0_fillSets 61 = .ok (.aload_n 0, 1) := by decide +kernel
theorem dX0_fillSets_62 : decode cX0_fillSets 62 = .ok (.getfield 61, 3) := by decide +kernel
theorem dX0_fillSets_65 : decode cX0_fillSets 65 = .ok (.iconst 5, 1) := by decide +kernel
theorem dX0_fillSets_66 : decode cX0_fillSets 66 = .ok (.aload_n 0, 1) := by decide +kernel
theorem dX0_fillSets_67 : decode cX0_fillSets 67 = .ok (.getfield 23, 3) := by decide +kernel
theorem dX0_fillSets_70 : decode cX0_fillSets 70 = .ok (.bipush 7, 2) := by decide +kernel
theorem dX0_fillSets_72 : decode cX0_fillSets 72 = .ok (.iaload, 1) := by decide +kernel
theorem dX0_fillSets_73 : decode cX0_fillSets 73 = .ok (.iastore, 1) := by decide +kernel
theorem dX0_fillSets_74 : decode cX0_fillSets 74 = .ok (.aload_n 0, 1) := by decide +kernel
theorem dX0_fillSets_75 : decode cX0_fillSets 75 = .ok (.getfield 36, 3) := by decide +kernel
theorem dX0_fillSets_78 : decode cX0_fillSets 78 = .ok (.getfield 85, 3) := by decide +kernel
theorem dX0_fillSets_81 : decode cX0_fillSets 81 = .ok (.iconst 0, 1) := by decide +kernel
theorem dX0_fillSets_82 : decode cX0_fillSets 82 = .ok (.invokestatic 144, 3) := by decide +kernel
theorem dX0_fillSets_85 : decode cX0_fillSets 85 = .ok (.aload_n 0, 1) := by decide +kernel
theorem dX0_fillSets_86 : decode cX0_fillSets 86 = .ok (.getfield 36, 3) := by decide +kernel
theorem dX0_fillSets_89 : decode cX0_fillSets 89 = .ok (.getfield 85, 3) := by decide +kernel
theorem dX0_fillSets_92 : decode cX0_fillSets 92 = .ok (.iconst 1, 1) := by decide +kernel
theorem dX0_fillSets_93 : decode cX0_fillSets 93 = .ok (.aload_n 0, 1) := by decide +kernel
theorem dX0_fillSets_94 : decode cX0_fillSets 94 = .ok (.getfield 23, 3) := by decide +kernel
theorem dX0_fillSets_97 : decode cX0_fillSets 97 = .ok (.iconst 2, 1) := by decide +kernel
theorem dX0_fillSets_98 : decode cX0_fillSets 98 = .ok (.iaload, 1) := by decide +kernel
theorem dX0_fillSets_99 : decode cX0_fillSets 99 = .ok (.iastore, 1) := by decide +kernel
theorem dX0_fillSets_100 : decode cX0_fillSets 100 = .ok (.aload_n 0, 1) := by decide +kernel
theorem dX0_fillSets_101 : decode cX0_fillSets 101 = .ok (.getfield 36, 3) := by decide +kernel
theorem dX0_fillSets_104 : decode cX0_fillSets 104 = .ok (.getfield 85, 3) := by decide +kernel
theorem dX0_fillSets_107 : decode cX0_fillSets 107 = .ok (.iconst 3, 1) := by decide +kernel
theorem dX0_fillSets_108 : decode cX0_fillSets 108 = .ok (.aload_n 0, 1) := by decide +kernel
theorem dX0_fillSets_109 : decode cX0_fillSets 109 = .ok (.getfield 23, 3) := by decide +kernel
theorem dX0_fillSets_112 : decode cX0_fillSets 112 = .ok (.bipush 7, 2) := by decide +kernel
theorem dX0_fillSets_114 : decode cX0_fillSets 114 = .ok (.iaload, 1) := by decide +kernel
theorem dX0_fillSets_115 : decode cX0_fillSets 115 = .ok (.iastore, 1) := by decide +kernel
theorem dX0_fillSets_116 : decode cX0_fillSets 116 = .ok (.aload_n 0, 1) := by decide +kernel
theorem dX0_fillSets_117 : decode cX0_fillSets 117 = .ok (.getfield 36, 3) := by decide +kernel
theorem dX0_fillSets_120 : decode cX0_fillSets 120 = .ok (.getfield 85, 3) := by decide +kernel
theorem dX0_fillSets_123 : decode cX0_fillSets 123 = .ok (.iconst 4, 1) := by decide +kernel
theorem dX0_fillSets_124 : decode cX0_fillSets 124 = .ok (.iconst 1, 1) := by decide +kernel
theorem dX0_fillSets_125 : decode cX0_fillSets 125 = .ok (.iastore, 1) := by decide +kernel
theorem dX0_fillSets_126 : decode cX0_fillSets 126 = .ok (.aload_n 0, 1) := by decide +kernel
theorem dX0_fillSets_127 : decode cX0_fillSets 127 = .ok (.getfield 36, 3) := by decide +kernel
theorem dX0_fillSets_130 : decode cX0_fillSets 130 = .ok (.getfield 85, 3) := by decide +kernel
theorem dX0_fillSets_133 : decode cX0_fillSets 133 = .ok (.iconst 5, 1) := by decide +kernel
theorem dX0_fillSets_134 : decode cX0_fillSets 134 = .ok (.aload_n 0, 1) := by decide +kernel
theorem dX0_fillSets_135 : decode cX0_fillSets 135 = .ok (.getfield 23, 3) := by decide +kernel
theorem dX0_fillSets_138 : decode cX0_fillSets 138 = .ok (.bipush 20, 2) := by decide +kernel
theorem dX0_fillSets_140 : decode cX0_fillSets 140 = .ok (.iaload, 1) := by decide +kernel
theorem dX0_fillSets_141 : decode cX0_fillSets 141 = .ok (.iastore, 1) := by decide +kernel
theorem dX0_fillSets_142 : decode cX0_fillSets 142 = .ok (.aload_n 0, 1) := by decide +kernel
theorem dX0_fillSets_143 : decode cX0_fillSets 143 = .ok (.getfield 36, 3) := by decide +kernel
theorem dX0_fillSets_146 : decode cX0_fillSets 146 = .ok (.getfield 85, 3) := by decide +kernel
theorem dX0_fillSets_149 : decode cX0_fillSets 149 = .ok (.bipush 6, 2) := by decide +kernel
theorem dX0_fillSets_151 : decode cX0_fillSets 151 = .ok (.aload_n 0, 1) := by decide +kernel
theorem dX0_fillSets_152 : decode cX0_fillSets 152 = .ok (.getfield 23, 3) := by decide +kernel
theorem dX0_fillSets_155 : decode cX0_fillSets 155 = .ok (.bipush 21, 2) := by decide +kernel
theorem dX0_fillSets_157 : decode cX0_fillSets 157 = .ok (.iaload, 1) := by decide +kernel
theorem dX0_fillSets_158 : decode cX0_fillSets 158 = .ok (.iastore, 1) := by decide +kernel
theorem dX0_fillSets_159 : decode cX0_fillSets 159 = .ok (.aload_n 0, 1) := by decide +kernel
theorem dX0_fillSets_160 : decode cX0_fillSets 160 = .ok (.getfield 36, 3) := by decide +kernel
theorem dX0_fillSets_163 : decode cX0_fillSets 163 = .ok (.getfield 85, 3) := by decide +kernel
theorem dX0_fillSets_166 : decode cX0_fillSets 166 = .ok (.bipush 7, 2) := by decide +kernel
theorem dX0_fillSets_168 : decode cX0_fillSets 168 = .ok (.aload_n 0, 1) := by decide +kernel
theorem dX0_fillSets_169 : decode cX0_fillSets 169 = .ok (.getfield 23, 3) := by decide +kernel
theorem dX0_fillSets_172 : decode cX0_fillSets 172 = .ok (.iconst 3, 1) := by decide +kernel
theorem dX0_fillSets_173 : decode cX0_fillSets 173 = .ok (.iaload, 1) := by decide +kernel
theorem dX0_fillSets_174 : decode cX0_fillSets 174 = .ok (.bipush 26, 2) := by decide +kernel
theorem dX0_fillSets_176 : decode cX0_fillSets 176 = .ok (.isub, 1) := by decide +kernel
theorem dX0_fillSets_177 : decode cX0_fillSets 177 = .ok (.iastore, 1) := by decide +kernel
theorem dX0_fillSets_178 : decode cX0_fillSets 178 = .ok (.aload_n 0, 1) := by decide +kernel
theorem dX0_fillSets_179 : decode cX0_fillSets 179 = .ok (.getfield 36, 3) := by decide +kernel
theorem dX0_fillSets_182 : decode cX0_fillSets 182 = .ok (.getfield 85, 3) := by decide +kernel
theorem dX0_fillSets_185 : decode cX0_fillSets 185 = .ok (.bipush 8, 2) := by decide +kernel
theorem dX0_fillSets_187 : decode cX0_fillSets 187 = .ok (.aload_n 0, 1) := by decide +kernel
theorem dX0_fillSets_188 : decode cX0_fillSets 188 = .ok (.getfield 23, 3) := by decide +kernel
theorem dX0_fillSets_191 : decode cX0_fillSets 191 = .ok (.bipush 23, 2) := by decide +kernel
theorem dX0_fillSets_193 : decode cX0_fillSets 193 = .ok (.iaload, 1) := by decide +kernel
theorem dX0_fillSets_194 : decode cX0_fillSets 194 = .ok (.iastore, 1) := by decide +kernel
theorem dX0_fillSets_195 : decode cX0_fillSets 195 = .ok (.aload_n 0, 1) := by decide +kernel
theorem dX0_fillSets_196 : decode cX0_fillSets 196 = .ok (.getfield 36, 3) := by decide +kernel
theorem dX0_fillSets_199 : decode cX0_fillSets 199 = .ok (.getfield 85, 3) := by decide +kernel
theorem dX0_fillSets_202 : decode cX0_fillSets 202 = .ok (.bipush 9, 2) := by decide +kernel
theorem dX0_fillSets_204 : decode cX0_fillSets 204 = .ok (.iconst 1, 1) := by decide +kernel
theorem dX0_fillSets_205 : decode cX0_fillSets 205 = .ok (.iastore, 1) := by decide +kernel
theorem dX0_fillSets_206 : decode cX0_fillSets 206 = .ok (.aload_n 0, 1) := by decide +kernel
theorem dX0_fillSets_207 : decode cX0_fillSets 207 = .ok (.getfield 36, 3) := by decide +kernel
theorem dX0_fillSets_210 : decode cX0_fillSets 210 = .ok (.getfield 85, 3) := by decide +kernel
theorem dX0_fillSets_213 : decode cX0_fillSets 213 = .ok (.bipush 10, 2) := by decide +kernel
theorem dX0_fillSets_215 : decode cX0_fillSets 215 = .ok (.aload_n 0, 1) := by decide +kernel
theorem dX0_fillSets_216 : decode cX0_fillSets 216 = .ok (.getfield 23, 3) := by decide +kernel
theorem dX0_fillSets_219 : decode cX0_fillSets 219 = .ok (.bipush 19, 2) := by decide +kernel
theorem dX0_fillSets_221 : decode cX0_fillSets 221 = .ok (.iaload, 1) := by decide +kernel
theorem dX0_fillSets_222 : decode cX0_fillSets 222 = .ok (.iastore, 1) := by decide +kernel
theorem dX0_fillSets_223 : decode cX0_fillSets 223 = .ok (.return_, 1) := by decide +kernel
def FX0_fillSets (G : GG) (M : DD) (a : Nat)  : Option (DD) :=
  bnd (FJ7_fill_53178 G M ((M.2 a 7)) ((0 : Int32))) fun y1 =>
  dr G 13 ((y1.2 a 1)) fun b2 =>
  chk (¬ (((0 : Int32)) < 0 ∨ G.2.2 b2 ≤ ((0 : Int32)).toNatClampNeg)) <|
  ltt (y1.1 b2 ((0 : Int32)).toNatClampNeg) fun x3 =>
  dr G 13 ((y1.2 a 7)) fun b4 =>
  chk (¬ (((0 : Int32)) < 0 ∨ G.2.2 b4 ≤ ((0 : Int32)).toNatClampNeg)) <|
  ltt (uI y1 b4 ((0 : Int32)).toNatClampNeg x3) fun M5 =>
  dr G 13 ((M5.2 a 1)) fun b6 =>
  chk (¬ (((1 : Int32)) < 0 ∨ G.2.2 b6 ≤ ((1 : Int32)).toNatClampNeg)) <|
  ltt (M5.1 b6 ((1 : Int32)).toNatClampNeg) fun x7 =>
  dr G 13 ((M5.2 a 7)) fun b8 =>
  chk (¬ (((1 : Int32)) < 0 ∨ G.2.2 b8 ≤ ((1 : Int32)).toNatClampNeg)) <|
  ltt (uI M5 b8 ((1 : Int32)).toNatClampNeg x7) fun M9 =>
  dr G 13 ((M9.2 a 7)) fun b10 =>
  chk (¬ (((2 : Int32)) < 0 ∨ G.2.2 b10 ≤ ((2 : Int32)).toNatClampNeg)) <|
  ltt (uI M9 b10 ((2 : Int32)).toNatClampNeg ((8 : Int32))) fun M11 =>
  dr G 13 ((M11.2 a 1)) fun b12 =>
  chk (¬ (((18 : Int32)) < 0 ∨ G.2.2 b12 ≤ ((18 : Int32)).toNatClampNeg)) <|
  ltt (M11.1 b12 ((18 : Int32)).toNatClampNeg) fun x13 =>
  dr G 13 ((M11.2 a 7)) fun b14 =>
  chk (¬ (((3 : Int32)) < 0 ∨ G.2.2 b14 ≤ ((3 : Int32)).toNatClampNeg)) <|
  ltt (uI M11 b14 ((3 : Int32)).toNatClampNeg x13) fun M15 =>
  dr G 13 ((M15.2 a 7)) fun b16 =>
  chk (¬ (((4 : Int32)) < 0 ∨ G.2.2 b16 ≤ ((4 : Int32)).toNatClampNeg)) <|
  ltt (uI M15 b16 ((4 : Int32)).toNatClampNeg ((8 : Int32))) fun M17 =>
  dr G 13 ((M17.2 a 1)) fun b18 =>
  chk (¬ (((7 : Int32)) < 0 ∨ G.2.2 b18 ≤ ((7 : Int32)).toNatClampNeg)) <|
  ltt (M17.1 b18 ((7 : Int32)).toNatClampNeg) fun x19 =>
  dr G 13 ((M17.2 a 7)) fun b20 =>
  chk (¬ (((5 : Int32)) < 0 ∨ G.2.2 b20 ≤ ((5 : Int32)).toNatClampNeg)) <|
  ltt (uI M17 b20 ((5 : Int32)).toNatClampNeg x19) fun M21 =>
  dr G 9 ((M21.2 a 3)) fun b22 =>
  bnd (FJ7_fill_53178 G M21 ((M21.2 b22 2)) ((0 : Int32))) fun y23 =>
  dr G 9 ((y23.2 a 3)) fun b24 =>
  dr G 13 ((y23.2 a 1)) fun b25 =>
  chk (¬ (((2 : Int32)) < 0 ∨ G.2.2 b25 ≤ ((2 : Int32)).toNatClampNeg)) <|
  ltt (y23.1 b25 ((2 : Int32)).toNatClampNeg) fun x26 =>
  dr G 13 ((y23.2 b24 2)) fun b27 =>
  chk (¬ (((1 : Int32)) < 0 ∨ G.2.2 b27 ≤ ((1 : Int32)).toNatClampNeg)) <|
  ltt (uI y23 b27 ((1 : Int32)).toNatClampNeg x26) fun M28 =>
  dr G 9 ((M28.2 a 3)) fun b29 =>
  dr G 13 ((M28.2 a 1)) fun b30 =>
  chk (¬ (((7 : Int32)) < 0 ∨ G.2.2 b30 ≤ ((7 : Int32)).toNatClampNeg)) <|
  ltt (M28.1 b30 ((7 : Int32)).toNatClampNeg) fun x31 =>
  dr G 13 ((M28.2 b29 2)) fun b32 =>
  chk (¬ (((3 : Int32)) < 0 ∨ G.2.2 b32 ≤ ((3 : Int32)).toNatClampNeg)) <|
  ltt (uI M28 b32 ((3 : Int32)).toNatClampNeg x31) fun M33 =>
  dr G 9 ((M33.2 a 3)) fun b34 =>
  dr G 13 ((M33.2 b34 2)) fun b35 =>
  chk (¬ (((4 : Int32)) < 0 ∨ G.2.2 b35 ≤ ((4 : Int32)).toNatClampNeg)) <|
  ltt (uI M33 b35 ((4 : Int32)).toNatClampNeg ((1 : Int32))) fun M36 =>
  dr G 9 ((M36.2 a 3)) fun b37 =>
  dr G 13 ((M36.2 a 1)) fun b38 =>
  chk (¬ (((20 : Int32)) < 0 ∨ G.2.2 b38 ≤ ((20 : Int32)).toNatClampNeg)) <|
  ltt (M36.1 b38 ((20 : Int32)).toNatClampNeg) fun x39 =>
  dr G 13 ((M36.2 b37 2)) fun b40 =>
  chk (¬ (((5 : Int32)) < 0 ∨ G.2.2 b40 ≤ ((5 : Int32)).toNatClampNeg)) <|
  ltt (uI M36 b40 ((5 : Int32)).toNatClampNeg x39) fun M41 =>
  dr G 9 ((M41.2 a 3)) fun b42 =>
  dr G 13 ((M41.2 a 1)) fun b43 =>
  chk (¬ (((21 : Int32)) < 0 ∨ G.2.2 b43 ≤ ((21 : Int32)).toNatClampNeg)) <|
  ltt (M41.1 b43 ((21 : Int32)).toNatClampNeg) fun x44 =>
  dr G 13 ((M41.2 b42 2)) fun b45 =>
  chk (¬ (((6 : Int32)) < 0 ∨ G.2.2 b45 ≤ ((6 : Int32)).toNatClampNeg)) <|
  ltt (uI M41 b45 ((6 : Int32)).toNatClampNeg x44) fun M46 =>
  dr G 9 ((M46.2 a 3)) fun b47 =>
  dr G 13 ((M46.2 a 1)) fun b48 =>
  chk (¬ (((3 : Int32)) < 0 ∨ G.2.2 b48 ≤ ((3 : Int32)).toNatClampNeg)) <|
  ltt (M46.1 b48 ((3 : Int32)).toNatClampNeg) fun x49 =>
  ltt ((x49 - ((26 : Int32)))) fun x50 =>
  dr G 13 ((M46.2 b47 2)) fun b51 =>
  chk (¬ (((7 : Int32)) < 0 ∨ G.2.2 b51 ≤ ((7 : Int32)).toNatClampNeg)) <|
  ltt (uI M46 b51 ((7 : Int32)).toNatClampNeg x50) fun M52 =>
  dr G 9 ((M52.2 a 3)) fun b53 =>
  dr G 13 ((M52.2 a 1)) fun b54 =>
  chk (¬ (((23 : Int32)) < 0 ∨ G.2.2 b54 ≤ ((23 : Int32)).toNatClampNeg)) <|
  ltt (M52.1 b54 ((23 : Int32)).toNatClampNeg) fun x55 =>
  dr G 13 ((M52.2 b53 2)) fun b56 =>
  chk (¬ (((8 : Int32)) < 0 ∨ G.2.2 b56 ≤ ((8 : Int32)).toNatClampNeg)) <|
  ltt (uI M52 b56 ((8 : Int32)).toNatClampNeg x55) fun M57 =>
  dr G 9 ((M57.2 a 3)) fun b58 =>
  dr G 13 ((M57.2 b58 2)) fun b59 =>
  chk (¬ (((9 : Int32)) < 0 ∨ G.2.2 b59 ≤ ((9 : Int32)).toNatClampNeg)) <|
  ltt (uI M57 b59 ((9 : Int32)).toNatClampNeg ((1 : Int32))) fun M60 =>
  dr G 9 ((M60.2 a 3)) fun b61 =>
  dr G 13 ((M60.2 a 1)) fun b62 =>
  chk (¬ (((19 : Int32)) < 0 ∨ G.2.2 b62 ≤ ((19 : Int32)).toNatClampNeg)) <|
  ltt (M60.1 b62 ((19 : Int32)).toNatClampNeg) fun x63 =>
  dr G 13 ((M60.2 b61 2)) fun b64 =>
  chk (¬ (((10 : Int32)) < 0 ∨ G.2.2 b64 ≤ ((10 : Int32)).toNatClampNeg)) <|
  ltt (uI M60 b64 ((10 : Int32)).toNatClampNeg x63) fun M65 =>
  some M65
set_option maxHeartbeats 4000000 in
set_option maxRecDepth 100000 in
theorem kX0_fillSets (l : Launch) (D : va_G) (ct : CT) (ad : Nat → Nat) (Z : Nat → Nat) (G : GG) (M : DD) (sz : Nat) (a : Nat)  (y : DD) (hc : a < G.1) (hk : G.2.1 a = 0) (hF : FX0_fillSets G M a  = some y) : Met l yX0_fillSets wuX0_fillSets ({ frames := 1, cells := 0, slots := 0, locals := 23 }) (va_Pc [.ref (ad a)] (kB D ct ad Z G M sz)) (va_Qv (fun (_ : Unit) => True) (fun _ t => kE D ct ad G (wA ad G sz) y t) (wA ad G sz)) 0 0 (wA ad G sz) := by
  refine Met.ofW (cc := cX0_fillSets) (maxL := 1) (ret := none) (by decide) rfl ?_
  intro p e s m args below meth c s₁ B hml hv
  obtain ⟨rfl, hsz, hP, hK, hD0, hZ, hN⟩ := hv
  have hx := B.exec
  have hb := B.bytes
  have hr := B.returns
  have hts := atoms_spec (ws := wuX0_fillSets) B.pre
  have hown : s.vm.findClass RX0 = some m.cls := findClass_of_methodNamed B.named
  have hlocks := B.notSynchronized
  subst hsz
  have hD := wD_self (sz := s.heap.size) hD0
  have hA9 : ∀ q, s.heap.size ≤ q → wA ad G s.heap.size q := fun q h => Or.inr h
  generalize hAe : wA ad G s.heap.size = A at hD hA9 hZ ⊢
  have hS : va_S A s.heap s.heap [] := va_S.rf
  have hl := lv_entry ([.ref (ad a)]) (n := 1) (Nat.le_of_ble_eq_true rfl)
  rw [lg_entry_eq]
  generalize (lg_sl ([.ref (ad a)]) ++ List.replicate (1 - (lg_sl ([.ref (ad a)])).length) Slot.unset).toArray = ls at hl ⊢
  have hl : lv_has ls 1 [(0, .ref (ad a))] := hl
  unfold FX0_fillSets at hF
  refine lv_aload_n hx hb dX0_fillSets_0 rfl (lv_at hl 0 rfl) ?_
  refine va_get (D := D) (ci := 0) (v := va_re ad (M.2 a 7)) (C := RX0) (T := TX0) (N := 21) hx hb hts (mus hf_X0) hown hK hP a (wld_o ct ad G M hc hk (by decide)) rfl 7 (by decide) (hts (.fieldLink RX0 61 "VideoSuite$Coder" "sequence" "[I") (mu mw_821)) (fun _ h9 => h9) rfl dX0_fillSets_1 ?_
  refine lv_iconst (v := (0 : Int32)) hx hb dX0_fillSets_4 (by decide) ?_
  obtain ⟨y1, hy1, hF⟩ := bnd_some hF
  have hf9 := wA_in hD hA9 hS
  refine va_callv (va_runS (As := [va_re ad (M.2 a 7), .int (0 : Int32)]) (rest := []) ⟨hx, hb, hml, hown, hts⟩ (kJ7_fill_53178 l D ct ad Z G M s.heap.size ((M.2 a 7)) ((0 : Int32)) y1 hy1) (va_cwS 2 hts gX0_fillSets_J7_fill_53178 rfl rfl rfl (by decide +kernel) ⟨Nat.le_of_ble_eq_true rfl, Nat.le_of_ble_eq_true rfl⟩) ⟨fun a U g mk q => by obtain ⟨q0, q1, qP, qK, qD, qZ, qN⟩ := q; exact ⟨q0, q1, qP, va_K.moved (u := U) (U := U.calling g mk a) (Vm.Alike.refl U.vm) qK, qD, sF.moved (u := U) (U := U.calling g mk a) (Vm.Alike.refl U.vm) qZ, nF.same rfl qN⟩, fun U hU hW => ⟨rfl, by rw [hU], by rw [hU]; exact hP, va_K.moved hW.alike hK, hD.weaken (fun _ _ _ _ => trivial), by rw [hU]; exact ((hZ.kept hS.2.1).narrow hf9).moved hW.alike, hN.warm hW⟩⟩ rfl rfl hl.1 rfl (lv_room (Nat.le_of_ble_eq_true rfl)) dX0_fillSets_5 ⟨(Nat.zero_le _), (Nat.zero_le _)⟩) hS (fun q _ h => hf9 q h) hf9 (fun u t H locs ht hvm hw hB hz1 hk1 hS => ?_)
  obtain ⟨hP, hK9, hD9⟩ := hB
  rw [ht] at hP
  have hD := hD9.weaken (fun _ q _ h => hf9 q.1 h)
  refine lv_aload_n hx hb dX0_fillSets_8 rfl (lv_at hl 0 rfl) ?_
  refine va_get (D := D) (ci := 0) (v := va_re ad (y1.2 a 7)) (C := RX0) (T := TX0) (N := 21) hx hb hts (mus hf_X0) hown hK hP a (wld_o ct ad G y1 hc hk (by decide)) rfl 7 (by decide) (hts (.fieldLink RX0 61 "VideoSuite$Coder" "sequence" "[I") (mu mw_821)) (fun _ h9 => h9) rfl dX0_fillSets_9 ?_
  refine lv_iconst (v := (0 : Int32)) hx hb dX0_fillSets_12 (by decide) ?_
  refine lv_aload_n hx hb dX0_fillSets_13 rfl (lv_at hl 0 rfl) ?_
  refine va_get (D := D) (ci := 0) (v := va_re ad (y1.2 a 1)) (C := RX0) (T := TX0) (N := 21) hx hb hts (mus hf_X0) hown hK hP a (wld_o ct ad G y1 hc hk (by decide)) rfl 1 (by decide) (hts (.fieldLink RX0 23 "VideoSuite$Coder" "now" "[I") (mu mw_813)) (fun _ h9 => h9) rfl dX0_fillSets_14 ?_
  refine lv_iconst (v := (0 : Int32)) hx hb dX0_fillSets_17 (by decide) ?_
  obtain ⟨b2, ho2, hc2, hk2, hF⟩ := dr_some hF
  refine W_st (st' := [.int (0 : Int32), .ref (ad b2), .int (0 : Int32), va_re ad (y1.2 a 7)]) (by rw [va_some ho2]) ?_
  obtain ⟨hvc, hF⟩ := chk_some hF
  refine va_iald hx hb hK hP b2 1 (wld_i ct ad G y1 hc2 hk2) rfl hvc dX0_fillSets_18 ?_
  obtain ⟨x3, ex3, hF⟩ := ltt_some hF
  refine lv_topi (fun zx3 ezx3 => ?_)
  obtain rfl : x3 = zx3 := ex3.trans ezx3.symm
  obtain ⟨b4, ho4, hc4, hk4, hF⟩ := dr_some hF
  refine W_st (st' := [.int x3, .int (0 : Int32), .ref (ad b4)]) (by rw [va_some ho4]) ?_
  obtain ⟨hvc, hF⟩ := chk_some hF
  refine va_iast hx hb hK hP hD hS b4 1 (wld_i ct ad G y1 hc4 hk4) rfl hvc dX0_fillSets_19 (fun H locs hP hD hS => ?_)
  obtain ⟨M5, eM5, hF⟩ := ltt_some hF
  rw [set_i ct ad G y1 hc4 hk4, ← eM5] at hP hD
  refine lv_aload_n hx hb dX0_fillSets_20 rfl (lv_at hl 0 rfl) ?_
  refine va_get (D := D) (ci := 0) (v := va_re ad (M5.2 a 7)) (C := RX0) (T := TX0) (N := 21) hx hb hts (mus hf_X0) hown hK hP a (wld_o ct ad G M5 hc hk (by decide)) rfl 7 (by decide) (hts (.fieldLink RX0 61 "VideoSuite$Coder" "sequence" "[I") (mu mw_821)) (fun _ h9 => h9) rfl dX0_fillSets_21 ?_
  refine lv_iconst (v := (1 : Int32)) hx hb dX0_fillSets_24 (by decide) ?_
  refine lv_aload_n hx hb dX0_fillSets_25 rfl (lv_at hl 0 rfl) ?_
  refine va_get (D := D) (ci := 0) (v := va_re ad (M5.2 a 1)) (C := RX0) (T := TX0) (N := 21) hx hb hts (mus hf_X0) hown hK hP a (wld_o ct ad G M5 hc hk (by decide)) rfl 1 (by decide) (hts (.fieldLink RX0 23 "VideoSuite$Coder" "now" "[I") (mu mw_813)) (fun _ h9 => h9) rfl dX0_fillSets_26 ?_
  refine lv_iconst (v := (1 : Int32)) hx hb dX0_fillSets_29 (by decide) ?_
  obtain ⟨b6, ho6, hc6, hk6, hF⟩ := dr_some hF
  refine W_st (st' := [.int (1 : Int32), .ref (ad b6), .int (1 : Int32), va_re ad (M5.2 a 7)]) (by rw [va_some ho6]) ?_
  obtain ⟨hvc, hF⟩ := chk_some hF
  refine va_iald hx hb hK hP b6 1 (wld_i ct ad G M5 hc6 hk6) rfl hvc dX0_fillSets_30 ?_
  obtain ⟨x7, ex7, hF⟩ := ltt_some hF
  refine lv_topi (fun zx7 ezx7 => ?_)
  obtain rfl : x7 = zx7 := ex7.trans ezx7.symm
  obtain ⟨b8, ho8, hc8, hk8, hF⟩ := dr_some hF
  refine W_st (st' := [.int x7, .int (1 : Int32), .ref (ad b8)]) (by rw [va_some ho8]) ?_
  obtain ⟨hvc, hF⟩ := chk_some hF
  refine va_iast hx hb hK hP hD hS b8 1 (wld_i ct ad G M5 hc8 hk8) rfl hvc dX0_fillSets_31 (fun H locs hP hD hS => ?_)
  obtain ⟨M9, eM9, hF⟩ := ltt_some hF
  rw [set_i ct ad G M5 hc8 hk8, ← eM9] at hP hD
  refine lv_aload_n hx hb dX0_fillSets_32 rfl (lv_at hl 0 rfl) ?_
  refine va_get (D := D) (ci := 0) (v := va_re ad (M9.2 a 7)) (C := RX0) (T := TX0) (N := 21) hx hb hts (mus hf_X0) hown hK hP a (wld_o ct ad G M9 hc hk (by decide)) rfl 7 (by decide) (hts (.fieldLink RX0 61 "VideoSuite$Coder" "sequence" "[I") (mu mw_821)) (fun _ h9 => h9) rfl dX0_fillSets_33 ?_
  refine lv_iconst (v := (2 : Int32)) hx hb dX0_fillSets_36 (by decide) ?_
  refine lv_bipush (v := (8 : Int32)) hx hb dX0_fillSets_37 (by decide) ?_
  obtain ⟨b10, ho10, hc10, hk10, hF⟩ := dr_some hF
  refine W_st (st' := [.int (8 : Int32), .int (2 : Int32), .ref (ad b10)]) (by rw [va_some ho10]) ?_
  obtain ⟨hvc, hF⟩ := chk_some hF
  refine va_iast hx hb hK hP hD hS b10 1 (wld_i ct ad G M9 hc10 hk10) rfl hvc dX0_fillSets_39 (fun H locs hP hD hS => ?_)
  obtain ⟨M11, eM11, hF⟩ := ltt_some hF
  rw [set_i ct ad G M9 hc10 hk10, ← eM11] at hP hD
  refine lv_aload_n hx hb dX0_fillSets_40 rfl (lv_at hl 0 rfl) ?_
  refine va_get (D := D) (ci := 0) (v := va_re ad (M11.2 a 7)) (C := RX0) (T := TX0) (N := 21) hx hb hts (mus hf_X0) hown hK hP a (wld_o ct ad G M11 hc hk (by decide)) rfl 7 (by decide) (hts (.fieldLink RX0 61 "VideoSuite$Coder" "sequence" "[I") (mu mw_821)) (fun _ h9 => h9) rfl dX0_fillSets_41 ?_
  refine lv_iconst (v := (3 : Int32)) hx hb dX0_fillSets_44 (by decide) ?_
  refine lv_aload_n hx hb dX0_fillSets_45 rfl (lv_at hl 0 rfl) ?_
  refine va_get (D := D) (ci := 0) (v := va_re ad (M11.2 a 1)) (C := RX0) (T := TX0) (N := 21) hx hb hts (mus hf_X0) hown hK hP a (wld_o ct ad G M11 hc hk (by decide)) rfl 1 (by decide) (hts (.fieldLink RX0 23 "VideoSuite$Coder" "now" "[I") (mu mw_813)) (fun _ h9 => h9) rfl dX0_fillSets_46 ?_
  refine lv_bipush (v := (18 : Int32)) hx hb dX0_fillSets_49 (by decide) ?_
  obtain ⟨b12, ho12, hc12, hk12, hF⟩ := dr_some hF
  refine W_st (st' := [.int (18 : Int32), .ref (ad b12), .int (3 : Int32), va_re ad (M11.2 a 7)]) (by rw [va_some ho12]) ?_
  obtain ⟨hvc, hF⟩ := chk_some hF
  refine va_iald hx hb hK hP b12 1 (wld_i ct ad G M11 hc12 hk12) rfl hvc dX0_fillSets_51 ?_
  obtain ⟨x13, ex13, hF⟩ := ltt_some hF
  refine lv_topi (fun zx13 ezx13 => ?_)
  obtain rfl : x13 = zx13 := ex13.trans ezx13.symm
  obtain ⟨b14, ho14, hc14, hk14, hF⟩ := dr_some hF
  refine W_st (st' := [.int x13, .int (3 : Int32), .ref (ad b14)]) (by rw [va_some ho14]) ?_
  obtain ⟨hvc, hF⟩ := chk_some hF
  refine va_iast hx hb hK hP hD hS b14 1 (wld_i ct ad G M11 hc14 hk14) rfl hvc dX0_fillSets_52 (fun H locs hP hD hS => ?_)
  obtain ⟨M15, eM15, hF⟩ := ltt_some hF
  rw [set_i ct ad G M11 hc14 hk14, ← eM15] at hP hD
  refine lv_aload_n hx hb dX0_fillSets_53 rfl (lv_at hl 0 rfl) ?_
  refine va_get (D := D) (ci := 0) (v := va_re ad (M15.2 a 7)) (C := RX0) (T := TX0) (N := 21) hx hb hts (mus hf_X0) hown hK hP a (wld_o ct ad G M15 hc hk (by decide)) rfl 7 (by decide) (hts (.fieldLink RX0 61 "VideoSuite$Coder" "sequence" "[I") (mu mw_821)) (fun _ h9 => h9) rfl dX0_fillSets_54 ?_
  refine lv_iconst (v := (4 : Int32)) hx hb dX0_fillSets_57 (by decide) ?_
  refine lv_bipush (v := (8 : Int32)) hx hb dX0_fillSets_58 (by decide) ?_
  obtain ⟨b16, ho16, hc16, hk16, hF⟩ := dr_some hF
  refine W_st (st' := [.int (8 : Int32), .int (4 : Int32), .ref (ad b16)]) (by rw [va_some ho16]) ?_
  obtain ⟨hvc, hF⟩ := chk_some hF
  refine va_iast hx hb hK hP hD hS b16 1 (wld_i ct ad G M15 hc16 hk16) rfl hvc dX0_fillSets_60 (fun H locs hP hD hS => ?_)
  obtain ⟨M17, eM17, hF⟩ := ltt_some hF
  rw [set_i ct ad G M15 hc16 hk16, ← eM17] at hP hD
  refine lv_aload_n hx hb dX0_fillSets_61 rfl (lv_at hl 0 rfl) ?_
  refine va_get (D := D) (ci := 0) (v := va_re ad (M17.2 a 7)) (C := RX0) (T := TX0) (N := 21) hx hb hts (mus hf_X0) hown hK hP a (wld_o ct ad G M17 hc hk (by decide)) rfl 7 (by decide) (hts (.fieldLink RX0 61 "VideoSuite$Coder" "sequence" "[I") (mu mw_821)) (fun _ h9 => h9) rfl dX0_fillSets_62 ?_
  refine lv_iconst (v := (5 : Int32)) hx hb dX0_fillSets_65 (by decide) ?_
  refine lv_aload_n hx hb dX0_fillSets_66 rfl (lv_at hl 0 rfl) ?_
  refine va_get (D := D) (ci := 0) (v := va_re ad (M17.2 a 1)) (C := RX0) (T := TX0) (N := 21) hx hb hts (mus hf_X0) hown hK hP a (wld_o ct ad G M17 hc hk (by decide)) rfl 1 (by decide) (hts (.fieldLink RX0 23 "VideoSuite$Coder" "now" "[I") (mu mw_813)) (fun _ h9 => h9) rfl dX0_fillSets_67 ?_
  refine lv_bipush (v := (7 : Int32)) hx hb dX0_fillSets_70 (by decide) ?_
  obtain ⟨b18, ho18, hc18, hk18, hF⟩ := dr_some hF
  refine W_st (st' := [.int (7 : Int32), .ref (ad b18), .int (5 : Int32), va_re ad (M17.2 a 7)]) (by rw [va_some ho18]) ?_
  obtain ⟨hvc, hF⟩ := chk_some hF
  refine va_iald hx hb hK hP b18 1 (wld_i ct ad G M17 hc18 hk18) rfl hvc dX0_fillSets_72 ?_
  obtain ⟨x19, ex19, hF⟩ := ltt_some hF
  refine lv_topi (fun zx19 ezx19 => ?_)
  obtain rfl : x19 = zx19 := ex19.trans ezx19.symm
  obtain ⟨b20, ho20, hc20, hk20, hF⟩ := dr_some hF
  refine W_st (st' := [.int x19, .int (5 : Int32), .ref (ad b20)]) (by rw [va_some ho20]) ?_
  obtain ⟨hvc, hF⟩ := chk_some hF
  refine va_iast hx hb hK hP hD hS b20 1 (wld_i ct ad G M17 hc20 hk20) rfl hvc dX0_fillSets_73 (fun H locs hP hD hS => ?_)
  obtain ⟨M21, eM21, hF⟩ := ltt_some hF
  rw [set_i ct ad G M17 hc20 hk20, ← eM21] at hP hD
  refine lv_aload_n hx hb dX0_fillSets_74 rfl (lv_at hl 0 rfl) ?_
  refine va_get (D := D) (ci := 0) (v := va_re ad (M21.2 a 3)) (C := RX0) (T := TX0) (N := 21) hx hb hts (mus hf_X0) hown hK hP a (wld_o ct ad G M21 hc hk (by decide)) rfl 3 (by decide) (hts (.fieldLink RX0 36 "VideoSuite$Coder" "work" "LVideoSuite$Work;") (mu mw_817)) (fun _ h9 => h9) rfl dX0_fillSets_75 ?_
  obtain ⟨b22, ho22, hc22, hk22, hF⟩ := dr_some hF
  refine W_st (st' := [.ref (ad b22)]) (by rw [va_some ho22]) ?_
  refine va_get (D := D) (ci := 9) (v := va_re ad (M21.2 b22 2)) (C := RX9) (T := TX9) (N := 20) hx hb hts (mus hf_X9) hown hK hP b22 (wld_o ct ad G M21 hc22 hk22 (by decide)) rfl 2 (by decide) (hts (.fieldLink RX0 85 "VideoSuite$Work" "par" "[I") (mu mw_430)) (fun _ h9 => h9) rfl dX0_fillSets_78 ?_
  refine lv_iconst (v := (0 : Int32)) hx hb dX0_fillSets_81 (by decide) ?_
  obtain ⟨y23, hy23, hF⟩ := bnd_some hF
  have hf9 := wA_in hD hA9 hS
  refine va_callv (va_runS (As := [va_re ad (M21.2 b22 2), .int (0 : Int32)]) (rest := []) ⟨hx, hb, hml, hown, hts⟩ (kJ7_fill_53178 l D ct ad Z G M21 H.size ((M21.2 b22 2)) ((0 : Int32)) y23 hy23) (va_cwS 2 hts gX0_fillSets_J7_fill_53178 rfl rfl rfl (by decide +kernel) ⟨Nat.le_of_ble_eq_true rfl, Nat.le_of_ble_eq_true rfl⟩) ⟨fun a U g mk q => by obtain ⟨q0, q1, qP, qK, qD, qZ, qN⟩ := q; exact ⟨q0, q1, qP, va_K.moved (u := U) (U := U.calling g mk a) (Vm.Alike.refl U.vm) qK, qD, sF.moved (u := U) (U := U.calling g mk a) (Vm.Alike.refl U.vm) qZ, nF.same rfl qN⟩, fun U hU hW => ⟨rfl, by rw [hU], by rw [hU]; exact hP, va_K.moved hW.alike hK, hD.weaken (fun _ _ _ _ => trivial), by rw [hU]; exact ((hZ.kept hS.2.1).narrow hf9).moved hW.alike, hN.warm hW⟩⟩ rfl rfl hl.1 rfl (lv_room (Nat.le_of_ble_eq_true rfl)) dX0_fillSets_82 ⟨(Nat.zero_le _), (Nat.zero_le _)⟩) hS (fun q _ h => hf9 q h) hf9 (fun u t H locs ht hvm hw hB hz1 hk1 hS => ?_)
  obtain ⟨hP, hK9, hD9⟩ := hB
  rw [ht] at hP
  have hD := hD9.weaken (fun _ q _ h => hf9 q.1 h)
  refine lv_aload_n hx hb dX0_fillSets_85 rfl (lv_at hl 0 rfl) ?_
  refine va_get (D := D) (ci := 0) (v := va_re ad (y23.2 a 3)) (C := RX0) (T := TX0) (N := 21) hx hb hts (mus hf_X0) hown hK hP a (wld_o ct ad G y23 hc hk (by decide)) rfl 3 (by decide) (hts (.fieldLink RX0 36 "VideoSuite$Coder" "work" "LVideoSuite$Work;") (mu mw_817)) (fun _ h9 => h9) rfl dX0_fillSets_86 ?_
  obtain ⟨b24, ho24, hc24, hk24, hF⟩ := dr_some hF
  refine W_st (st' := [.ref (ad b24)]) (by rw [va_some ho24]) ?_
  refine va_get (D := D) (ci := 9) (v := va_re ad (y23.2 b24 2)) (C := RX9) (T := TX9) (N := 20) hx hb hts (mus hf_X9) hown hK hP b24 (wld_o ct ad G y23 hc24 hk24 (by decide)) rfl 2 (by decide) (hts (.fieldLink RX0 85 "VideoSuite$Work" "par" "[I") (mu mw_430)) (fun _ h9 => h9) rfl dX0_fillSets_89 ?_
  refine lv_iconst (v := (1 : Int32)) hx hb dX0_fillSets_92 (by decide) ?_
  refine lv_aload_n hx hb dX0_fillSets_93 rfl (lv_at hl 0 rfl) ?_
  refine va_get (D := D) (ci := 0) (v := va_re ad (y23.2 a 1)) (C := RX0) (T := TX0) (N := 21) hx hb hts (mus hf_X0) hown hK hP a (wld_o ct ad G y23 hc hk (by decide)) rfl 1 (by decide) (hts (.fieldLink RX0 23 "VideoSuite$Coder" "now" "[I") (mu mw_813)) (fun _ h9 => h9) rfl dX0_fillSets_94 ?_
  refine lv_iconst (v := (2 : Int32)) hx hb dX0_fillSets_97 (by decide) ?_
  obtain ⟨b25, ho25, hc25, hk25, hF⟩ := dr_some hF
  refine W_st (st' := [.int (2 : Int32), .ref (ad b25), .int (1 : Int32), va_re ad (y23.2 b24 2)]) (by rw [va_some ho25]) ?_
  obtain ⟨hvc, hF⟩ := chk_some hF
  refine va_iald hx hb hK hP b25 1 (wld_i ct ad G y23 hc25 hk25) rfl hvc dX0_fillSets_98 ?_
  obtain ⟨x26, ex26, hF⟩ := ltt_some hF
  refine lv_topi (fun zx26 ezx26 => ?_)
  obtain rfl : x26 = zx26 := ex26.trans ezx26.symm
  obtain ⟨b27, ho27, hc27, hk27, hF⟩ := dr_some hF
  refine W_st (st' := [.int x26, .int (1 : Int32), .ref (ad b27)]) (by rw [va_some ho27]) ?_
  obtain ⟨hvc, hF⟩ := chk_some hF
  refine va_iast hx hb hK hP hD hS b27 1 (wld_i ct ad G y23 hc27 hk27) rfl hvc dX0_fillSets_99 (fun H locs hP hD hS => ?_)
  obtain ⟨M28, eM28, hF⟩ := ltt_some hF
  rw [set_i ct ad G y23 hc27 hk27, ← eM28] at hP hD
  refine lv_aload_n hx hb dX0_fillSets_100 rfl (lv_at hl 0 rfl) ?_
  refine va_get (D := D) (ci := 0) (v := va_re ad (M28.2 a 3)) (C := RX0) (T := TX0) (N := 21) hx hb hts (mus hf_X0) hown hK hP a (wld_o ct ad G M28 hc hk (by decide)) rfl 3 (by decide) (hts (.fieldLink RX0 36 "VideoSuite$Coder" "work" "LVideoSuite$Work;") (mu mw_817)) (fun _ h9 => h9) rfl dX0_fillSets_101 ?_
  obtain ⟨b29, ho29, hc29, hk29, hF⟩ := dr_some hF
  refine W_st (st' := [.ref (ad b29)]) (by rw [va_some ho29]) ?_
  refine va_get (D := D) (ci := 9) (v := va_re ad (M28.2 b29 2)) (C := RX9) (T := TX9) (N := 20) hx hb hts (mus hf_X9) hown hK hP b29 (wld_o ct ad G M28 hc29 hk29 (by decide)) rfl 2 (by decide) (hts (.fieldLink RX0 85 "VideoSuite$Work" "par" "[I") (mu mw_430)) (fun _ h9 => h9) rfl dX0_fillSets_104 ?_
  refine lv_iconst (v := (3 : Int32)) hx hb dX0_fillSets_107 (by decide) ?_
  refine lv_aload_n hx hb dX0_fillSets_108 rfl (lv_at hl 0 rfl) ?_
  refine va_get (D := D) (ci := 0) (v := va_re ad (M28.2 a 1)) (C := RX0) (T := TX0) (N := 21) hx hb hts (mus hf_X0) hown hK hP a (wld_o ct ad G M28 hc hk (by decide)) rfl 1 (by decide) (hts (.fieldLink RX0 23 "VideoSuite$Coder" "now" "[I") (mu mw_813)) (fun _ h9 => h9) rfl dX0_fillSets_109 ?_
  refine lv_bipush (v := (7 : Int32)) hx hb dX0_fillSets_112 (by decide) ?_
  obtain ⟨b30, ho30, hc30, hk30, hF⟩ := dr_some hF
  refine W_st (st' := [.int (7 : Int32), .ref (ad b30), .int (3 : Int32), va_re ad (M28.2 b29 2)]) (by rw [va_some ho30]) ?_
  obtain ⟨hvc, hF⟩ := chk_some hF
  refine va_iald hx hb hK hP b30 1 (wld_i ct ad G M28 hc30 hk30) rfl hvc dX0_fillSets_114 ?_
  obtain ⟨x31, ex31, hF⟩ := ltt_some hF
  refine lv_topi (fun zx31 ezx31 => ?_)
  obtain rfl : x31 = zx31 := ex31.trans ezx31.symm
  obtain ⟨b32, ho32, hc32, hk32, hF⟩ := dr_some hF
  refine W_st (st' := [.int x31, .int (3 : Int32), .ref (ad b32)]) (by rw [va_some ho32]) ?_
  obtain ⟨hvc, hF⟩ := chk_some hF
  refine va_iast hx hb hK hP hD hS b32 1 (wld_i ct ad G M28 hc32 hk32) rfl hvc dX0_fillSets_115 (fun H locs hP hD hS => ?_)
  obtain ⟨M33, eM33, hF⟩ := ltt_some hF
  rw [set_i ct ad G M28 hc32 hk32, ← eM33] at hP hD
  refine lv_aload_n hx hb dX0_fillSets_116 rfl (lv_at hl 0 rfl) ?_
  refine va_get (D := D) (ci := 0) (v := va_re ad (M33.2 a 3)) (C := RX0) (T := TX0) (N := 21) hx hb hts (mus hf_X0) hown hK hP a (wld_o ct ad G M33 hc hk (by decide)) rfl 3 (by decide) (hts (.fieldLink RX0 36 "VideoSuite$Coder" "work" "LVideoSuite$Work;") (mu mw_817)) (fun _ h9 => h9) rfl dX0_fillSets_117 ?_
  obtain ⟨b34, ho34, hc34, hk34, hF⟩ := dr_some hF
  refine W_st (st' := [.ref (ad b34)]) (by rw [va_some ho34]) ?_
  refine va_get (D := D) (ci := 9) (v := va_re ad (M33.2 b34 2)) (C := RX9) (T := TX9) (N := 20) hx hb hts (mus hf_X9) hown hK hP b34 (wld_o ct ad G M33 hc34 hk34 (by decide)) rfl 2 (by decide) (hts (.fieldLink RX0 85 "VideoSuite$Work" "par" "[I") (mu mw_430)) (fun _ h9 => h9) rfl dX0_fillSets_120 ?_
  refine lv_iconst (v := (4 : Int32)) hx hb dX0_fillSets_123 (by decide) ?_
  refine lv_iconst (v := (1 : Int32)) hx hb dX0_fillSets_124 (by decide) ?_
  obtain ⟨b35, ho35, hc35, hk35, hF⟩ := dr_some hF
  refine W_st (st' := [.int (1 : Int32), .int (4 : Int32), .ref (ad b35)]) (by rw [va_some ho35]) ?_
  obtain ⟨hvc, hF⟩ := chk_some hF
  refine va_iast hx hb hK hP hD hS b35 1 (wld_i ct ad G M33 hc35 hk35) rfl hvc dX0_fillSets_125 (fun H locs hP hD hS => ?_)
  obtain ⟨M36, eM36, hF⟩ := ltt_some hF
  rw [set_i ct ad G M33 hc35 hk35, ← eM36] at hP hD
  refine lv_aload_n hx hb dX0_fillSets_126 rfl (lv_at hl 0 rfl) ?_
  refine va_get (D := D) (ci := 0) (v := va_re ad (M36.2 a 3)) (C := RX0) (T := TX0) (N := 21) hx hb hts (mus hf_X0) hown hK hP a (wld_o ct ad G M36 hc hk (by decide)) rfl 3 (by decide) (hts (.fieldLink RX0 36 "VideoSuite$Coder" "work" "LVideoSuite$Work;") (mu mw_817)) (fun _ h9 => h9) rfl dX0_fillSets_127 ?_
  obtain ⟨b37, ho37, hc37, hk37, hF⟩ := dr_some hF
  refine W_st (st' := [.ref (ad b37)]) (by rw [va_some ho37]) ?_
  refine va_get (D := D) (ci := 9) (v := va_re ad (M36.2 b37 2)) (C := RX9) (T := TX9) (N := 20) hx hb hts (mus hf_X9) hown hK hP b37 (wld_o ct ad G M36 hc37 hk37 (by decide)) rfl 2 (by decide) (hts (.fieldLink RX0 85 "VideoSuite$Work" "par" "[I") (mu mw_430)) (fun _ h9 => h9) rfl dX0_fillSets_130 ?_
  refine lv_iconst (v := (5 : Int32)) hx hb dX0_fillSets_133 (by decide) ?_
  refine lv_aload_n hx hb dX0_fillSets_134 rfl (lv_at hl 0 rfl) ?_
  refine va_get (D := D) (ci := 0) (v := va_re ad (M36.2 a 1)) (C := RX0) (T := TX0) (N := 21) hx hb hts (mus hf_X0) hown hK hP a (wld_o ct ad G M36 hc hk (by decide)) rfl 1 (by decide) (hts (.fieldLink RX0 23 "VideoSuite$Coder" "now" "[I") (mu mw_813)) (fun _ h9 => h9) rfl dX0_fillSets_135 ?_
  refine lv_bipush (v := (20 : Int32)) hx hb dX0_fillSets_138 (by decide) ?_
  obtain ⟨b38, ho38, hc38, hk38, hF⟩ := dr_some hF
  refine W_st (st' := [.int (20 : Int32), .ref (ad b38), .int (5 : Int32), va_re ad (M36.2 b37 2)]) (by rw [va_some ho38]) ?_
  obtain ⟨hvc, hF⟩ := chk_some hF
  refine va_iald hx hb hK hP b38 1 (wld_i ct ad G M36 hc38 hk38) rfl hvc dX0_fillSets_140 ?_
  obtain ⟨x39, ex39, hF⟩ := ltt_some hF
  refine lv_topi (fun zx39 ezx39 => ?_)
  obtain rfl : x39 = zx39 := ex39.trans ezx39.symm
  obtain ⟨b40, ho40, hc40, hk40, hF⟩ := dr_some hF
  refine W_st (st' := [.int x39, .int (5 : Int32), .ref (ad b40)]) (by rw [va_some ho40]) ?_
  obtain ⟨hvc, hF⟩ := chk_some hF
  refine va_iast hx hb hK hP hD hS b40 1 (wld_i ct ad G M36 hc40 hk40) rfl hvc dX0_fillSets_141 (fun H locs hP hD hS => ?_)
  obtain ⟨M41, eM41, hF⟩ := ltt_some hF
  rw [set_i ct ad G M36 hc40 hk40, ← eM41] at hP hD
  refine lv_aload_n hx hb dX0_fillSets_142 rfl (lv_at hl 0 rfl) ?_
  refine va_get (D := D) (ci := 0) (v := va_re ad (M41.2 a 3)) (C := RX0) (T := TX0) (N := 21) hx hb hts (mus hf_X0) hown hK hP a (wld_o ct ad G M41 hc hk (by decide)) rfl 3 (by decide) (hts (.fieldLink RX0 36 "VideoSuite$Coder" "work" "LVideoSuite$Work;") (mu mw_817)) (fun _ h9 => h9) rfl dX0_fillSets_143 ?_
  obtain ⟨b42, ho42, hc42, hk42, hF⟩ := dr_some hF
  refine W_st (st' := [.ref (ad b42)]) (by rw [va_some ho42]) ?_
  refine va_get (D := D) (ci := 9) (v := va_re ad (M41.2 b42 2)) (C := RX9) (T := TX9) (N := 20) hx hb hts (mus hf_X9) hown hK hP b42 (wld_o ct ad G M41 hc42 hk42 (by decide)) rfl 2 (by decide) (hts (.fieldLink RX0 85 "VideoSuite$Work" "par" "[I") (mu mw_430)) (fun _ h9 => h9) rfl dX0_fillSets_146 ?_
  refine lv_bipush (v := (6 : Int32)) hx hb dX0_fillSets_149 (by decide) ?_
  refine lv_aload_n hx hb dX0_fillSets_151 rfl (lv_at hl 0 rfl) ?_
  refine va_get (D := D) (ci := 0) (v := va_re ad (M41.2 a 1)) (C := RX0) (T := TX0) (N := 21) hx hb hts (mus hf_X0) hown hK hP a (wld_o ct ad G M41 hc hk (by decide)) rfl 1 (by decide) (hts (.fieldLink RX0 23 "VideoSuite$Coder" "now" "[I") (mu mw_813)) (fun _ h9 => h9) rfl dX0_fillSets_152 ?_
  refine lv_bipush (v := (21 : Int32)) hx hb dX0_fillSets_155 (by decide) ?_
  obtain ⟨b43, ho43, hc43, hk43, hF⟩ := dr_some hF
  refine W_st (st' := [.int (21 : Int32), .ref (ad b43), .int (6 : Int32), va_re ad (M41.2 b42 2)]) (by rw [va_some ho43]) ?_
  obtain ⟨hvc, hF⟩ := chk_some hF
  refine va_iald hx hb hK hP b43 1 (wld_i ct ad G M41 hc43 hk43) rfl hvc dX0_fillSets_157 ?_
  obtain ⟨x44, ex44, hF⟩ := ltt_some hF
  refine lv_topi (fun zx44 ezx44 => ?_)
  obtain rfl : x44 = zx44 := ex44.trans ezx44.symm
  obtain ⟨b45, ho45, hc45, hk45, hF⟩ := dr_some hF
  refine W_st (st' := [.int x44, .int (6 : Int32), .ref (ad b45)]) (by rw [va_some ho45]) ?_
  obtain ⟨hvc, hF⟩ := chk_some hF
  refine va_iast hx hb hK hP hD hS b45 1 (wld_i ct ad G M41 hc45 hk45) rfl hvc dX0_fillSets_158 (fun H locs hP hD hS => ?_)
  obtain ⟨M46, eM46, hF⟩ := ltt_some hF
  rw [set_i ct ad G M41 hc45 hk45, ← eM46] at hP hD
  refine lv_aload_n hx hb dX0_fillSets_159 rfl (lv_at hl 0 rfl) ?_
  refine va_get (D := D) (ci := 0) (v := va_re ad (M46.2 a 3)) (C := RX0) (T := TX0) (N := 21) hx hb hts (mus hf_X0) hown hK hP a (wld_o ct ad G M46 hc hk (by decide)) rfl 3 (by decide) (hts (.fieldLink RX0 36 "VideoSuite$Coder" "work" "LVideoSuite$Work;") (mu mw_817)) (fun _ h9 => h9) rfl dX0_fillSets_160 ?_
  obtain ⟨b47, ho47, hc47, hk47, hF⟩ := dr_some hF
  refine W_st (st' := [.ref (ad b47)]) (by rw [va_some ho47]) ?_
  refine va_get (D := D) (ci := 9) (v := va_re ad (M46.2 b47 2)) (C := RX9) (T := TX9) (N := 20) hx hb hts (mus hf_X9) hown hK hP b47 (wld_o ct ad G M46 hc47 hk47 (by decide)) rfl 2 (by decide) (hts (.fieldLink RX0 85 "VideoSuite$Work" "par" "[I") (mu mw_430)) (fun _ h9 => h9) rfl dX0_fillSets_163 ?_
  refine lv_bipush (v := (7 : Int32)) hx hb dX0_fillSets_166 (by decide) ?_
  refine lv_aload_n hx hb dX0_fillSets_168 rfl (lv_at hl 0 rfl) ?_
  refine va_get (D := D) (ci := 0) (v := va_re ad (M46.2 a 1)) (C := RX0) (T := TX0) (N := 21) hx hb hts (mus hf_X0) hown hK hP a (wld_o ct ad G M46 hc hk (by decide)) rfl 1 (by decide) (hts (.fieldLink RX0 23 "VideoSuite$Coder" "now" "[I") (mu mw_813)) (fun _ h9 => h9) rfl dX0_fillSets_169 ?_
  refine lv_iconst (v := (3 : Int32)) hx hb dX0_fillSets_172 (by decide) ?_
  obtain ⟨b48, ho48, hc48, hk48, hF⟩ := dr_some hF
  refine W_st (st' := [.int (3 : Int32), .ref (ad b48), .int (7 : Int32), va_re ad (M46.2 b47 2)]) (by rw [va_some ho48]) ?_
  obtain ⟨hvc, hF⟩ := chk_some hF
  refine va_iald hx hb hK hP b48 1 (wld_i ct ad G M46 hc48 hk48) rfl hvc dX0_fillSets_173 ?_
  obtain ⟨x49, ex49, hF⟩ := ltt_some hF
  refine lv_topi (fun zx49 ezx49 => ?_)
  obtain rfl : x49 = zx49 := ex49.trans ezx49.symm
  refine lv_bipush (v := (26 : Int32)) hx hb dX0_fillSets_174 (by decide) ?_
  refine lv_isub hx hb dX0_fillSets_176 ?_
  obtain ⟨x50, ex50, hF⟩ := ltt_some hF
  refine lv_topi (fun zx50 ezx50 => ?_)
  obtain rfl : x50 = zx50 := ex50.trans ezx50.symm
  obtain ⟨b51, ho51, hc51, hk51, hF⟩ := dr_some hF
  refine W_st (st' := [.int x50, .int (7 : Int32), .ref (ad b51)]) (by rw [va_some ho51]) ?_
  obtain ⟨hvc, hF⟩ := chk_some hF
  refine va_iast hx hb hK hP hD hS b51 1 (wld_i ct ad G M46 hc51 hk51) rfl hvc dX0_fillSets_177 (fun H locs hP hD hS => ?_)
  obtain ⟨M52, eM52, hF⟩ := ltt_some hF
  rw [set_i ct ad G M46 hc51 hk51, ← eM52] at hP hD
  refine lv_aload_n hx hb dX0_fillSets_178 rfl (lv_at hl 0 rfl) ?_
  refine va_get (D := D) (ci := 0) (v := va_re ad (M52.2 a 3)) (C := RX0) (T := TX0) (N := 21) hx hb hts (mus hf_X0) hown hK hP a (wld_o ct ad G M52 hc hk (by decide)) rfl 3 (by decide) (hts (.fieldLink RX0 36 "VideoSuite$Coder" "work" "LVideoSuite$Work;") (mu mw_817)) (fun _ h9 => h9) rfl dX0_fillSets_179 ?_
  obtain ⟨b53, ho53, hc53, hk53, hF⟩ := dr_some hF
  refine W_st (st' := [.ref (ad b53)]) (by rw [va_some ho53]) ?_
  refine va_get (D := D) (ci := 9) (v := va_re ad (M52.2 b53 2)) (C := RX9) (T := TX9) (N := 20) hx hb hts (mus hf_X9) hown hK hP b53 (wld_o ct ad G M52 hc53 hk53 (by decide)) rfl 2 (by decide) (hts (.fieldLink RX0 85 "VideoSuite$Work" "par" "[I") (mu mw_430)) (fun _ h9 => h9) rfl dX0_fillSets_182 ?_
  refine lv_bipush (v := (8 : Int32)) hx hb dX0_fillSets_185 (by decide) ?_
  refine lv_aload_n hx hb dX0_fillSets_187 rfl (lv_at hl 0 rfl) ?_
  refine va_get (D := D) (ci := 0) (v := va_re ad (M52.2 a 1)) (C := RX0) (T := TX0) (N := 21) hx hb hts (mus hf_X0) hown hK hP a (wld_o ct ad G M52 hc hk (by decide)) rfl 1 (by decide) (hts (.fieldLink RX0 23 "VideoSuite$Coder" "now" "[I") (mu mw_813)) (fun _ h9 => h9) rfl dX0_fillSets_188 ?_
  refine lv_bipush (v := (23 : Int32)) hx hb dX0_fillSets_191 (by decide) ?_
  obtain ⟨b54, ho54, hc54, hk54, hF⟩ := dr_some hF
  refine W_st (st' := [.int (23 : Int32), .ref (ad b54), .int (8 : Int32), va_re ad (M52.2 b53 2)]) (by rw [va_some ho54]) ?_
  obtain ⟨hvc, hF⟩ := chk_some hF
  refine va_iald hx hb hK hP b54 1 (wld_i ct ad G M52 hc54 hk54) rfl hvc dX0_fillSets_193 ?_
  obtain ⟨x55, ex55, hF⟩ := ltt_some hF
  refine lv_topi (fun zx55 ezx55 => ?_)
  obtain rfl : x55 = zx55 := ex55.trans ezx55.symm
  obtain ⟨b56, ho56, hc56, hk56, hF⟩ := dr_some hF
  refine W_st (st' := [.int x55, .int (8 : Int32), .ref (ad b56)]) (by rw [va_some ho56]) ?_
  obtain ⟨hvc, hF⟩ := chk_some hF
  refine va_iast hx hb hK hP hD hS b56 1 (wld_i ct ad G M52 hc56 hk56) rfl hvc dX0_fillSets_194 (fun H locs hP hD hS => ?_)
  obtain ⟨M57, eM57, hF⟩ := ltt_some hF
  rw [set_i ct ad G M52 hc56 hk56, ← eM57] at hP hD
  refine lv_aload_n hx hb dX0_fillSets_195 rfl (lv_at hl 0 rfl) ?_
  refine va_get (D := D) (ci := 0) (v := va_re ad (M57.2 a 3)) (C := RX0) (T := TX0) (N := 21) hx hb hts (mus hf_X0) hown hK hP a (wld_o ct ad G M57 hc hk (by decide)) rfl 3 (by decide) (hts (.fieldLink RX0 36 "VideoSuite$Coder" "work" "LVideoSuite$Work;") (mu mw_817)) (fun _ h9 => h9) rfl dX0_fillSets_196 ?_
  obtain ⟨b58, ho58, hc58, hk58, hF⟩ := dr_some hF
  refine W_st (st' := [.ref (ad b58)]) (by rw [va_some ho58]) ?_
  refine va_get (D := D) (ci := 9) (v := va_re ad (M57.2 b58 2)) (C := RX9) (T := TX9) (N := 20) hx hb hts (mus hf_X9) hown hK hP b58 (wld_o ct ad G M57 hc58 hk58 (by decide)) rfl 2 (by decide) (hts (.fieldLink RX0 85 "VideoSuite$Work" "par" "[I") (mu mw_430)) (fun _ h9 => h9) rfl dX0_fillSets_199 ?_
  refine lv_bipush (v := (9 : Int32)) hx hb dX0_fillSets_202 (by decide) ?_
  refine lv_iconst (v := (1 : Int32)) hx hb dX0_fillSets_204 (by decide) ?_
  obtain ⟨b59, ho59, hc59, hk59, hF⟩ := dr_some hF
  refine W_st (st' := [.int (1 : Int32), .int (9 : Int32), .ref (ad b59)]) (by rw [va_some ho59]) ?_
  obtain ⟨hvc, hF⟩ := chk_some hF
  refine va_iast hx hb hK hP hD hS b59 1 (wld_i ct ad G M57 hc59 hk59) rfl hvc dX0_fillSets_205 (fun H locs hP hD hS => ?_)
  obtain ⟨M60, eM60, hF⟩ := ltt_some hF
  rw [set_i ct ad G M57 hc59 hk59, ← eM60] at hP hD
  refine lv_aload_n hx hb dX0_fillSets_206 rfl (lv_at hl 0 rfl) ?_
  refine va_get (D := D) (ci := 0) (v := va_re ad (M60.2 a 3)) (C := RX0) (T := TX0) (N := 21) hx hb hts (mus hf_X0) hown hK hP a (wld_o ct ad G M60 hc hk (by decide)) rfl 3 (by decide) (hts (.fieldLink RX0 36 "VideoSuite$Coder" "work" "LVideoSuite$Work;") (mu mw_817)) (fun _ h9 => h9) rfl dX0_fillSets_207 ?_
  obtain ⟨b61, ho61, hc61, hk61, hF⟩ := dr_some hF
  refine W_st (st' := [.ref (ad b61)]) (by rw [va_some ho61]) ?_
  refine va_get (D := D) (ci := 9) (v := va_re ad (M60.2 b61 2)) (C := RX9) (T := TX9) (N := 20) hx hb hts (mus hf_X9) hown hK hP b61 (wld_o ct ad G M60 hc61 hk61 (by decide)) rfl 2 (by decide) (hts (.fieldLink RX0 85 "VideoSuite$Work" "par" "[I") (mu mw_430)) (fun _ h9 => h9) rfl dX0_fillSets_210 ?_
  refine lv_bipush (v := (10 : Int32)) hx hb dX0_fillSets_213 (by decide) ?_
  refine lv_aload_n hx hb dX0_fillSets_215 rfl (lv_at hl 0 rfl) ?_
  refine va_get (D := D) (ci := 0) (v := va_re ad (M60.2 a 1)) (C := RX0) (T := TX0) (N := 21) hx hb hts (mus hf_X0) hown hK hP a (wld_o ct ad G M60 hc hk (by decide)) rfl 1 (by decide) (hts (.fieldLink RX0 23 "VideoSuite$Coder" "now" "[I") (mu mw_813)) (fun _ h9 => h9) rfl dX0_fillSets_216 ?_
  refine lv_bipush (v := (19 : Int32)) hx hb dX0_fillSets_219 (by decide) ?_
  obtain ⟨b62, ho62, hc62, hk62, hF⟩ := dr_some hF
  refine W_st (st' := [.int (19 : Int32), .ref (ad b62), .int (10 : Int32), va_re ad (M60.2 b61 2)]) (by rw [va_some ho62]) ?_
  obtain ⟨hvc, hF⟩ := chk_some hF
  refine va_iald hx hb hK hP b62 1 (wld_i ct ad G M60 hc62 hk62) rfl hvc dX0_fillSets_221 ?_
  obtain ⟨x63, ex63, hF⟩ := ltt_some hF
  refine lv_topi (fun zx63 ezx63 => ?_)
  obtain rfl : x63 = zx63 := ex63.trans ezx63.symm
  obtain ⟨b64, ho64, hc64, hk64, hF⟩ := dr_some hF
  refine W_st (st' := [.int x63, .int (10 : Int32), .ref (ad b64)]) (by rw [va_some ho64]) ?_
  obtain ⟨hvc, hF⟩ := chk_some hF
  refine va_iast hx hb hK hP hD hS b64 1 (wld_i ct ad G M60 hc64 hk64) rfl hvc dX0_fillSets_222 (fun H locs hP hD hS => ?_)
  obtain ⟨M65, eM65, hF⟩ := ltt_some hF
  rw [set_i ct ad G M60 hc64 hk64, ← eM65] at hP hD
  obtain rfl := Option.some.inj hF
  exact W.vret hx hb hr (fun t ht hW => ⟨⟨(), rfl, trivial, ⟨by rw [ht]; exact hP, va_K.moved hW.alike hK, hD⟩⟩, hS.F ht⟩) hS.2.2 dX0_fillSets_223
theorem dX0_high_0 : decode cX0_high 0 = .ok (.aload_n 0, 1) := by decide +kernel
theorem dX0_high_1 : decode cX0_high 1 = .ok (.getfield 23, 3) := by decide +kernel
theorem dX0_high_4 : decode cX0_high 4 = .ok (.iconst 1, 1) := by decide +kernel
theorem dX0_high_5 : decode cX0_high 5 = .ok (.iaload, 1) := by decide +kernel
theorem dX0_high_6 : decode cX0_high 6 = .ok (.iload_n 1, 1) := by decide +kernel
theorem dX0_high_7 : decode cX0_high 7 = .ok (.ifCond .ne 8, 3) := by decide +kernel
theorem dX0_high_10 : decode cX0_high 10 = .ok (.bipush 16, 2) := by decide +kernel
theorem dX0_high_12 : decode cX0_high 12 = .ok (.goto 5, 3) := by decide +kernel
theorem dX0_high_15 : decode cX0_high 15 = .ok (.bipush 8, 2) := by decide +kernel
theorem dX0_high_17 : decode cX0_high 17 = .ok (.imul, 1) := by decide +kernel
theorem dX0_high_18 : decode cX0_high 18 = .ok (.ireturn, 1) := by decide +kernel
def FX0_high (G : GG) (M : DD) (a : Nat) (p0 : Int32) : Option (DD × Int32) :=
  dr G 13 ((M.2 a 1)) fun b1 =>
  chk (¬ (((1 : Int32)) < 0 ∨ G.2.2 b1 ≤ ((1 : Int32)).toNatClampNeg)) <|
  ltt (M.1 b1 ((1 : Int32)).toNatClampNeg) fun x2 =>
  bnd (if p0 = ((0 : Int32)) then (some ((16 : Int32))) else
  (some ((8 : Int32)))) fun (y3 : Int32) =>
  ltt ((x2 * y3)) fun x4 =>
  some (M, x4)
set_option maxHeartbeats 4000000 in
set_option maxRecDepth 100000 in
theorem kX0_high (l : Launch) (D : va_G) (ct : CT) (ad : Nat → Nat) (Z : Nat → Nat) (G : GG) (M : DD) (sz : Nat) (a : Nat) (p0 : Int32) (y : DD × Int32) (hc : a < G.1) (hk : G.2.1 a = 0) (hF : FX0_high G M a p0 = some y) : Met l yX0_high wuX0_high ({ frames := 0, cells := 0, slots := 0, locals := 0 }) (va_Pc [.ref (ad a), .int p0] (kB D ct ad Z G M sz)) (va_Qi (fun (q : Int32) (_ : Unit) => q = y.2) (fun _ t => kE D ct ad G (wA ad G sz) y.1 t) (wA ad G sz)) 0 0 (wA ad G sz) := by
  refine Met.ofW (cc := cX0_high) (maxL := 2) (ret := (some .int)) (by decide) rfl ?_
  intro p e s m args below meth c s₁ B hml hv
  obtain ⟨rfl, hsz, hP, hK, hD0, hZ, hN⟩ := hv
  have hx := B.exec
  have hb := B.bytes
  have hr := B.returns
  have hts := atoms_spec (ws := wuX0_high) B.pre
  have hown : s.vm.findClass RX0 = some m.cls := findClass_of_methodNamed B.named
  have hlocks := B.notSynchronized
  subst hsz
  have hD := wD_self (sz := s.heap.size) hD0
  have hA9 : ∀ q, s.heap.size ≤ q → wA ad G s.heap.size q := fun q h => Or.inr h
  generalize hAe : wA ad G s.heap.size = A at hD hA9 hZ ⊢
  have hS : va_S A s.heap s.heap [] := va_S.rf
  have hl := lv_entry ([.ref (ad a), .int p0]) (n := 2) (Nat.le_of_ble_eq_true rfl)
  rw [lg_entry_eq]
  generalize (lg_sl ([.ref (ad a), .int p0]) ++ List.replicate (2 - (lg_sl ([.ref (ad a), .int p0])).length) Slot.unset).toArray = ls at hl ⊢
  have hl : lv_has ls 2 [(0, .ref (ad a)), (1, .int p0)] := hl
  unfold FX0_high at hF
  refine lv_aload_n hx hb dX0_high_0 rfl (lv_at hl 0 rfl) ?_
  refine va_get (D := D) (ci := 0) (v := va_re ad (M.2 a 1)) (C := RX0) (T := TX0) (N := 21) hx hb hts (mus hf_X0) hown hK hP a (wld_o ct ad G M hc hk (by decide)) rfl 1 (by decide) (hts (.fieldLink RX0 23 "VideoSuite$Coder" "now" "[I") (mu mw_813)) (fun _ h9 => h9) rfl dX0_high_1 ?_
  refine lv_iconst (v := (1 : Int32)) hx hb dX0_high_4 (by decide) ?_
  obtain ⟨b1, ho1, hc1, hk1, hF⟩ := dr_some hF
  refine W_st (st' := [.int (1 : Int32), .ref (ad b1)]) (by rw [va_some ho1]) ?_
  obtain ⟨hvc, hF⟩ := chk_some hF
  refine va_iald hx hb hK hP b1 1 (wld_i ct ad G M hc1 hk1) rfl hvc dX0_high_5 ?_
  obtain ⟨x2, ex2, hF⟩ := ltt_some hF
  refine lv_topi (fun zx2 ezx2 => ?_)
  obtain rfl : x2 = zx2 := ex2.trans ezx2.symm
  refine lv_iload_n hx hb dX0_high_6 rfl (lv_at hl 1 rfl) ?_
  obtain ⟨y3, hy3, hF⟩ := bnd_some hF
  have J3 : ∀ (H : Heap) (locs : List Loc) (ls : Array Slot), va_P D classes (wld ct ad G M) H → va_D A (wld ct ad G M) → va_S A s.heap H locs → lv_has ls 2 [(0, .ref (ad a)), (1, .int p0)] → W p l e (headSpec wuX0_high ({ frames := 0, cells := 0, slots := 0, locals := 0 })).room s m ([.ref (ad a), .int p0] : List Value).toArray below meth c H locs 0 0 (MQ below (va_Qi (fun (q : Int32) (_ : Unit) => q = y.2) (fun _ t => kE D ct ad G A y.1 t) A) ([.ref (ad a), .int p0] : List Value).toArray s 0 0 A) (F0 m 17 ls [.int y3, .int x2]) := by
    intro H locs ls hP hD hS hl
    refine lv_imul hx hb dX0_high_17 ?_
    obtain ⟨x4, ex4, hF⟩ := ltt_some hF
    refine lv_topi (fun zx4 ezx4 => ?_)
    obtain rfl : x4 = zx4 := ex4.trans ezx4.symm
    obtain rfl := Option.some.inj hF
    exact W.iret (v := x4) hx hb hr (fun t ht hW => ⟨⟨_, (), rfl, rfl, ⟨by rw [ht]; exact hP, va_K.moved hW.alike hK, hD⟩⟩, hS.F ht⟩) hS.2.2 dX0_high_18
  clear hF
  have hF := hy3
  clear hy3
  refine lv_if_ne (tgt := 15) hx hb dX0_high_7 (by decide) (fun c5 => ?_) (fun c5 => ?_)
  · rw [if_neg c5] at hF
    refine lv_bipush (v := (8 : Int32)) hx hb dX0_high_15 (by decide) ?_
    obtain rfl := Option.some.inj hF
    exact J3 _ _ _ hP hD hS (lv_sub hl [0, 1] rfl)
  · rw [if_pos c5] at hF
    refine lv_bipush (v := (16 : Int32)) hx hb dX0_high_10 (by decide) ?_
    refine lv_goto (tgt := 17) hx hb dX0_high_12 (by decide) ?_
    obtain rfl := Option.some.inj hF
    exact J3 _ _ _ hP hD hS (lv_sub hl [0, 1] rfl)
theorem dX0_isOpen_0 : decode cX0_isOpen 0 = .ok (.aload_n 0, 1) := by decide +kernel
theorem dX0_isOpen_1 : decode cX0_isOpen 1 = .ok (.getfield 23, 3) := by decide +kernel
theorem dX0_isOpen_4 : decode cX0_isOpen 4 = .ok (.iconst 0, 1) := by decide +kernel
theorem dX0_isOpen_5 : decode cX0_isOpen 5 = .ok (.iaload, 1) := by decide +kernel
theorem dX0_isOpen_6 : decode cX0_isOpen 6 = .ok (.ifCond .le 7, 3) := by decide +kernel
theorem dX0_isOpen_9 : decode cX0_isOpen 9 = .ok (.iconst 1, 1) := by decide +kernel
theorem dX0_isOpen_10 : decode cX0_isOpen 10 = .ok (.goto 4, 3) := by decide +kernel
theorem dX0_isOpen_13 : decode cX0_isOpen 13 = .ok (.iconst 0, 1) := by decide +kernel
theorem dX0_isOpen_14 : decode cX0_isOpen 14 = .ok (.ireturn, 1) := by decide +kernel
def FX0_isOpen (G : GG) (M : DD) (a : Nat)  : Option (DD × Int32) :=
  dr G 13 ((M.2 a 1)) fun b1 =>
  chk (¬ (((0 : Int32)) < 0 ∨ G.2.2 b1 ≤ ((0 : Int32)).toNatClampNeg)) <|
  ltt (M.1 b1 ((0 : Int32)).toNatClampNeg) fun x2 =>
  bnd (if x2 ≤ ((0 : Int32)) then (some ((0 : Int32))) else
  (some ((1 : Int32)))) fun (y3 : Int32) =>
  chk (y3 = 0 ∨ y3 = 1) <|
  some (M, y3)
set_option maxHeartbeats 4000000 in
set_option maxRecDepth 100000 in
theorem kX0_isOpen (l : Launch) (D : va_G) (ct : CT) (ad : Nat → Nat) (Z : Nat → Nat) (G : GG) (M : DD) (sz : Nat) (a : Nat)  (y : DD × Int32) (hc : a < G.1) (hk : G.2.1 a = 0) (hF : FX0_isOpen G M a  = some y) : Met l yX0_isOpen wuX0_isOpen ({ frames := 0, cells := 0, slots := 0, locals := 0 }) (va_Pc [.ref (ad a)] (kB D ct ad Z G M sz)) (va_Qi (fun (q : Int32) (_ : Unit) => q = y.2) (fun _ t => kE D ct ad G (wA ad G sz) y.1 t) (wA ad G sz)) 0 0 (wA ad G sz) := by
  refine Met.ofW (cc := cX0_isOpen) (maxL := 1) (ret := (some .boolean)) (by decide) rfl ?_
  intro p e s m args below meth c s₁ B hml hv
  obtain ⟨rfl, hsz, hP, hK, hD0, hZ, hN⟩ := hv
  have hx := B.exec
  have hb := B.bytes
  have hr := B.returns
  have hts := atoms_spec (ws := wuX0_isOpen) B.pre
  have hown : s.vm.findClass RX0 = some m.cls := findClass_of_methodNamed B.named
  have hlocks := B.notSynchronized
  subst hsz
  have hD := wD_self (sz := s.heap.size) hD0
  have hA9 : ∀ q, s.heap.size ≤ q → wA ad G s.heap.size q := fun q h => Or.inr h
  generalize hAe : wA ad G s.heap.size = A at hD hA9 hZ ⊢
  have hS : va_S A s.heap s.heap [] := va_S.rf
  have hl := lv_entry ([.ref (ad a)]) (n := 1) (Nat.le_of_ble_eq_true rfl)
  rw [lg_entry_eq]
  generalize (lg_sl ([.ref (ad a)]) ++ List.replicate (1 - (lg_sl ([.ref (ad a)])).length) Slot.unset).toArray = ls at hl ⊢
  have hl : lv_has ls 1 [(0, .ref (ad a))] := hl
  unfold FX0_isOpen at hF
  refine lv_aload_n hx hb dX0_isOpen_0 rfl (lv_at hl 0 rfl) ?_
  refine va_get (D := D) (ci := 0) (v := va_re ad (M.2 a 1)) (C := RX0) (T := TX0) (N := 21) hx hb hts (mus hf_X0) hown hK hP a (wld_o ct ad G M hc hk (by decide)) rfl 1 (by decide) (hts (.fieldLink RX0 23 "VideoSuite$Coder" "now" "[I") (mu mw_813)) (fun _ h9 => h9) rfl dX0_isOpen_1 ?_
  refine lv_iconst (v := (0 : Int32)) hx hb dX0_isOpen_4 (by decide) ?_
  obtain ⟨b1, ho1, hc1, hk1, hF⟩ := dr_some hF
  refine W_st (st' := [.int (0 : Int32), .ref (ad b1)]) (by rw [va_some ho1]) ?_
  obtain ⟨hvc, hF⟩ := chk_some hF
  refine va_iald hx hb hK hP b1 1 (wld_i ct ad G M hc1 hk1) rfl hvc dX0_isOpen_5 ?_
  obtain ⟨x2, ex2, hF⟩ := ltt_some hF
  refine lv_topi (fun zx2 ezx2 => ?_)
  obtain rfl : x2 = zx2 := ex2.trans ezx2.symm
  obtain ⟨y3, hy3, hF⟩ := bnd_some hF
  have J3 : ∀ (H : Heap) (locs : List Loc) (ls : Array Slot), va_P D classes (wld ct ad G M) H → va_D A (wld ct ad G M) → va_S A s.heap H locs → lv_has ls 1 [(0, .ref (ad a))] → W p l e (headSpec wuX0_isOpen ({ frames := 0, cells := 0, slots := 0, locals := 0 })).room s m ([.ref (ad a)] : List Value).toArray below meth c H locs 0 0 (MQ below (va_Qi (fun (q : Int32) (_ : Unit) => q = y.2) (fun _ t => kE D ct ad G A y.1 t) A) ([.ref (ad a)] : List Value).toArray s 0 0 A) (F0 m 14 ls [.int y3]) := by
    intro H locs ls hP hD hS hl
    obtain ⟨hz9, hF⟩ := chk_some hF
    obtain rfl := Option.some.inj hF
    exact W.zret (v := y3) (ty := .boolean) hx hb hr (nar_z hz9).1 (fun t ht hW => ⟨⟨_, (), rfl, rfl, ⟨by rw [ht]; exact hP, va_K.moved hW.alike hK, hD⟩⟩, hS.F ht⟩) hS.2.2 dX0_isOpen_14
  clear hF
  have hF := hy3
  clear hy3
  refine lv_if_le (tgt := 13) hx hb dX0_isOpen_6 (by decide) (fun c4 => ?_) (fun c4 => ?_)
  · rw [if_pos c4] at hF
    refine lv_iconst (v := (0 : Int32)) hx hb dX0_isOpen_13 (by decide) ?_
    obtain rfl := Option.some.inj hF
    exact J3 _ _ _ hP hD hS (lv_sub hl [0] rfl)
  · rw [if_neg c4] at hF
    refine lv_iconst (v := (1 : Int32)) hx hb dX0_isOpen_9 (by decide) ?_
    refine lv_goto (tgt := 14) hx hb dX0_isOpen_10 (by decide) ?_
    obtain rfl := Option.some.inj hF
    exact J3 _ _ _ hP hD hS (lv_sub hl [0] rfl)
theorem dX0_isSkipped_0 : decode cX0_isSkipped 0 = .ok (.aload_n 0, 1) := by decide +kernel
theorem dX0_isSkipped_1 : decode cX0_isSkipped 1 = .ok (.getfield 36, 3) := by decide +kernel
theorem dX0_isSkipped_4 : decode cX0_isSkipped 4 = .ok (.getfield 216, 3) := by decide +kernel
theorem dX0_isSkipped_7 : decode cX0_isSkipped 7 = .ok (.bipush 8, 2) := by decide +kernel
theorem dX0_isSkipped_9 : decode cX0_isSkipped 9 = .ok (.iload_n 1, 1) := by decide +kernel
theorem dX0_isSkipped_10 : decode cX0_isSkipped 10 = .ok (.imul, 1) := by decide +kernel
theorem dX0_isSkipped_11 : decode cX0_isSkipped 11 = .ok (.iconst 0, 1) := by decide +kernel
theorem dX0_isSkipped_12 : decode cX0_isSkipped 12 = .ok (.iadd, 1) := by decide +kernel
theorem dX0_isSkipped_13 : decode cX0_isSkipped 13 = .ok (.iaload, 1) := by decide +kernel
theorem dX0_isSkipped_14 : decode cX0_isSkipped 14 = .ok (.iconst 3, 1) := by decide +kernel
theorem dX0_isSkipped_15 : decode cX0_isSkipped 15 = .ok (.if_icmp .ne 24, 3) := by decide +kernel
theorem dX0_isSkipped_18 : decode cX0_isSkipped 18 = .ok (.aload_n 0, 1) := by decide +kernel
theorem dX0_isSkipped_19 : decode cX0_isSkipped 19 = .ok (.getfield 36, 3) := by decide +kernel
theorem dX0_isSkipped_22 : decode cX0_isSkipped 22 = .ok (.getfield 216, 3) := by decide +kernel
theorem dX0_isSkipped_25 : decode cX0_isSkipped 25 = .ok (.bipush 8, 2) := by decide +kernel
theorem dX0_isSkipped_27 : decode cX0_isSkipped 27 = .ok (.iload_n 1, 1) := by decide +kernel
theorem dX0_isSkipped_28 : decode cX0_isSkipped 28 = .ok (.imul, 1) := by decide +kernel
theorem dX0_isSkipped_29 : decode cX0_isSkipped 29 = .ok (.iconst 1, 1) := by decide +kernel
theorem dX0_isSkipped_30 : decode cX0_isSkipped 30 = .ok (.iadd, 1) := by decide +kernel
theorem dX0_isSkipped_31 : decode cX0_isSkipped 31 = .ok (.iaload, 1) := by decide +kernel
theorem dX0_isSkipped_32 : decode cX0_isSkipped 32 = .ok (.ifCond .ge 7, 3) := by decide +kernel
theorem dX0_isSkipped_35 : decode cX0_isSkipped 35 = .ok (.iconst 1, 1) := by decide +kernel
theorem dX0_isSkipped_36 : decode cX0_isSkipped 36 = .ok (.goto 4, 3) := by decide +kernel
theorem dX0_isSkipped_39 : decode cX0_isSkipped 39 = .ok (.iconst 0, 1) := by decide +kernel
theorem dX0_isSkipped_40 : decode cX0_isSkipped 40 = .ok (.ireturn, 1) := by decide +kernel
def FX0_isSkipped (G : GG) (M : DD) (a : Nat) (p0 : Int32) : Option (DD × Int32) :=
  dr G 9 ((M.2 a 3)) fun b1 =>
  ltt ((((8 : Int32)) * p0)) fun x2 =>
  ltt ((x2 + ((0 : Int32)))) fun x3 =>
  dr G 13 ((M.2 b1 6)) fun b4 =>
  chk (¬ (x3 < 0 ∨ G.2.2 b4 ≤ x3.toNatClampNeg)) <|
  ltt (M.1 b4 x3.toNatClampNeg) fun x5 =>
  bnd (if x5 = ((3 : Int32)) then (ltt ((((8 : Int32)) * p0)) fun x8 =>
  ltt ((x8 + ((1 : Int32)))) fun x9 =>
  chk (¬ (x9 < 0 ∨ G.2.2 b4 ≤ x9.toNatClampNeg)) <|
  ltt (M.1 b4 x9.toNatClampNeg) fun x10 =>
  bnd (if ((0 : Int32)) ≤ x10 then (some ((0 : Int32))) else
  (some ((1 : Int32)))) fun (y11 : Int32) =>
  some (y11)) else
  (some ((0 : Int32)))) fun (y6 : Int32) =>
  chk (y6 = 0 ∨ y6 = 1) <|
  some (M, y6)
set_option maxHeartbeats 4000000 in
set_option maxRecDepth 100000 in
theorem kX0_isSkipped (l : Launch) (D : va_G) (ct : CT) (ad : Nat → Nat) (Z : Nat → Nat) (G : GG) (M : DD) (sz : Nat) (a : Nat) (p0 : Int32) (y : DD × Int32) (hc : a < G.1) (hk : G.2.1 a = 0) (hF : FX0_isSkipped G M a p0 = some y) : Met l yX0_isSkipped wuX0_isSkipped ({ frames := 0, cells := 0, slots := 0, locals := 0 }) (va_Pc [.ref (ad a), .int p0] (kB D ct ad Z G M sz)) (va_Qi (fun (q : Int32) (_ : Unit) => q = y.2) (fun _ t => kE D ct ad G (wA ad G sz) y.1 t) (wA ad G sz)) 0 0 (wA ad G sz) := by
  refine Met.ofW (cc := cX0_isSkipped) (maxL := 2) (ret := (some .boolean)) (by decide) rfl ?_
  intro p e s m args below meth c s₁ B hml hv
  obtain ⟨rfl, hsz, hP, hK, hD0, hZ, hN⟩ := hv
  have hx := B.exec
  have hb := B.bytes
  have hr := B.returns
  have hts := atoms_spec (ws := wuX0_isSkipped) B.pre
  have hown : s.vm.findClass RX0 = some m.cls := findClass_of_methodNamed B.named
  have hlocks := B.notSynchronized
  subst hsz
  have hD := wD_self (sz := s.heap.size) hD0
  have hA9 : ∀ q, s.heap.size ≤ q → wA ad G s.heap.size q := fun q h => Or.inr h
  generalize hAe : wA ad G s.heap.size = A at hD hA9 hZ ⊢
  have hS : va_S A s.heap s.heap [] := va_S.rf
  have hl := lv_entry ([.ref (ad a), .int p0]) (n := 2) (Nat.le_of_ble_eq_true rfl)
  rw [lg_entry_eq]
  generalize (lg_sl ([.ref (ad a), .int p0]) ++ List.replicate (2 - (lg_sl ([.ref (ad a), .int p0])).length) Slot.unset).toArray = ls at hl ⊢
  have hl : lv_has ls 2 [(0, .ref (ad a)), (1, .int p0)] := hl
  unfold FX0_isSkipped at hF
  refine lv_aload_n hx hb dX0_isSkipped_0 rfl (lv_at hl 0 rfl) ?_
  refine va_get (D := D) (ci := 0) (v := va_re ad (M.2 a 3)) (C := RX0) (T := TX0) (N := 21) hx hb hts (mus hf_X0) hown hK hP a (wld_o ct ad G M hc hk (by decide)) rfl 3 (by decide) (hts (.fieldLink RX0 36 "VideoSuite$Coder" "work" "LVideoSuite$Work;") (mu mw_817)) (fun _ h9 => h9) rfl dX0_isSkipped_1 ?_
  obtain ⟨b1, ho1, hc1, hk1, hF⟩ := dr_some hF
  refine W_st (st' := [.ref (ad b1)]) (by rw [va_some ho1]) ?_
  refine va_get (D := D) (ci := 9) (v := va_re ad (M.2 b1 6)) (C := RX9) (T := TX9) (N := 20) hx hb hts (mus hf_X9) hown hK hP b1 (wld_o ct ad G M hc1 hk1 (by decide)) rfl 6 (by decide) (hts (.fieldLink RX0 216 "VideoSuite$Work" "info" "[I") (mu mw_445)) (fun _ h9 => h9) rfl dX0_isSkipped_4 ?_
  refine lv_bipush (v := (8 : Int32)) hx hb dX0_isSkipped_7 (by decide) ?_
  refine lv_iload_n hx hb dX0_isSkipped_9 rfl (lv_at hl 1 rfl) ?_
  refine lv_imul hx hb dX0_isSkipped_10 ?_
  obtain ⟨x2, ex2, hF⟩ := ltt_some hF
  refine lv_topi (fun zx2 ezx2 => ?_)
  obtain rfl : x2 = zx2 := ex2.trans ezx2.symm
  refine lv_iconst (v := (0 : Int32)) hx hb dX0_isSkipped_11 (by decide) ?_
  refine lv_iadd hx hb dX0_isSkipped_12 ?_
  obtain ⟨x3, ex3, hF⟩ := ltt_some hF
  refine lv_topi (fun zx3 ezx3 => ?_)
  obtain rfl : x3 = zx3 := ex3.trans ezx3.symm
  obtain ⟨b4, ho4, hc4, hk4, hF⟩ := dr_some hF
  refine W_st (st' := [.int x3, .ref (ad b4)]) (by rw [va_some ho4]) ?_
  obtain ⟨hvc, hF⟩ := chk_some hF
  refine va_iald hx hb hK hP b4 1 (wld_i ct ad G M hc4 hk4) rfl hvc dX0_isSkipped_13 ?_
  obtain ⟨x5, ex5, hF⟩ := ltt_some hF
  refine lv_topi (fun zx5 ezx5 => ?_)
  obtain rfl : x5 = zx5 := ex5.trans ezx5.symm
  refine lv_iconst (v := (3 : Int32)) hx hb dX0_isSkipped_14 (by decide) ?_
  obtain ⟨y6, hy6, hF⟩ := bnd_some hF
  have J6 : ∀ (H : Heap) (locs : List Loc) (ls : Array Slot), va_P D classes (wld ct ad G M) H → va_D A (wld ct ad G M) → va_S A s.heap H locs → lv_has ls 2 [(0, .ref (ad a)), (1, .int p0)] → W p l e (headSpec wuX0_isSkipped ({ frames := 0, cells := 0, slots := 0, locals := 0 })).room s m ([.ref (ad a), .int p0] : List Value).toArray below meth c H locs 0 0 (MQ below (va_Qi (fun (q : Int32) (_ : Unit) => q = y.2) (fun _ t => kE D ct ad G A y.1 t) A) ([.ref (ad a), .int p0] : List Value).toArray s 0 0 A) (F0 m 40 ls [.int y6]) := by
    intro H locs ls hP hD hS hl
    obtain ⟨hz9, hF⟩ := chk_some hF
    obtain rfl := Option.some.inj hF
    exact W.zret (v := y6) (ty := .boolean) hx hb hr (nar_z hz9).1 (fun t ht hW => ⟨⟨_, (), rfl, rfl, ⟨by rw [ht]; exact hP, va_K.moved hW.alike hK, hD⟩⟩, hS.F ht⟩) hS.2.2 dX0_isSkipped_40
  clear hF
  have hF := hy6
  clear hy6
  refine lv_icmp_ne (tgt := 39) hx hb dX0_isSkipped_15 (by decide) (fun c7 => ?_) (fun c7 => ?_)
  · rw [if_neg c7] at hF
    refine lv_iconst (v := (0 : Int32)) hx hb dX0_isSkipped_39 (by decide) ?_
    obtain rfl := Option.some.inj hF
    exact J6 _ _ _ hP hD hS (lv_sub hl [0, 1] rfl)
  · rw [if_pos c7] at hF
    refine lv_aload_n hx hb dX0_isSkipped_18 rfl (lv_at hl 0 rfl) ?_
    refine va_get (D := D) (ci := 0) (v := va_re ad (M.2 a 3)) (C := RX0) (T := TX0) (N := 21) hx hb hts (mus hf_X0) hown hK hP a (wld_o ct ad G M hc hk (by decide)) rfl 3 (by decide) (hts (.fieldLink RX0 36 "VideoSuite$Coder" "work" "LVideoSuite$Work;") (mu mw_817)) (fun _ h9 => h9) rfl dX0_isSkipped_19 ?_
    refine W_st (st' := [.ref (ad b1)]) (by rw [va_some ho1]) ?_
    refine va_get (D := D) (ci := 9) (v := va_re ad (M.2 b1 6)) (C := RX9) (T := TX9) (N := 20) hx hb hts (mus hf_X9) hown hK hP b1 (wld_o ct ad G M hc1 hk1 (by decide)) rfl 6 (by decide) (hts (.fieldLink RX0 216 "VideoSuite$Work" "info" "[I") (mu mw_445)) (fun _ h9 => h9) rfl dX0_isSkipped_22 ?_
    refine lv_bipush (v := (8 : Int32)) hx hb dX0_isSkipped_25 (by decide) ?_
    refine lv_iload_n hx hb dX0_isSkipped_27 rfl (lv_at hl 1 rfl) ?_
    refine lv_imul hx hb dX0_isSkipped_28 ?_
    obtain ⟨x8, ex8, hF⟩ := ltt_some hF
    refine lv_topi (fun zx8 ezx8 => ?_)
    obtain rfl : x8 = zx8 := ex8.trans ezx8.symm
    refine lv_iconst (v := (1 : Int32)) hx hb dX0_isSkipped_29 (by decide) ?_
    refine lv_iadd hx hb dX0_isSkipped_30 ?_
    obtain ⟨x9, ex9, hF⟩ := ltt_some hF
    refine lv_topi (fun zx9 ezx9 => ?_)
    obtain rfl : x9 = zx9 := ex9.trans ezx9.symm
    refine W_st (st' := [.int x9, .ref (ad b4)]) (by rw [va_some ho4]) ?_
    obtain ⟨hvc, hF⟩ := chk_some hF
    refine va_iald hx hb hK hP b4 1 (wld_i ct ad G M hc4 hk4) rfl hvc dX0_isSkipped_31 ?_
    obtain ⟨x10, ex10, hF⟩ := ltt_some hF
    refine lv_topi (fun zx10 ezx10 => ?_)
    obtain rfl : x10 = zx10 := ex10.trans ezx10.symm
    obtain ⟨y11, hy11, hF⟩ := bnd_some hF
    have J11 : ∀ (H : Heap) (locs : List Loc) (ls : Array Slot), va_P D classes (wld ct ad G M) H → va_D A (wld ct ad G M) → va_S A s.heap H locs → lv_has ls 2 [(0, .ref (ad a)), (1, .int p0)] → W p l e (headSpec wuX0_isSkipped ({ frames := 0, cells := 0, slots := 0, locals := 0 })).room s m ([.ref (ad a), .int p0] : List Value).toArray below meth c H locs 0 0 (MQ below (va_Qi (fun (q : Int32) (_ : Unit) => q = y.2) (fun _ t => kE D ct ad G A y.1 t) A) ([.ref (ad a), .int p0] : List Value).toArray s 0 0 A) (F0 m 40 ls [.int y11]) := by
      intro H locs ls hP hD hS hl
      obtain rfl := Option.some.inj hF
      exact J6 _ _ _ hP hD hS (lv_sub hl [0, 1] rfl)
    clear hF
    have hF := hy11
    clear hy11
    refine lv_if_ge (tgt := 39) hx hb dX0_isSkipped_32 (by decide) (fun c12 => ?_) (fun c12 => ?_)
    · rw [if_pos c12] at hF
      refine lv_iconst (v := (0 : Int32)) hx hb dX0_isSkipped_39 (by decide) ?_
      obtain rfl := Option.some.inj hF
      exact J11 _ _ _ hP hD hS (lv_sub hl [0, 1] rfl)
    · rw [if_neg c12] at hF
      refine lv_iconst (v := (1 : Int32)) hx hb dX0_isSkipped_35 (by decide) ?_
      refine lv_goto (tgt := 40) hx hb dX0_isSkipped_36 (by decide) ?_
      obtain rfl := Option.some.inj hF
      exact J11 _ _ _ hP hD hS (lv_sub hl [0, 1] rfl)
theorem dX0_isSliceEdge_0 : decode cX0_isSliceEdge 0 = .ok (.iload_n 1, 1) := by decide +kernel
theorem dX0_isSliceEdge_1 : decode cX0_isSliceEdge 1 = .ok (.ifCond .eq 42, 3) := by decide +kernel
theorem dX0_isSliceEdge_4 : decode cX0_isSliceEdge 4 = .ok (.iload_n 1, 1) := by decide +kernel
theorem dX0_isSliceEdge_5 : decode cX0_isSliceEdge 5 = .ok (.aload_n 0, 1) := by decide +kernel
theorem dX0_isSliceEdge_6 : decode cX0_isSliceEdge 6 = .ok (.getfield 23, 3) := by decide +kernel
theorem dX0_isSliceEdge_9 : decode cX0_isSliceEdge 9 = .ok (.iconst 0, 1) := by decide +kernel
theorem dX0_isSliceEdge_10 : decode cX0_isSliceEdge 10 = .ok (.iaload, 1) := by decide +kernel
theorem dX0_isSliceEdge_11 : decode cX0_isSliceEdge 11 = .ok (.aload_n 0, 1) := by decide +kernel
theorem dX0_isSliceEdge_12 : decode cX0_isSliceEdge 12 = .ok (.getfield 23, 3) := by decide +kernel
theorem dX0_isSliceEdge_15 : decode cX0_isSliceEdge 15 = .ok (.iconst 1, 1) := by decide +kernel
theorem dX0_isSliceEdge_16 : decode cX0_isSliceEdge 16 = .ok (.iaload, 1) := by decide +kernel
theorem dX0_isSliceEdge_17 : decode cX0_isSliceEdge 17 = .ok (.imul, 1) := by decide +kernel
theorem dX0_isSliceEdge_18 : decode cX0_isSliceEdge 18 = .ok (.if_icmp .ge 25, 3) := by decide +kernel
theorem dX0_isSliceEdge_21 : decode cX0_isSliceEdge 21 = .ok (.aload_n 0, 1) := by decide +kernel
theorem dX0_isSliceEdge_22 : decode cX0_isSliceEdge 22 = .ok (.getfield 23, 3) := by decide +kernel
theorem dX0_isSliceEdge_25 : decode cX0_isSliceEdge 25 = .ok (.bipush 11, 2) := by decide +kernel
theorem dX0_isSliceEdge_27 : decode cX0_isSliceEdge 27 = .ok (.iaload, 1) := by decide +kernel
theorem dX0_isSliceEdge_28 : decode cX0_isSliceEdge 28 = .ok (.ifCond .le 19, 3) := by decide +kernel
theorem dX0_isSliceEdge_31 : decode cX0_isSliceEdge 31 = .ok (.iload_n 1, 1) := by decide +kernel
theorem dX0_isSliceEdge_32 : decode cX0_isSliceEdge 32 = .ok (.aload_n 0, 1) := by decide +kernel
theorem dX0_isSliceEdge_33 : decode cX0_isSliceEdge 33 = .ok (.getfield 23, 3) := by decide +kernel
theorem dX0_isSliceEdge_36 : decode cX0_isSliceEdge 36 = .ok (.bipush 11, 2) := by decide +kernel
theorem dX0_isSliceEdge_38 : decode cX0_isSliceEdge 38 = .ok (.iaload, 1) := by decide +kernel
theorem dX0_isSliceEdge_39 : decode cX0_isSliceEdge 39 = .ok (.irem, 1) := by decide +kernel
theorem dX0_isSliceEdge_40 : decode cX0_isSliceEdge 40 = .ok (.ifCond .ne 7, 3) := by decide +kernel
theorem dX0_isSliceEdge_43 : decode cX0_isSliceEdge 43 = .ok (.iconst 1, 1) := by decide +kernel
theorem dX0_isSliceEdge_44 : decode cX0_isSliceEdge 44 = .ok (.goto 4, 3) := by decide +kernel
theorem dX0_isSliceEdge_47 : decode cX0_isSliceEdge 47 = .ok (.iconst 0, 1) := by decide +kernel
theorem dX0_isSliceEdge_48 : decode cX0_isSliceEdge 48 = .ok (.ireturn, 1) := by decide +kernel
def FX0_isSliceEdge (G : GG) (M : DD) (a : Nat) (p0 : Int32) : Option (DD × Int32) :=
  bnd (if p0 = ((0 : Int32)) then (some ((1 : Int32))) else
  (dr G 13 ((M.2 a 1)) fun b3 =>
  chk (¬ (((0 : Int32)) < 0 ∨ G.2.2 b3 ≤ ((0 : Int32)).toNatClampNeg)) <|
  ltt (M.1 b3 ((0 : Int32)).toNatClampNeg) fun x4 =>
  chk (¬ (((1 : Int32)) < 0 ∨ G.2.2 b3 ≤ ((1 : Int32)).toNatClampNeg)) <|
  ltt (M.1 b3 ((1 : Int32)).toNatClampNeg) fun x5 =>
  ltt ((x4 * x5)) fun x6 =>
  bnd (if x6 ≤ p0 then (some ((1 : Int32))) else
  (chk (¬ (((11 : Int32)) < 0 ∨ G.2.2 b3 ≤ ((11 : Int32)).toNatClampNeg)) <|
  ltt (M.1 b3 ((11 : Int32)).toNatClampNeg) fun x9 =>
  bnd (if x9 ≤ ((0 : Int32)) then (some ((0 : Int32))) else
  (chk (¬ (((11 : Int32)) < 0 ∨ G.2.2 b3 ≤ ((11 : Int32)).toNatClampNeg)) <|
  ltt (M.1 b3 ((11 : Int32)).toNatClampNeg) fun x12 =>
  chk (¬ x12 = 0) <|
  ltt (p0 - p0 / x12 * x12) fun x13 =>
  bnd (if x13 = ((0 : Int32)) then (some ((1 : Int32))) else
  (some ((0 : Int32)))) fun (y14 : Int32) =>
  some (y14))) fun (y10 : Int32) =>
  some (y10))) fun (y7 : Int32) =>
  some (y7))) fun (y1 : Int32) =>
  chk (y1 = 0 ∨ y1 = 1) <|
  some (M, y1)
set_option maxHeartbeats 4000000 in
set_option maxRecDepth 100000 in
theorem kX0_isSliceEdge (l : Launch) (D : va_G) (ct : CT) (ad : Nat → Nat) (Z : Nat → Nat) (G : GG) (M : DD) (sz : Nat) (a : Nat) (p0 : Int32) (y : DD × Int32) (hc : a < G.1) (hk : G.2.1 a = 0) (hF : FX0_isSliceEdge G M a p0 = some y) : Met l yX0_isSliceEdge wuX0_isSliceEdge ({ frames := 0, cells := 0, slots := 0, locals := 0 }) (va_Pc [.ref (ad a), .int p0] (kB D ct ad Z G M sz)) (va_Qi (fun (q : Int32) (_ : Unit) => q = y.2) (fun _ t => kE D ct ad G (wA ad G sz) y.1 t) (wA ad G sz)) 0 0 (wA ad G sz) := by
  refine Met.ofW (cc := cX0_isSliceEdge) (maxL := 2) (ret := (some .boolean)) (by decide) rfl ?_
  intro p e s m args below meth c s₁ B hml hv
  obtain ⟨rfl, hsz, hP, hK, hD0, hZ, hN⟩ := hv
  have hx := B.exec
  have hb := B.bytes
  have hr := B.returns
  have hts := atoms_spec (ws := wuX0_isSliceEdge) B.pre
  have hown : s.vm.findClass RX0 = some m.cls := findClass_of_methodNamed B.named
  have hlocks := B.notSynchronized
  subst hsz
  have hD := wD_self (sz := s.heap.size) hD0
  have hA9 : ∀ q, s.heap.size ≤ q → wA ad G s.heap.size q := fun q h => Or.inr h
  generalize hAe : wA ad G s.heap.size = A at hD hA9 hZ ⊢
  have hS : va_S A s.heap s.heap [] := va_S.rf
  have hl := lv_entry ([.ref (ad a), .int p0]) (n := 2) (Nat.le_of_ble_eq_true rfl)
  rw [lg_entry_eq]
  generalize (lg_sl ([.ref (ad a), .int p0]) ++ List.replicate (2 - (lg_sl ([.ref (ad a), .int p0])).length) Slot.unset).toArray = ls at hl ⊢
  have hl : lv_has ls 2 [(0, .ref (ad a)), (1, .int p0)] := hl
  unfold FX0_isSliceEdge at hF
  refine lv_iload_n hx hb dX0_isSliceEdge_0 rfl (lv_at hl 1 rfl) ?_
  obtain ⟨y1, hy1, hF⟩ := bnd_some hF
  have J1 : ∀ (H : Heap) (locs : List Loc) (ls : Array Slot), va_P D classes (wld ct ad G M) H → va_D A (wld ct ad G M) → va_S A s.heap H locs → lv_has ls 2 [(0, .ref (ad a)), (1, .int p0)] → W p l e (headSpec wuX0_isSliceEdge ({ frames := 0, cells := 0, slots := 0, locals := 0 })).room s m ([.ref (ad a), .int p0] : List Value).toArray below meth c H locs 0 0 (MQ below (va_Qi (fun (q : Int32) (_ : Unit) => q = y.2) (fun _ t => kE D ct ad G A y.1 t) A) ([.ref (ad a), .int p0] : List Value).toArray s 0 0 A) (F0 m 48 ls [.int y1]) := by
    intro H locs ls hP hD hS hl
    obtain ⟨hz9, hF⟩ := chk_some hF
    obtain rfl := Option.some.inj hF
    exact W.zret (v := y1) (ty := .boolean) hx hb hr (nar_z hz9).1 (fun t ht hW => ⟨⟨_, (), rfl, rfl, ⟨by rw [ht]; exact hP, va_K.moved hW.alike hK, hD⟩⟩, hS.F ht⟩) hS.2.2 dX0_isSliceEdge_48
  clear hF
  have hF := hy1
  clear hy1
  refine lv_if_eq (tgt := 43) hx hb dX0_isSliceEdge_1 (by decide) (fun c2 => ?_) (fun c2 => ?_)
  · rw [if_pos c2] at hF
    refine lv_iconst (v := (1 : Int32)) hx hb dX0_isSliceEdge_43 (by decide) ?_
    refine lv_goto (tgt := 48) hx hb dX0_isSliceEdge_44 (by decide) ?_
    obtain rfl := Option.some.inj hF
    exact J1 _ _ _ hP hD hS (lv_sub hl [0, 1] rfl)
  · rw [if_neg c2] at hF
    refine lv_iload_n hx hb dX0_isSliceEdge_4 rfl (lv_at hl 1 rfl) ?_
    refine lv_aload_n hx hb dX0_isSliceEdge_5 rfl (lv_at hl 0 rfl) ?_
    refine va_get (D := D) (ci := 0) (v := va_re ad (M.2 a 1)) (C := RX0) (T := TX0) (N := 21) hx hb hts (mus hf_X0) hown hK hP a (wld_o ct ad G M hc hk (by decide)) rfl 1 (by decide) (hts (.fieldLink RX0 23 "VideoSuite$Coder" "now" "[I") (mu mw_813)) (fun _ h9 => h9) rfl dX0_isSliceEdge_6 ?_
    refine lv_iconst (v := (0 : Int32)) hx hb dX0_isSliceEdge_9 (by decide) ?_
    obtain ⟨b3, ho3, hc3, hk3, hF⟩ := dr_some hF
    refine W_st (st' := [.int (0 : Int32), .ref (ad b3), .int p0]) (by rw [va_some ho3]) ?_
    obtain ⟨hvc, hF⟩ := chk_some hF
    refine va_iald hx hb hK hP b3 1 (wld_i ct ad G M hc3 hk3) rfl hvc dX0_isSliceEdge_10 ?_
    obtain ⟨x4, ex4, hF⟩ := ltt_some hF
    refine lv_topi (fun zx4 ezx4 => ?_)
    obtain rfl : x4 = zx4 := ex4.trans ezx4.symm
    refine lv_aload_n hx hb dX0_isSliceEdge_11 rfl (lv_at hl 0 rfl) ?_
    refine va_get (D := D) (ci := 0) (v := va_re ad (M.2 a 1)) (C := RX0) (T := TX0) (N := 21) hx hb hts (mus hf_X0) hown hK hP a (wld_o ct ad G M hc hk (by decide)) rfl 1 (by decide) (hts (.fieldLink RX0 23 "VideoSuite$Coder" "now" "[I") (mu mw_813)) (fun _ h9 => h9) rfl dX0_isSliceEdge_12 ?_
    refine lv_iconst (v := (1 : Int32)) hx hb dX0_isSliceEdge_15 (by decide) ?_
    refine W_st (st' := [.int (1 : Int32), .ref (ad b3), .int x4, .int p0]) (by rw [va_some ho3]) ?_
    obtain ⟨hvc, hF⟩ := chk_some hF
    refine va_iald hx hb hK hP b3 1 (wld_i ct ad G M hc3 hk3) rfl hvc dX0_isSliceEdge_16 ?_
    obtain ⟨x5, ex5, hF⟩ := ltt_some hF
    refine lv_topi (fun zx5 ezx5 => ?_)
    obtain rfl : x5 = zx5 := ex5.trans ezx5.symm
    refine lv_imul hx hb dX0_isSliceEdge_17 ?_
    obtain ⟨x6, ex6, hF⟩ := ltt_some hF
    refine lv_topi (fun zx6 ezx6 => ?_)
    obtain rfl : x6 = zx6 := ex6.trans ezx6.symm
    obtain ⟨y7, hy7, hF⟩ := bnd_some hF
    have J7 : ∀ (H : Heap) (locs : List Loc) (ls : Array Slot), va_P D classes (wld ct ad G M) H → va_D A (wld ct ad G M) → va_S A s.heap H locs → lv_has ls 2 [(0, .ref (ad a)), (1, .int p0)] → W p l e (headSpec wuX0_isSliceEdge ({ frames := 0, cells := 0, slots := 0, locals := 0 })).room s m ([.ref (ad a), .int p0] : List Value).toArray below meth c H locs 0 0 (MQ below (va_Qi (fun (q : Int32) (_ : Unit) => q = y.2) (fun _ t => kE D ct ad G A y.1 t) A) ([.ref (ad a), .int p0] : List Value).toArray s 0 0 A) (F0 m 48 ls [.int y7]) := by
      intro H locs ls hP hD hS hl
      obtain rfl := Option.some.inj hF
      exact J1 _ _ _ hP hD hS (lv_sub hl [0, 1] rfl)
    clear hF
    have hF := hy7
    clear hy7
    refine lv_icmp_ge (tgt := 43) hx hb dX0_isSliceEdge_18 (by decide) (fun c8 => ?_) (fun c8 => ?_)
    · rw [if_pos c8] at hF
      refine lv_iconst (v := (1 : Int32)) hx hb dX0_isSliceEdge_43 (by decide) ?_
      refine lv_goto (tgt := 48) hx hb dX0_isSliceEdge_44 (by decide) ?_
      obtain rfl := Option.some.inj hF
      exact J7 _ _ _ hP hD hS (lv_sub hl [0, 1] rfl)
    · rw [if_neg c8] at hF
      refine lv_aload_n hx hb dX0_isSliceEdge_21 rfl (lv_at hl 0 rfl) ?_
      refine va_get (D := D) (ci := 0) (v := va_re ad (M.2 a 1)) (C := RX0) (T := TX0) (N := 21) hx hb hts (mus hf_X0) hown hK hP a (wld_o ct ad G M hc hk (by decide)) rfl 1 (by decide) (hts (.fieldLink RX0 23 "VideoSuite$Coder" "now" "[I") (mu mw_813)) (fun _ h9 => h9) rfl dX0_isSliceEdge_22 ?_
      refine lv_bipush (v := (11 : Int32)) hx hb dX0_isSliceEdge_25 (by decide) ?_
      refine W_st (st' := [.int (11 : Int32), .ref (ad b3)]) (by rw [va_some ho3]) ?_
      obtain ⟨hvc, hF⟩ := chk_some hF
      refine va_iald hx hb hK hP b3 1 (wld_i ct ad G M hc3 hk3) rfl hvc dX0_isSliceEdge_27 ?_
      obtain ⟨x9, ex9, hF⟩ := ltt_some hF
      refine lv_topi (fun zx9 ezx9 => ?_)
      obtain rfl : x9 = zx9 := ex9.trans ezx9.symm
      obtain ⟨y10, hy10, hF⟩ := bnd_some hF
      have J10 : ∀ (H : Heap) (locs : List Loc) (ls : Array Slot), va_P D classes (wld ct ad G M) H → va_D A (wld ct ad G M) → va_S A s.heap H locs → lv_has ls 2 [(0, .ref (ad a)), (1, .int p0)] → W p l e (headSpec wuX0_isSliceEdge ({ frames := 0, cells := 0, slots := 0, locals := 0 })).room s m ([.ref (ad a), .int p0] : List Value).toArray below meth c H locs 0 0 (MQ below (va_Qi (fun (q : Int32) (_ : Unit) => q = y.2) (fun _ t => kE D ct ad G A y.1 t) A) ([.ref (ad a), .int p0] : List Value).toArray s 0 0 A) (F0 m 48 ls [.int y10]) := by
        intro H locs ls hP hD hS hl
        obtain rfl := Option.some.inj hF
        exact J7 _ _ _ hP hD hS (lv_sub hl [0, 1] rfl)
      clear hF
      have hF := hy10
      clear hy10
      refine lv_if_le (tgt := 47) hx hb dX0_isSliceEdge_28 (by decide) (fun c11 => ?_) (fun c11 => ?_)
      · rw [if_pos c11] at hF
        refine lv_iconst (v := (0 : Int32)) hx hb dX0_isSliceEdge_47 (by decide) ?_
        obtain rfl := Option.some.inj hF
        exact J10 _ _ _ hP hD hS (lv_sub hl [0, 1] rfl)
      · rw [if_neg c11] at hF
        refine lv_iload_n hx hb dX0_isSliceEdge_31 rfl (lv_at hl 1 rfl) ?_
        refine lv_aload_n hx hb dX0_isSliceEdge_32 rfl (lv_at hl 0 rfl) ?_
        refine va_get (D := D) (ci := 0) (v := va_re ad (M.2 a 1)) (C := RX0) (T := TX0) (N := 21) hx hb hts (mus hf_X0) hown hK hP a (wld_o ct ad G M hc hk (by decide)) rfl 1 (by decide) (hts (.fieldLink RX0 23 "VideoSuite$Coder" "now" "[I") (mu mw_813)) (fun _ h9 => h9) rfl dX0_isSliceEdge_33 ?_
        refine lv_bipush (v := (11 : Int32)) hx hb dX0_isSliceEdge_36 (by decide) ?_
        refine W_st (st' := [.int (11 : Int32), .ref (ad b3), .int p0]) (by rw [va_some ho3]) ?_
        obtain ⟨hvc, hF⟩ := chk_some hF
        refine va_iald hx hb hK hP b3 1 (wld_i ct ad G M hc3 hk3) rfl hvc dX0_isSliceEdge_38 ?_
        obtain ⟨x12, ex12, hF⟩ := ltt_some hF
        refine lv_topi (fun zx12 ezx12 => ?_)
        obtain rfl : x12 = zx12 := ex12.trans ezx12.symm
        obtain ⟨hne, hF⟩ := chk_some hF
        refine lv_irem hx hb dX0_isSliceEdge_39 hne ?_
        obtain ⟨x13, ex13, hF⟩ := ltt_some hF
        refine lv_topi (fun zx13 ezx13 => ?_)
        obtain rfl : x13 = zx13 := ex13.trans ezx13.symm
        obtain ⟨y14, hy14, hF⟩ := bnd_some hF
        have J14 : ∀ (H : Heap) (locs : List Loc) (ls : Array Slot), va_P D classes (wld ct ad G M) H → va_D A (wld ct ad G M) → va_S A s.heap H locs → lv_has ls 2 [(0, .ref (ad a)), (1, .int p0)] → W p l e (headSpec wuX0_isSliceEdge ({ frames := 0, cells := 0, slots := 0, locals := 0 })).room s m ([.ref (ad a), .int p0] : List Value).toArray below meth c H locs 0 0 (MQ below (va_Qi (fun (q : Int32) (_ : Unit) => q = y.2) (fun _ t => kE D ct ad G A y.1 t) A) ([.ref (ad a), .int p0] : List Value).toArray s 0 0 A) (F0 m 48 ls [.int y14]) := by
          intro H locs ls hP hD hS hl
          obtain rfl := Option.some.inj hF
          exact J10 _ _ _ hP hD hS (lv_sub hl [0, 1] rfl)
        clear hF
        have hF := hy14
        clear hy14
        refine lv_if_ne (tgt := 47) hx hb dX0_isSliceEdge_40 (by decide) (fun c15 => ?_) (fun c15 => ?_)
        · rw [if_neg c15] at hF
          refine lv_iconst (v := (0 : Int32)) hx hb dX0_isSliceEdge_47 (by decide) ?_
          obtain rfl := Option.some.inj hF
          exact J14 _ _ _ hP hD hS (lv_sub hl [0, 1] rfl)
        · rw [if_pos c15] at hF
          refine lv_iconst (v := (1 : Int32)) hx hb dX0_isSliceEdge_43 (by decide) ?_
          refine lv_goto (tgt := 48) hx hb dX0_isSliceEdge_44 (by decide) ?_
          obtain rfl := Option.some.inj hF
          exact J14 _ _ _ hP hD hS (lv_sub hl [0, 1] rfl)
theorem dX0_isSpent_0 : decode cX0_isSpent 0 = .ok (.aload_n 0, 1) := by decide +kernel
theorem dX0_isSpent_1 : decode cX0_isSpent 1 = .ok (.getfield 104, 3) := by decide +kernel
theorem dX0_isSpent_4 : decode cX0_isSpent 4 = .ok (.bipush 60, 2) := by decide +kernel
theorem dX0_isSpent_6 : decode cX0_isSpent 6 = .ok (.if_icmp .ge 38, 3) := by decide +kernel
theorem dX0_isSpent_9 : decode cX0_isSpent 9 = .ok (.aload_n 0, 1) := by decide +kernel
theorem dX0_isSpent_10 : decode cX0_isSpent 10 = .ok (.getfield 29, 3) := by decide +kernel
theorem dX0_isSpent_13 : decode cX0_isSpent 13 = .ok (.getfield 125, 3) := by decide +kernel
theorem dX0_isSpent_16 : decode cX0_isSpent 16 = .ok (.ldc 196, 2) := by decide +kernel
theorem dX0_isSpent_18 : decode cX0_isSpent 18 = .ok (.if_icmp .ge 26, 3) := by decide +kernel
theorem dX0_isSpent_21 : decode cX0_isSpent 21 = .ok (.aload_n 0, 1) := by decide +kernel
theorem dX0_isSpent_22 : decode cX0_isSpent 22 = .ok (.getfield 29, 3) := by decide +kernel
theorem dX0_isSpent_25 : decode cX0_isSpent 25 = .ok (.getfield 128, 3) := by decide +kernel
theorem dX0_isSpent_28 : decode cX0_isSpent 28 = .ok (.sipush 380, 3) := by decide +kernel
theorem dX0_isSpent_31 : decode cX0_isSpent 31 = .ok (.if_icmp .ge 13, 3) := by decide +kernel
theorem dX0_isSpent_34 : decode cX0_isSpent 34 = .ok (.aload_n 0, 1) := by decide +kernel
theorem dX0_isSpent_35 : decode cX0_isSpent 35 = .ok (.getfield 197, 3) := by decide +kernel
theorem dX0_isSpent_38 : decode cX0_isSpent 38 = .ok (.sipush 500, 3) := by decide +kernel
theorem dX0_isSpent_41 : decode cX0_isSpent 41 = .ok (.if_icmp .lt 7, 3) := by decide +kernel
theorem dX0_isSpent_44 : decode cX0_isSpent 44 = .ok (.iconst 1, 1) := by decide +kernel
theorem dX0_isSpent_45 : decode cX0_isSpent 45 = .ok (.goto 4, 3) := by decide +kernel
theorem dX0_isSpent_48 : decode cX0_isSpent 48 = .ok (.iconst 0, 1) := by decide +kernel
theorem dX0_isSpent_49 : decode cX0_isSpent 49 = .ok (.ireturn, 1) := by decide +kernel
def FX0_isSpent (G : GG) (M : DD) (a : Nat)  : Option (DD × Int32) :=
  ltt (M.1 a 11) fun x1 =>
  bnd (if ((60 : Int32)) ≤ x1 then (some ((1 : Int32))) else
  (dr G 10 ((M.2 a 2)) fun b4 =>
  ltt (M.1 b4 1) fun x5 =>
  bnd (if ((60000 : Int32)) ≤ x5 then (some ((1 : Int32))) else
  (ltt (M.1 b4 2) fun x8 =>
  bnd (if ((380 : Int32)) ≤ x8 then (some ((1 : Int32))) else
  (ltt (M.1 a 18) fun x11 =>
  bnd (if x11 < ((500 : Int32)) then (some ((0 : Int32))) else
  (some ((1 : Int32)))) fun (y12 : Int32) =>
  some (y12))) fun (y9 : Int32) =>
  some (y9))) fun (y6 : Int32) =>
  some (y6))) fun (y2 : Int32) =>
  chk (y2 = 0 ∨ y2 = 1) <|
  some (M, y2)
set_option maxHeartbeats 4000000 in
set_option maxRecDepth 100000 in
theorem kX0_isSpent (l : Launch) (D : va_G) (ct : CT) (ad : Nat → Nat) (Z : Nat → Nat) (G : GG) (M : DD) (sz : Nat) (a : Nat)  (y : DD × Int32) (hc : a < G.1) (hk : G.2.1 a = 0) (hF : FX0_isSpent G M a  = some y) : Met l yX0_isSpent wuX0_isSpent ({ frames := 0, cells := 0, slots := 0, locals := 0 }) (va_Pc [.ref (ad a)] (kB D ct ad Z G M sz)) (va_Qi (fun (q : Int32) (_ : Unit) => q = y.2) (fun _ t => kE D ct ad G (wA ad G sz) y.1 t) (wA ad G sz)) 0 0 (wA ad G sz) := by
  refine Met.ofW (cc := cX0_isSpent) (maxL := 1) (ret := (some .boolean)) (by decide) rfl ?_
  intro p e s m args below meth c s₁ B hml hv
  obtain ⟨rfl, hsz, hP, hK, hD0, hZ, hN⟩ := hv
  have hx := B.exec
  have hb := B.bytes
  have hr := B.returns
  have hts := atoms_spec (ws := wuX0_isSpent) B.pre
  have hown : s.vm.findClass RX0 = some m.cls := findClass_of_methodNamed B.named
  have hlocks := B.notSynchronized
  subst hsz
  have hD := wD_self (sz := s.heap.size) hD0
  have hA9 : ∀ q, s.heap.size ≤ q → wA ad G s.heap.size q := fun q h => Or.inr h
  generalize hAe : wA ad G s.heap.size = A at hD hA9 hZ ⊢
  have hS : va_S A s.heap s.heap [] := va_S.rf
  have hl := lv_entry ([.ref (ad a)]) (n := 1) (Nat.le_of_ble_eq_true rfl)
  rw [lg_entry_eq]
  generalize (lg_sl ([.ref (ad a)]) ++ List.replicate (1 - (lg_sl ([.ref (ad a)])).length) Slot.unset).toArray = ls at hl ⊢
  have hl : lv_has ls 1 [(0, .ref (ad a))] := hl
  unfold FX0_isSpent at hF
  refine lv_aload_n hx hb dX0_isSpent_0 rfl (lv_at hl 0 rfl) ?_
  refine va_get (D := D) (ci := 0) (v := .int (M.1 a 11)) (C := RX0) (T := TX0) (N := 21) hx hb hts (mus hf_X0) hown hK hP a (wld_o ct ad G M hc hk (by decide)) rfl 11 (by decide) (hts (.fieldLink RX0 104 "VideoSuite$Coder" "come" "I") (mu mw_826)) (fun _ h9 => h9) rfl dX0_isSpent_1 ?_
  obtain ⟨x1, ex1, hF⟩ := ltt_some hF
  refine lv_topi (fun zx1 ezx1 => ?_)
  obtain rfl : x1 = zx1 := ex1.trans ezx1.symm
  refine lv_bipush (v := (60 : Int32)) hx hb dX0_isSpent_4 (by decide) ?_
  obtain ⟨y2, hy2, hF⟩ := bnd_some hF
  have J2 : ∀ (H : Heap) (locs : List Loc) (ls : Array Slot), va_P D classes (wld ct ad G M) H → va_D A (wld ct ad G M) → va_S A s.heap H locs → lv_has ls 1 [(0, .ref (ad a))] → W p l e (headSpec wuX0_isSpent ({ frames := 0, cells := 0, slots := 0, locals := 0 })).room s m ([.ref (ad a)] : List Value).toArray below meth c H locs 0 0 (MQ below (va_Qi (fun (q : Int32) (_ : Unit) => q = y.2) (fun _ t => kE D ct ad G A y.1 t) A) ([.ref (ad a)] : List Value).toArray s 0 0 A) (F0 m 49 ls [.int y2]) := by
    intro H locs ls hP hD hS hl
    obtain ⟨hz9, hF⟩ := chk_some hF
    obtain rfl := Option.some.inj hF
    exact W.zret (v := y2) (ty := .boolean) hx hb hr (nar_z hz9).1 (fun t ht hW => ⟨⟨_, (), rfl, rfl, ⟨by rw [ht]; exact hP, va_K.moved hW.alike hK, hD⟩⟩, hS.F ht⟩) hS.2.2 dX0_isSpent_49
  clear hF
  have hF := hy2
  clear hy2
  refine lv_icmp_ge (tgt := 44) hx hb dX0_isSpent_6 (by decide) (fun c3 => ?_) (fun c3 => ?_)
  · rw [if_pos c3] at hF
    refine lv_iconst (v := (1 : Int32)) hx hb dX0_isSpent_44 (by decide) ?_
    refine lv_goto (tgt := 49) hx hb dX0_isSpent_45 (by decide) ?_
    obtain rfl := Option.some.inj hF
    exact J2 _ _ _ hP hD hS (lv_sub hl [0] rfl)
  · rw [if_neg c3] at hF
    refine lv_aload_n hx hb dX0_isSpent_9 rfl (lv_at hl 0 rfl) ?_
    refine va_get (D := D) (ci := 0) (v := va_re ad (M.2 a 2)) (C := RX0) (T := TX0) (N := 21) hx hb hts (mus hf_X0) hown hK hP a (wld_o ct ad G M hc hk (by decide)) rfl 2 (by decide) (hts (.fieldLink RX0 29 "VideoSuite$Coder" "writer" "LVideoSuite$Writer;") (mu mw_815)) (fun _ h9 => h9) rfl dX0_isSpent_10 ?_
    obtain ⟨b4, ho4, hc4, hk4, hF⟩ := dr_some hF
    refine W_st (st' := [.ref (ad b4)]) (by rw [va_some ho4]) ?_
    refine va_get (D := D) (ci := 10) (v := .int (M.1 b4 1)) (C := RX10) (T := TX10) (N := 20) hx hb hts (mus hf_X10) hown hK hP b4 (wld_o ct ad G M hc4 hk4 (by decide)) rfl 1 (by decide) (hts (.fieldLink RX0 125 "VideoSuite$Writer" "length" "I") (mu mw_738)) (fun _ h9 => h9) rfl dX0_isSpent_13 ?_
    obtain ⟨x5, ex5, hF⟩ := ltt_some hF
    refine lv_topi (fun zx5 ezx5 => ?_)
    obtain rfl : x5 = zx5 := ex5.trans ezx5.symm
    refine lv_ldc (v := (60000 : Int32)) hx hb hown (hts (.constant RX0 196 (60000 : Int32)) (mu mw_2418)) dX0_isSpent_16 ?_
    obtain ⟨y6, hy6, hF⟩ := bnd_some hF
    have J6 : ∀ (H : Heap) (locs : List Loc) (ls : Array Slot), va_P D classes (wld ct ad G M) H → va_D A (wld ct ad G M) → va_S A s.heap H locs → lv_has ls 1 [(0, .ref (ad a))] → W p l e (headSpec wuX0_isSpent ({ frames := 0, cells := 0, slots := 0, locals := 0 })).room s m ([.ref (ad a)] : List Value).toArray below meth c H locs 0 0 (MQ below (va_Qi (fun (q : Int32) (_ : Unit) => q = y.2) (fun _ t => kE D ct ad G A y.1 t) A) ([.ref (ad a)] : List Value).toArray s 0 0 A) (F0 m 49 ls [.int y6]) := by
      intro H locs ls hP hD hS hl
      obtain rfl := Option.some.inj hF
      exact J2 _ _ _ hP hD hS (lv_sub hl [0] rfl)
    clear hF
    have hF := hy6
    clear hy6
    refine lv_icmp_ge (tgt := 44) hx hb dX0_isSpent_18 (by decide) (fun c7 => ?_) (fun c7 => ?_)
    · rw [if_pos c7] at hF
      refine lv_iconst (v := (1 : Int32)) hx hb dX0_isSpent_44 (by decide) ?_
      refine lv_goto (tgt := 49) hx hb dX0_isSpent_45 (by decide) ?_
      obtain rfl := Option.some.inj hF
      exact J6 _ _ _ hP hD hS (lv_sub hl [0] rfl)
    · rw [if_neg c7] at hF
      refine lv_aload_n hx hb dX0_isSpent_21 rfl (lv_at hl 0 rfl) ?_
      refine va_get (D := D) (ci := 0) (v := va_re ad (M.2 a 2)) (C := RX0) (T := TX0) (N := 21) hx hb hts (mus hf_X0) hown hK hP a (wld_o ct ad G M hc hk (by decide)) rfl 2 (by decide) (hts (.fieldLink RX0 29 "VideoSuite$Coder" "writer" "LVideoSuite$Writer;") (mu mw_815)) (fun _ h9 => h9) rfl dX0_isSpent_22 ?_
      refine W_st (st' := [.ref (ad b4)]) (by rw [va_some ho4]) ?_
      refine va_get (D := D) (ci := 10) (v := .int (M.1 b4 2)) (C := RX10) (T := TX10) (N := 20) hx hb hts (mus hf_X10) hown hK hP b4 (wld_o ct ad G M hc4 hk4 (by decide)) rfl 2 (by decide) (hts (.fieldLink RX0 128 "VideoSuite$Writer" "units" "I") (mu mw_741)) (fun _ h9 => h9) rfl dX0_isSpent_25 ?_
      obtain ⟨x8, ex8, hF⟩ := ltt_some hF
      refine lv_topi (fun zx8 ezx8 => ?_)
      obtain rfl : x8 = zx8 := ex8.trans ezx8.symm
      refine lv_sipush (v := (380 : Int32)) hx hb dX0_isSpent_28 (by decide) ?_
      obtain ⟨y9, hy9, hF⟩ := bnd_some hF
      have J9 : ∀ (H : Heap) (locs : List Loc) (ls : Array Slot), va_P D classes (wld ct ad G M) H → va_D A (wld ct ad G M) → va_S A s.heap H locs → lv_has ls 1 [(0, .ref (ad a))] → W p l e (headSpec wuX0_isSpent ({ frames := 0, cells := 0, slots := 0, locals := 0 })).room s m ([.ref (ad a)] : List Value).toArray below meth c H locs 0 0 (MQ below (va_Qi (fun (q : Int32) (_ : Unit) => q = y.2) (fun _ t => kE D ct ad G A y.1 t) A) ([.ref (ad a)] : List Value).toArray s 0 0 A) (F0 m 49 ls [.int y9]) := by
        intro H locs ls hP hD hS hl
        obtain rfl := Option.some.inj hF
        exact J6 _ _ _ hP hD hS (lv_sub hl [0] rfl)
      clear hF
      have hF := hy9
      clear hy9
      refine lv_icmp_ge (tgt := 44) hx hb dX0_isSpent_31 (by decide) (fun c10 => ?_) (fun c10 => ?_)
      · rw [if_pos c10] at hF
        refine lv_iconst (v := (1 : Int32)) hx hb dX0_isSpent_44 (by decide) ?_
        refine lv_goto (tgt := 49) hx hb dX0_isSpent_45 (by decide) ?_
        obtain rfl := Option.some.inj hF
        exact J9 _ _ _ hP hD hS (lv_sub hl [0] rfl)
      · rw [if_neg c10] at hF
        refine lv_aload_n hx hb dX0_isSpent_34 rfl (lv_at hl 0 rfl) ?_
        refine va_get (D := D) (ci := 0) (v := .int (M.1 a 18)) (C := RX0) (T := TX0) (N := 21) hx hb hts (mus hf_X0) hown hK hP a (wld_o ct ad G M hc hk (by decide)) rfl 18 (by decide) (hts (.fieldLink RX0 197 "VideoSuite$Coder" "spent" "I") (mu mw_836)) (fun _ h9 => h9) rfl dX0_isSpent_35 ?_
        obtain ⟨x11, ex11, hF⟩ := ltt_some hF
        refine lv_topi (fun zx11 ezx11 => ?_)
        obtain rfl : x11 = zx11 := ex11.trans ezx11.symm
        refine lv_sipush (v := (500 : Int32)) hx hb dX0_isSpent_38 (by decide) ?_
        obtain ⟨y12, hy12, hF⟩ := bnd_some hF
        have J12 : ∀ (H : Heap) (locs : List Loc) (ls : Array Slot), va_P D classes (wld ct ad G M) H → va_D A (wld ct ad G M) → va_S A s.heap H locs → lv_has ls 1 [(0, .ref (ad a))] → W p l e (headSpec wuX0_isSpent ({ frames := 0, cells := 0, slots := 0, locals := 0 })).room s m ([.ref (ad a)] : List Value).toArray below meth c H locs 0 0 (MQ below (va_Qi (fun (q : Int32) (_ : Unit) => q = y.2) (fun _ t => kE D ct ad G A y.1 t) A) ([.ref (ad a)] : List Value).toArray s 0 0 A) (F0 m 49 ls [.int y12]) := by
          intro H locs ls hP hD hS hl
          obtain rfl := Option.some.inj hF
          exact J9 _ _ _ hP hD hS (lv_sub hl [0] rfl)
        clear hF
        have hF := hy12
        clear hy12
        refine lv_icmp_lt (tgt := 48) hx hb dX0_isSpent_41 (by decide) (fun c13 => ?_) (fun c13 => ?_)
        · rw [if_pos c13] at hF
          refine lv_iconst (v := (0 : Int32)) hx hb dX0_isSpent_48 (by decide) ?_
          obtain rfl := Option.some.inj hF
          exact J12 _ _ _ hP hD hS (lv_sub hl [0] rfl)
        · rw [if_neg c13] at hF
          refine lv_iconst (v := (1 : Int32)) hx hb dX0_isSpent_44 (by decide) ?_
          refine lv_goto (tgt := 49) hx hb dX0_isSpent_45 (by decide) ?_
          obtain rfl := Option.some.inj hF
          exact J12 _ _ _ hP hD hS (lv_sub hl [0] rfl)
