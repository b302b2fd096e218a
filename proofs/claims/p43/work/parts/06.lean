theorem dX11_hash_0 : decode cX11_hash 0 = .ok (.iconst 0, 1) := by decide +kernel
theorem dX11_hash_1 : decode cX11_hash 1 = .ok (.istore_n 3, 1) := by decide +kernel
theorem dX11_hash_2 : decode cX11_hash 2 = .ok (.iload_n 1, 1) := by decide +kernel
theorem dX11_hash_3 : decode cX11_hash 3 = .ok (.istore 4, 2) := by decide +kernel
theorem dX11_hash_5 : decode cX11_hash 5 = .ok (.iload 4, 2) := by decide +kernel
theorem dX11_hash_7 : decode cX11_hash 7 = .ok (.iload_n 1, 1) := by decide +kernel
theorem dX11_hash_8 : decode cX11_hash 8 = .ok (.iload_n 2, 1) := by decide +kernel
theorem dX11_hash_9 : decode cX11_hash 9 = .ok (.iadd, 1) := by decide +kernel
theorem dX11_hash_10 : decode cX11_hash 10 = .ok (.if_icmp .ge 26, 3) := by decide +kernel
theorem dX11_hash_13 : decode cX11_hash 13 = .ok (.iload 4, 2) := by decide +kernel
theorem dX11_hash_15 : decode cX11_hash 15 = .ok (.aload_n 0, 1) := by decide +kernel
theorem dX11_hash_16 : decode cX11_hash 16 = .ok (.arraylength, 1) := by decide +kernel
theorem dX11_hash_17 : decode cX11_hash 17 = .ok (.if_icmp .ge 19, 3) := by decide +kernel
theorem dX11_hash_20 : decode cX11_hash 20 = .ok (.bipush 31, 2) := by decide +kernel
theorem dX11_hash_22 : decode cX11_hash 22 = .ok (.iload_n 3, 1) := by decide +kernel
theorem dX11_hash_23 : decode cX11_hash 23 = .ok (.imul, 1) := by decide +kernel
theorem dX11_hash_24 : decode cX11_hash 24 = .ok (.aload_n 0, 1) := by decide +kernel
theorem dX11_hash_25 : decode cX11_hash 25 = .ok (.iload 4, 2) := by decide +kernel
theorem dX11_hash_27 : decode cX11_hash 27 = .ok (.iaload, 1) := by decide +kernel
theorem dX11_hash_28 : decode cX11_hash 28 = .ok (.iadd, 1) := by decide +kernel
theorem dX11_hash_29 : decode cX11_hash 29 = .ok (.istore_n 3, 1) := by decide +kernel
theorem dX11_hash_30 : decode cX11_hash 30 = .ok (.iinc 4 1, 3) := by decide +kernel
theorem dX11_hash_33 : decode cX11_hash 33 = .ok (.goto (-28), 3) := by decide +kernel
theorem dX11_hash_36 : decode cX11_hash 36 = .ok (.iload_n 3, 1) := by decide +kernel
theorem dX11_hash_37 : decode cX11_hash 37 = .ok (.ireturn, 1) := by decide +kernel
def FX11_hash (G : GG) (M : DD) (p0 : Option Nat) (p1 : Int32) (p2 : Int32) : Option (DD × Int32) :=
  bnd (itr (fun (s2 : Int32 × Int32) => ((ltt ((p1 + p2)) fun x5 =>
  if x5 ≤ s2.2 then (some (.inr (s2.1, s2.2))) else
  (dr G 13 p0 fun b7 =>
  ltt (Int32.ofNat (G.2.2 b7)) fun x8 =>
  if x8 ≤ s2.2 then (some (.inr (s2.1, s2.2))) else
  (ltt ((((31 : Int32)) * s2.1)) fun x10 =>
  chk (¬ (s2.2 < 0 ∨ G.2.2 b7 ≤ s2.2.toNatClampNeg)) <|
  ltt (M.1 b7 s2.2.toNatClampNeg) fun x11 =>
  ltt ((x10 + x11)) fun x12 =>
  ltt (s2.2 + (1 : Int32)) fun x13 =>
  some (.inl (x12, x13))))) : Option ((Int32 × Int32) ⊕ (Int32 × Int32)))) 1000000 ((0 : Int32), p1)) fun (y1 : Int32 × Int32) =>
  some (M, y1.1)
set_option maxHeartbeats 4000000 in
set_option maxRecDepth 100000 in
theorem kX11_hash (l : Launch) (D : va_G) (ct : CT) (ad : Nat → Nat) (Z : Nat → Nat) (G : GG) (M : DD) (sz : Nat) (p0 : Option Nat) (p1 : Int32) (p2 : Int32) (y : DD × Int32) (hF : FX11_hash G M p0 p1 p2 = some y) : Met l yX11_hash wsX11_hash ({ frames := 0, cells := 0, slots := 0, locals := 0 }) (va_Pc [va_re ad p0, .int p1, .int p2] (kB D ct ad Z G M sz)) (va_Qi (fun (q : Int32) (_ : Unit) => q = y.2) (fun _ t => kE D ct ad G (wA ad G sz) y.1 t) (wA ad G sz)) 0 0 (wA ad G sz) := by
  refine Met.ofW (cc := cX11_hash) (maxL := 5) (ret := (some .int)) (by decide) rfl ?_
  intro p e s m args below meth c s₁ B hml hv
  obtain ⟨rfl, hsz, hP, hK, hD0, hZ, hN⟩ := hv
  have hx := B.exec
  have hb := B.bytes
  have hr := B.returns
  have hts := atoms_spec (ws := wsX11_hash) B.pre
  have hown : s.vm.findClass RX11 = some m.cls := findClass_of_methodNamed B.named
  have hlocks := B.notSynchronized
  subst hsz
  have hD := wD_self (sz := s.heap.size) hD0
  have hA9 : ∀ q, s.heap.size ≤ q → wA ad G s.heap.size q := fun q h => Or.inr h
  generalize hAe : wA ad G s.heap.size = A at hD hA9 hZ ⊢
  have hS : va_S A s.heap s.heap [] := va_S.rf
  have hl := lv_entry ([va_re ad p0, .int p1, .int p2]) (n := 5) (by cases p0 <;> exact Nat.le_of_ble_eq_true rfl)
  rw [lg_entry_eq]
  generalize (lg_sl ([va_re ad p0, .int p1, .int p2]) ++ List.replicate (5 - (lg_sl ([va_re ad p0, .int p1, .int p2])).length) Slot.unset).toArray = ls at hl ⊢
  have hl : lv_has ls 5 [(0, va_re ad p0), (1, .int p1), (2, .int p2)] := by have e9 : lv_args 0 [va_re ad p0, .int p1, .int p2] = [(0, va_re ad p0), (1, .int p1), (2, .int p2)] := (by cases p0 <;> rfl); rw [e9] at hl; exact hl
  unfold FX11_hash at hF
  refine lv_iconst (v := (0 : Int32)) hx hb dX11_hash_0 (by decide) ?_
  refine lv_istore_n (lv' := [(3, .int (0 : Int32)), (0, va_re ad p0), (1, .int p1), (2, .int p2)]) hx hb dX11_hash_1 rfl hl (by decide) rfl (fun ls hl => ?_)
  refine lv_iload_n hx hb dX11_hash_2 rfl (lv_at hl 2 rfl) ?_
  refine lv_istore (lv' := [(4, .int p1), (3, .int (0 : Int32)), (0, va_re ad p0), (1, .int p1), (2, .int p2)]) hx hb dX11_hash_3 hl (by decide) rfl (fun ls hl => ?_)
  obtain ⟨y1, hy1, hF⟩ := bnd_some hF
  have K1 : ∀ (H : Heap) (locs : List Loc) (ls : Array Slot), va_P D classes (wld ct ad G M) H → va_D A (wld ct ad G M) → va_S A s.heap H locs → lv_has ls 5 [(4, .int y1.2), (3, .int y1.1), (0, va_re ad p0), (1, .int p1), (2, .int p2)] → W p l e (headSpec wsX11_hash ({ frames := 0, cells := 0, slots := 0, locals := 0 })).room s m ([va_re ad p0, .int p1, .int p2] : List Value).toArray below meth c H locs 0 0 (MQ below (va_Qi (fun (q : Int32) (_ : Unit) => q = y.2) (fun _ t => kE D ct ad G A y.1 t) A) ([va_re ad p0, .int p1, .int p2] : List Value).toArray s 0 0 A) (F0 m 36 ls []) := by
    intro H locs ls hP hD hS hl
    refine lv_iload_n hx hb dX11_hash_36 rfl (lv_at hl 1 rfl) ?_
    obtain rfl := Option.some.inj hF
    exact W.iret (v := y1.1) hx hb hr (fun t ht hW => ⟨⟨_, (), rfl, rfl, ⟨by rw [ht]; exact hP, va_K.moved hW.alike hK, hD⟩⟩, hS.F ht⟩) hS.2.2 dX11_hash_37
  clear hF
  refine itr_rule (fun (s2 : Int32 × Int32) => ∀ (H : Heap) (locs : List Loc) (ls : Array Slot), va_P D classes (wld ct ad G M) H → va_D A (wld ct ad G M) → va_S A s.heap H locs → lv_has ls 5 [(4, .int s2.2), (3, .int s2.1), (0, va_re ad p0), (1, .int p1), (2, .int p2)] → W p l e (headSpec wsX11_hash ({ frames := 0, cells := 0, slots := 0, locals := 0 })).room s m ([va_re ad p0, .int p1, .int p2] : List Value).toArray below meth c H locs 0 0 (MQ below (va_Qi (fun (q : Int32) (_ : Unit) => q = y.2) (fun _ t => kE D ct ad G A y.1 t) A) ([va_re ad p0, .int p1, .int p2] : List Value).toArray s 0 0 A) (F0 m 5 ls [])) ?_ _ _ hy1 _ _ _ hP hD hS (lv_sub hl [0, 1, 2, 3, 4] rfl)
  rintro s2 ⟨z4, hF, hwz4⟩ H locs ls hP hD hS hl
  try dsimp only at hF
  refine lv_iload hx hb dX11_hash_5 (lv_at hl 0 rfl) ?_
  refine lv_iload_n hx hb dX11_hash_7 rfl (lv_at hl 3 rfl) ?_
  refine lv_iload_n hx hb dX11_hash_8 rfl (lv_at hl 4 rfl) ?_
  refine lv_iadd hx hb dX11_hash_9 ?_
  obtain ⟨x5, ex5, hF⟩ := ltt_some hF
  refine lv_topi (fun zx5 ezx5 => ?_)
  obtain rfl : x5 = zx5 := ex5.trans ezx5.symm
  refine lv_icmp_ge (tgt := 36) hx hb dX11_hash_10 (by decide) (fun c6 => ?_) (fun c6 => ?_)
  · rw [if_pos c6] at hF
    obtain rfl := Option.some.inj hF
    subst hwz4
    exact K1 _ _ _ hP hD hS (lv_sub hl [0, 1, 2, 3, 4] rfl)
  · rw [if_neg c6] at hF
    refine lv_iload hx hb dX11_hash_13 (lv_at hl 0 rfl) ?_
    refine lv_aloadq_n hx hb dX11_hash_15 rfl (lv_at hl 2 rfl) ?_
    obtain ⟨b7, ho7, hc7, hk7, hF⟩ := dr_some hF
    refine W_st (st' := [.ref (ad b7), .int s2.2]) (by rw [va_some ho7]) ?_
    refine va_alen (v := Int32.ofNat (G.2.2 b7)) hx hb hK hP b7 1 (wld_i ct ad G M hc7 hk7) rfl rfl dX11_hash_16 ?_
    obtain ⟨x8, ex8, hF⟩ := ltt_some hF
    refine lv_topi (fun zx8 ezx8 => ?_)
    obtain rfl : x8 = zx8 := ex8.trans ezx8.symm
    refine lv_icmp_ge (tgt := 36) hx hb dX11_hash_17 (by decide) (fun c9 => ?_) (fun c9 => ?_)
    · rw [if_pos c9] at hF
      obtain rfl := Option.some.inj hF
      subst hwz4
      exact K1 _ _ _ hP hD hS (lv_sub hl [0, 1, 2, 3, 4] rfl)
    · rw [if_neg c9] at hF
      refine lv_bipush (v := (31 : Int32)) hx hb dX11_hash_20 (by decide) ?_
      refine lv_iload_n hx hb dX11_hash_22 rfl (lv_at hl 1 rfl) ?_
      refine lv_imul hx hb dX11_hash_23 ?_
      obtain ⟨x10, ex10, hF⟩ := ltt_some hF
      refine lv_topi (fun zx10 ezx10 => ?_)
      obtain rfl : x10 = zx10 := ex10.trans ezx10.symm
      refine lv_aloadq_n hx hb dX11_hash_24 rfl (lv_at hl 2 rfl) ?_
      refine lv_iload hx hb dX11_hash_25 (lv_at hl 0 rfl) ?_
      refine W_st (st' := [.int s2.2, .ref (ad b7), .int x10]) (by rw [va_some ho7]) ?_
      obtain ⟨hvc, hF⟩ := chk_some hF
      refine va_iald hx hb hK hP b7 1 (wld_i ct ad G M hc7 hk7) rfl hvc dX11_hash_27 ?_
      obtain ⟨x11, ex11, hF⟩ := ltt_some hF
      refine lv_topi (fun zx11 ezx11 => ?_)
      obtain rfl : x11 = zx11 := ex11.trans ezx11.symm
      refine lv_iadd hx hb dX11_hash_28 ?_
      obtain ⟨x12, ex12, hF⟩ := ltt_some hF
      refine lv_topi (fun zx12 ezx12 => ?_)
      obtain rfl : x12 = zx12 := ex12.trans ezx12.symm
      refine lv_istore_n (lv' := [(3, .int x12), (4, .int s2.2), (0, va_re ad p0), (1, .int p1), (2, .int p2)]) hx hb dX11_hash_29 rfl hl (by decide) rfl (fun ls hl => ?_)
      obtain ⟨x13, ex13, hF⟩ := ltt_some hF
      refine lv_iinc (v := x13) (lv' := [(4, .int x13), (3, .int x12), (0, va_re ad p0), (1, .int p1), (2, .int p2)]) hx hb dX11_hash_30 hl (k := 1) rfl (by rw [ex13]; rfl) (by decide) rfl (fun ls hl => ?_)
      refine lv_goto (tgt := 5) hx hb dX11_hash_33 (by decide) ?_
      obtain rfl := Option.some.inj hF
      exact hwz4 _ _ _ hP hD hS (lv_sub hl [0, 1, 2, 3, 4] rfl)
theorem ggX11_setting_X0_maySet : GoodIn wsX11_setting wsX0_maySet := goodIn_r _ [9, 10, 11] (by decide +kernel) (by decide +kernel)
set_option maxRecDepth 20000 in
theorem gX11_setting_X0_maySet : GoodIn wsX11_setting (wsV RX11 307 RX0 yX0_maySet wsX0_maySet) := goodIn_app (goodIn_of _ (by decide +kernel)) ggX11_setting_X0_maySet
theorem dX11_setting_0 : decode cX11_setting 0 = .ok (.aload_n 0, 1) := by decide +kernel
theorem dX11_setting_1 : decode cX11_setting 1 = .ok (.getfield 31, 3) := by decide +kernel
theorem dX11_setting_4 : decode cX11_setting 4 = .ok (.iload_n 1, 1) := by decide +kernel
theorem dX11_setting_5 : decode cX11_setting 5 = .ok (.iload_n 2, 1) := by decide +kernel
theorem dX11_setting_6 : decode cX11_setting 6 = .ok (.invokevirtual 307, 3) := by decide +kernel
theorem dX11_setting_9 : decode cX11_setting 9 = .ok (.ifCond .ne 14, 3) := by decide +kernel
theorem dX11_setting_12 : decode cX11_setting 12 = .ok (.new 51, 3) := by decide +kernel
theorem dX11_setting_15 : decode cX11_setting 15 = .ok (.dup, 1) := by decide +kernel
theorem dX11_setting_16 : decode cX11_setting 16 = .ok (.ldc_w 311, 3) := by decide +kernel
theorem dX11_setting_19 : decode cX11_setting 19 = .ok (.invokespecial 55, 3) := by decide +kernel
theorem dX11_setting_22 : decode cX11_setting 22 = .ok (.athrow, 1) := by decide +kernel
theorem dX11_setting_23 : decode cX11_setting 23 = .ok (.aload_n 0, 1) := by decide +kernel
theorem dX11_setting_24 : decode cX11_setting 24 = .ok (.getfield 31, 3) := by decide +kernel
theorem dX11_setting_27 : decode cX11_setting 27 = .ok (.getfield 313, 3) := by decide +kernel
theorem dX11_setting_30 : decode cX11_setting 30 = .ok (.iload_n 1, 1) := by decide +kernel
theorem dX11_setting_31 : decode cX11_setting 31 = .ok (.iaload, 1) := by decide +kernel
theorem dX11_setting_32 : decode cX11_setting 32 = .ok (.istore_n 3, 1) := by decide +kernel
theorem dX11_setting_33 : decode cX11_setting 33 = .ok (.aload_n 0, 1) := by decide +kernel
theorem dX11_setting_34 : decode cX11_setting 34 = .ok (.getfield 31, 3) := by decide +kernel
theorem dX11_setting_37 : decode cX11_setting 37 = .ok (.getfield 313, 3) := by decide +kernel
theorem dX11_setting_40 : decode cX11_setting 40 = .ok (.iload_n 1, 1) := by decide +kernel
theorem dX11_setting_41 : decode cX11_setting 41 = .ok (.iload_n 2, 1) := by decide +kernel
theorem dX11_setting_42 : decode cX11_setting 42 = .ok (.iastore, 1) := by decide +kernel
theorem dX11_setting_43 : decode cX11_setting 43 = .ok (.iload_n 3, 1) := by decide +kernel
theorem dX11_setting_44 : decode cX11_setting 44 = .ok (.ireturn, 1) := by decide +kernel
def FX11_setting (G : GG) (M : DD) (a : Nat) (p0 : Int32) (p1 : Int32) : Option (DD × Int32) :=
  dr G 0 ((M.2 a 4)) fun b1 =>
  bnd (FX0_maySet G M b1 p0 p1) fun y2 =>
  if y2.2 = ((0 : Int32)) then (none) else
  (dr G 0 ((y2.1.2 a 4)) fun b4 =>
  dr G 13 ((y2.1.2 b4 0)) fun b5 =>
  chk (¬ (p0 < 0 ∨ G.2.2 b5 ≤ p0.toNatClampNeg)) <|
  ltt (y2.1.1 b5 p0.toNatClampNeg) fun x6 =>
  chk (¬ (p0 < 0 ∨ G.2.2 b5 ≤ p0.toNatClampNeg)) <|
  ltt (uI y2.1 b5 p0.toNatClampNeg p1) fun M7 =>
  some (M7, x6))
set_option maxHeartbeats 4000000 in
set_option maxRecDepth 100000 in
theorem kX11_setting (l : Launch) (D : va_G) (ct : CT) (ad : Nat → Nat) (Z : Nat → Nat) (G : GG) (M : DD) (sz : Nat) (a : Nat) (p0 : Int32) (p1 : Int32) (y : DD × Int32) (hc : a < G.1) (hk : G.2.1 a = 11) (hF : FX11_setting G M a p0 p1 = some y) : Met l yX11_setting wsX11_setting ({ frames := 1, cells := 0, slots := 0, locals := 22 }) (va_Pc [.ref (ad a), .int p0, .int p1] (kB D ct ad Z G M sz)) (va_Qi (fun (q : Int32) (_ : Unit) => q = y.2) (fun _ t => kE D ct ad G (wA ad G sz) y.1 t) (wA ad G sz)) 0 0 (wA ad G sz) := by
  refine Met.ofW (cc := cX11_setting) (maxL := 4) (ret := (some .int)) (by decide) rfl ?_
  intro p e s m args below meth c s₁ B hml hv
  obtain ⟨rfl, hsz, hP, hK, hD0, hZ, hN⟩ := hv
  have hx := B.exec
  have hb := B.bytes
  have hr := B.returns
  have hts := atoms_spec (ws := wsX11_setting) B.pre
  have hown : s.vm.findClass RX11 = some m.cls := findClass_of_methodNamed B.named
  have hlocks := B.notSynchronized
  subst hsz
  have hD := wD_self (sz := s.heap.size) hD0
  have hA9 : ∀ q, s.heap.size ≤ q → wA ad G s.heap.size q := fun q h => Or.inr h
  generalize hAe : wA ad G s.heap.size = A at hD hA9 hZ ⊢
  have hS : va_S A s.heap s.heap [] := va_S.rf
  have hl := lv_entry ([.ref (ad a), .int p0, .int p1]) (n := 4) (Nat.le_of_ble_eq_true rfl)
  rw [lg_entry_eq]
  generalize (lg_sl ([.ref (ad a), .int p0, .int p1]) ++ List.replicate (4 - (lg_sl ([.ref (ad a), .int p0, .int p1])).length) Slot.unset).toArray = ls at hl ⊢
  have hl : lv_has ls 4 [(0, .ref (ad a)), (1, .int p0), (2, .int p1)] := hl
  unfold FX11_setting at hF
  refine lv_aload_n hx hb dX11_setting_0 rfl (lv_at hl 0 rfl) ?_
  refine va_get (D := D) (ci := 11) (v := va_re ad (M.2 a 4)) (C := RX11) (T := TX11) (N := 5) hx hb hts (by decide +kernel) hown hK hP a (wld_o ct ad G M hc hk (by decide)) rfl 4 (by decide) (hts (.fieldLink RX11 31 "VideoSuite" "coder" "LVideoSuite$Coder;") (by decide +kernel)) (fun _ h9 => h9) rfl dX11_setting_1 ?_
  refine lv_iload_n hx hb dX11_setting_4 rfl (lv_at hl 1 rfl) ?_
  refine lv_iload_n hx hb dX11_setting_5 rfl (lv_at hl 2 rfl) ?_
  obtain ⟨b1, ho1, hc1, hk1, hF⟩ := dr_some hF
  refine W_st (st' := [.int p1, .int p0, .ref (ad b1)]) (by rw [va_some ho1]) ?_
  obtain ⟨y2, hy2, hF⟩ := bnd_some hF
  have hf9 := wA_in hD hA9 hS
  refine va_calli (va_runV (As := [.int p0, .int p1]) (rest := []) ⟨hx, hb, hml, hown, hts⟩ (kX0_maySet l D ct ad Z G M s.heap.size b1 p0 p1 y2 hc1 hk1 hy2) (cwV 2 hts gX11_setting_X0_maySet rfl rfl rfl (by decide +kernel) ⟨Nat.le_of_ble_eq_true rfl, Nat.le_of_ble_eq_true rfl⟩) ⟨fun a U g mk q => by obtain ⟨q0, q1, qP, qK, qD, qZ, qN⟩ := q; exact ⟨q0, q1, qP, va_K.moved (u := U) (U := U.calling g mk a) (Vm.Alike.refl U.vm) qK, qD, sF.moved (u := U) (U := U.calling g mk a) (Vm.Alike.refl U.vm) qZ, nF.same rfl qN⟩, va_recv hK hP (ci := 0) (q0 := b1) rfl (wld_o ct ad G M hc1 hk1 (by decide)), fun U hU hW => ⟨rfl, by rw [hU], by rw [hU]; exact hP, va_K.moved hW.alike hK, hD.weaken (fun _ _ _ _ => trivial), by rw [hU]; exact ((hZ.kept hS.2.1).narrow hf9).moved hW.alike, hN.warm hW⟩⟩ rfl rfl hl.1 rfl (lv_room (Nat.le_of_ble_eq_true rfl)) dX11_setting_6 ⟨(Nat.zero_le _), (Nat.zero_le _)⟩) hS (fun q _ h => hf9 q h) hf9 (fun r u t H locs ht hvm hw hB hz1 hk1 hS => ?_)
  obtain ⟨hP, hK9, hD9⟩ := hB
  rw [ht] at hP
  try dsimp only at hw
  subst hw
  have hD := hD9.weaken (fun _ q _ h => hf9 q.1 h)
  refine lv_if_ne (tgt := 23) hx hb dX11_setting_9 (by decide) (fun c3 => ?_) (fun c3 => ?_)
  · rw [if_neg c3] at hF
    refine lv_aload_n hx hb dX11_setting_23 rfl (lv_at hl 0 rfl) ?_
    refine va_get (D := D) (ci := 11) (v := va_re ad (y2.1.2 a 4)) (C := RX11) (T := TX11) (N := 5) hx hb hts (by decide +kernel) hown hK hP a (wld_o ct ad G y2.1 hc hk (by decide)) rfl 4 (by decide) (hts (.fieldLink RX11 31 "VideoSuite" "coder" "LVideoSuite$Coder;") (by decide +kernel)) (fun _ h9 => h9) rfl dX11_setting_24 ?_
    obtain ⟨b4, ho4, hc4, hk4, hF⟩ := dr_some hF
    refine W_st (st' := [.ref (ad b4)]) (by rw [va_some ho4]) ?_
    refine va_get (D := D) (ci := 0) (v := va_re ad (y2.1.2 b4 0)) (C := RX0) (T := TX0) (N := 21) hx hb hts (by decide +kernel) hown hK hP b4 (wld_o ct ad G y2.1 hc4 hk4 (by decide)) rfl 0 (by decide) (hts (.fieldLink RX11 313 "VideoSuite$Coder" "setting" "[I") (by decide +kernel)) (fun _ h9 => h9) rfl dX11_setting_27 ?_
    refine lv_iload_n hx hb dX11_setting_30 rfl (lv_at hl 1 rfl) ?_
    obtain ⟨b5, ho5, hc5, hk5, hF⟩ := dr_some hF
    refine W_st (st' := [.int p0, .ref (ad b5)]) (by rw [va_some ho5]) ?_
    obtain ⟨hvc, hF⟩ := chk_some hF
    refine va_iald hx hb hK hP b5 1 (wld_i ct ad G y2.1 hc5 hk5) rfl hvc dX11_setting_31 ?_
    obtain ⟨x6, ex6, hF⟩ := ltt_some hF
    refine lv_topi (fun zx6 ezx6 => ?_)
    obtain rfl : x6 = zx6 := ex6.trans ezx6.symm
    refine lv_istore_n (lv' := [(3, .int x6), (0, .ref (ad a)), (1, .int p0), (2, .int p1)]) hx hb dX11_setting_32 rfl hl (by decide) rfl (fun ls hl => ?_)
    refine lv_aload_n hx hb dX11_setting_33 rfl (lv_at hl 1 rfl) ?_
    refine va_get (D := D) (ci := 11) (v := va_re ad (y2.1.2 a 4)) (C := RX11) (T := TX11) (N := 5) hx hb hts (by decide +kernel) hown hK hP a (wld_o ct ad G y2.1 hc hk (by decide)) rfl 4 (by decide) (hts (.fieldLink RX11 31 "VideoSuite" "coder" "LVideoSuite$Coder;") (by decide +kernel)) (fun _ h9 => h9) rfl dX11_setting_34 ?_
    refine W_st (st' := [.ref (ad b4)]) (by rw [va_some ho4]) ?_
    refine va_get (D := D) (ci := 0) (v := va_re ad (y2.1.2 b4 0)) (C := RX0) (T := TX0) (N := 21) hx hb hts (by decide +kernel) hown hK hP b4 (wld_o ct ad G y2.1 hc4 hk4 (by decide)) rfl 0 (by decide) (hts (.fieldLink RX11 313 "VideoSuite$Coder" "setting" "[I") (by decide +kernel)) (fun _ h9 => h9) rfl dX11_setting_37 ?_
    refine lv_iload_n hx hb dX11_setting_40 rfl (lv_at hl 2 rfl) ?_
    refine lv_iload_n hx hb dX11_setting_41 rfl (lv_at hl 3 rfl) ?_
    refine W_st (st' := [.int p1, .int p0, .ref (ad b5)]) (by rw [va_some ho5]) ?_
    obtain ⟨hvc, hF⟩ := chk_some hF
    refine va_iast hx hb hK hP hD hS b5 1 (wld_i ct ad G y2.1 hc5 hk5) rfl hvc dX11_setting_42 (fun H locs hP hD hS => ?_)
    obtain ⟨M7, eM7, hF⟩ := ltt_some hF
    rw [set_i ct ad G y2.1 hc5 hk5, ← eM7] at hP hD
    refine lv_iload_n hx hb dX11_setting_43 rfl (lv_at hl 0 rfl) ?_
    obtain rfl := Option.some.inj hF
    exact W.iret (v := x6) hx hb hr (fun t ht hW => ⟨⟨_, (), rfl, rfl, ⟨by rw [ht]; exact hP, va_K.moved hW.alike hK, hD⟩⟩, hS.F ht⟩) hS.2.2 dX11_setting_44
  · rw [if_pos c3] at hF
    cases hF
theorem dX2_mendFromSides_0 : decode cX2_mendFromSides 0 = .ok (.iload_n 2, 1) := by decide +kernel
theorem dX2_mendFromSides_1 : decode cX2_mendFromSides 1 = .ok (.ifCond .ne 8, 3) := by decide +kernel
theorem dX2_mendFromSides_4 : decode cX2_mendFromSides 4 = .ok (.bipush 16, 2) := by decide +kernel
theorem dX2_mendFromSides_6 : decode cX2_mendFromSides 6 = .ok (.goto 5, 3) := by decide +kernel
theorem dX2_mendFromSides_9 : decode cX2_mendFromSides 9 = .ok (.bipush 8, 2) := by decide +kernel
theorem dX2_mendFromSides_11 : decode cX2_mendFromSides 11 = .ok (.istore_n 3, 1) := by decide +kernel
theorem dX2_mendFromSides_12 : decode cX2_mendFromSides 12 = .ok (.iload_n 3, 1) := by decide +kernel
theorem dX2_mendFromSides_13 : decode cX2_mendFromSides 13 = .ok (.aload_n 0, 1) := by decide +kernel
theorem dX2_mendFromSides_14 : decode cX2_mendFromSides 14 = .ok (.getfield 49, 3) := by decide +kernel
theorem dX2_mendFromSides_17 : decode cX2_mendFromSides 17 = .ok (.imul, 1) := by decide +kernel
theorem dX2_mendFromSides_18 : decode cX2_mendFromSides 18 = .ok (.istore 4, 2) := by decide +kernel
theorem dX2_mendFromSides_20 : decode cX2_mendFromSides 20 = .ok (.iload_n 3, 1) := by decide +kernel
theorem dX2_mendFromSides_21 : decode cX2_mendFromSides 21 = .ok (.iload_n 1, 1) := by decide +kernel
theorem dX2_mendFromSides_22 : decode cX2_mendFromSides 22 = .ok (.aload_n 0, 1) := by decide +kernel
theorem dX2_mendFromSides_23 : decode cX2_mendFromSides 23 = .ok (.getfield 49, 3) := by decide +kernel
theorem dX2_mendFromSides_26 : decode cX2_mendFromSides 26 = .ok (.irem, 1) := by decide +kernel
theorem dX2_mendFromSides_27 : decode cX2_mendFromSides 27 = .ok (.imul, 1) := by decide +kernel
theorem dX2_mendFromSides_28 : decode cX2_mendFromSides 28 = .ok (.istore 5, 2) := by decide +kernel
theorem dX2_mendFromSides_30 : decode cX2_mendFromSides 30 = .ok (.iload_n 3, 1) := by decide +kernel
theorem dX2_mendFromSides_31 : decode cX2_mendFromSides 31 = .ok (.iload_n 1, 1) := by decide +kernel
theorem dX2_mendFromSides_32 : decode cX2_mendFromSides 32 = .ok (.aload_n 0, 1) := by decide +kernel
theorem dX2_mendFromSides_33 : decode cX2_mendFromSides 33 = .ok (.getfield 49, 3) := by decide +kernel
theorem dX2_mendFromSides_36 : decode cX2_mendFromSides 36 = .ok (.idiv, 1) := by decide +kernel
theorem dX2_mendFromSides_37 : decode cX2_mendFromSides 37 = .ok (.imul, 1) := by decide +kernel
theorem dX2_mendFromSides_38 : decode cX2_mendFromSides 38 = .ok (.istore 6, 2) := by decide +kernel
theorem dX2_mendFromSides_40 : decode cX2_mendFromSides 40 = .ok (.aload_n 0, 1) := by decide +kernel
theorem dX2_mendFromSides_41 : decode cX2_mendFromSides 41 = .ok (.getfield 58, 3) := by decide +kernel
theorem dX2_mendFromSides_44 : decode cX2_mendFromSides 44 = .ok (.iload_n 2, 1) := by decide +kernel
theorem dX2_mendFromSides_45 : decode cX2_mendFromSides 45 = .ok (.aaload, 1) := by decide +kernel
theorem dX2_mendFromSides_46 : decode cX2_mendFromSides 46 = .ok (.astore 7, 2) := by decide +kernel
theorem dX2_mendFromSides_48 : decode cX2_mendFromSides 48 = .ok (.iconst 0, 1) := by decide +kernel
theorem dX2_mendFromSides_49 : decode cX2_mendFromSides 49 = .ok (.istore 8, 2) := by decide +kernel
theorem dX2_mendFromSides_51 : decode cX2_mendFromSides 51 = .ok (.iload 8, 2) := by decide +kernel
theorem dX2_mendFromSides_53 : decode cX2_mendFromSides 53 = .ok (.iload_n 3, 1) := by decide +kernel
theorem dX2_mendFromSides_54 : decode cX2_mendFromSides 54 = .ok (.iload_n 3, 1) := by decide +kernel
theorem dX2_mendFromSides_55 : decode cX2_mendFromSides 55 = .ok (.imul, 1) := by decide +kernel
theorem dX2_mendFromSides_56 : decode cX2_mendFromSides 56 = .ok (.if_icmp .ge 161, 3) := by decide +kernel
theorem dX2_mendFromSides_59 : decode cX2_mendFromSides 59 = .ok (.iload 8, 2) := by decide +kernel
theorem dX2_mendFromSides_61 : decode cX2_mendFromSides 61 = .ok (.iload_n 3, 1) := by decide +kernel
theorem dX2_mendFromSides_62 : decode cX2_mendFromSides 62 = .ok (.irem, 1) := by decide +kernel
theorem dX2_mendFromSides_63 : decode cX2_mendFromSides 63 = .ok (.istore 9, 2) := by decide +kernel
theorem dX2_mendFromSides_65 : decode cX2_mendFromSides 65 = .ok (.iload 8, 2) := by decide +kernel
theorem dX2_mendFromSides_67 : decode cX2_mendFromSides 67 = .ok (.iload_n 3, 1) := by decide +kernel
theorem dX2_mendFromSides_68 : decode cX2_mendFromSides 68 = .ok (.idiv, 1) := by decide +kernel
theorem dX2_mendFromSides_69 : decode cX2_mendFromSides 69 = .ok (.istore 10, 2) := by decide +kernel
theorem dX2_mendFromSides_71 : decode cX2_mendFromSides 71 = .ok (.iload 6, 2) := by decide +kernel
theorem dX2_mendFromSides_73 : decode cX2_mendFromSides 73 = .ok (.ifCond .le 22, 3) := by decide +kernel
theorem dX2_mendFromSides_76 : decode cX2_mendFromSides 76 = .ok (.aload 7, 2) := by decide +kernel
theorem dX2_mendFromSides_78 : decode cX2_mendFromSides 78 = .ok (.iload 6, 2) := by decide +kernel
theorem dX2_mendFromSides_80 : decode cX2_mendFromSides 80 = .ok (.iconst 1, 1) := by decide +kernel
theorem dX2_mendFromSides_81 : decode cX2_mendFromSides 81 = .ok (.isub, 1) := by decide +kernel
theorem dX2_mendFromSides_82 : decode cX2_mendFromSides 82 = .ok (.iload 4, 2) := by decide +kernel
theorem dX2_mendFromSides_84 : decode cX2_mendFromSides 84 = .ok (.imul, 1) := by decide +kernel
theorem dX2_mendFromSides_85 : decode cX2_mendFromSides 85 = .ok (.iload 5, 2) := by decide +kernel
theorem dX2_mendFromSides_87 : decode cX2_mendFromSides 87 = .ok (.iadd, 1) := by decide +kernel
theorem dX2_mendFromSides_88 : decode cX2_mendFromSides 88 = .ok (.iload 9, 2) := by decide +kernel
theorem dX2_mendFromSides_90 : decode cX2_mendFromSides 90 = .ok (.iadd, 1) := by decide +kernel
theorem dX2_mendFromSides_91 : decode cX2_mendFromSides 91 = .ok (.iaload, 1) := by decide +kernel
theorem dX2_mendFromSides_92 : decode cX2_mendFromSides 92 = .ok (.goto 4, 3) := by decide +kernel
theorem dX2_mendFromSides_95 : decode cX2_mendFromSides 95 = .ok (.iconst 0, 1) := by decide +kernel
theorem dX2_mendFromSides_96 : decode cX2_mendFromSides 96 = .ok (.istore 11, 2) := by decide +kernel
theorem dX2_mendFromSides_98 : decode cX2_mendFromSides 98 = .ok (.iload 5, 2) := by decide +kernel
theorem dX2_mendFromSides_100 : decode cX2_mendFromSides 100 = .ok (.ifCond .le 22, 3) := by decide +kernel
theorem dX2_mendFromSides_103 : decode cX2_mendFromSides 103 = .ok (.aload 7, 2) := by decide +kernel
theorem dX2_mendFromSides_105 : decode cX2_mendFromSides 105 = .ok (.iload 6, 2) := by decide +kernel
theorem dX2_mendFromSides_107 : decode cX2_mendFromSides 107 = .ok (.iload 10, 2) := by decide +kernel
theorem dX2_mendFromSides_109 : decode cX2_mendFromSides 109 = .ok (.iadd, 1) := by decide +kernel
theorem dX2_mendFromSides_110 : decode cX2_mendFromSides 110 = .ok (.iload 4, 2) := by decide +kernel
theorem dX2_mendFromSides_112 : decode cX2_mendFromSides 112 = .ok (.imul, 1) := by decide +kernel
theorem dX2_mendFromSides_113 : decode cX2_mendFromSides 113 = .ok (.iload 5, 2) := by decide +kernel
theorem dX2_mendFromSides_115 : decode cX2_mendFromSides 115 = .ok (.iadd, 1) := by decide +kernel
theorem dX2_mendFromSides_116 : decode cX2_mendFromSides 116 = .ok (.iconst 1, 1) := by decide +kernel
theorem dX2_mendFromSides_117 : decode cX2_mendFromSides 117 = .ok (.isub, 1) := by decide +kernel
theorem dX2_mendFromSides_118 : decode cX2_mendFromSides 118 = .ok (.iaload, 1) := by decide +kernel
theorem dX2_mendFromSides_119 : decode cX2_mendFromSides 119 = .ok (.goto 4, 3) := by decide +kernel
theorem dX2_mendFromSides_122 : decode cX2_mendFromSides 122 = .ok (.iconst 0, 1) := by decide +kernel
theorem dX2_mendFromSides_123 : decode cX2_mendFromSides 123 = .ok (.istore 12, 2) := by decide +kernel
theorem dX2_mendFromSides_125 : decode cX2_mendFromSides 125 = .ok (.iload 6, 2) := by decide +kernel
theorem dX2_mendFromSides_127 : decode cX2_mendFromSides 127 = .ok (.ifCond .le 10, 3) := by decide +kernel
theorem dX2_mendFromSides_130 : decode cX2_mendFromSides 130 = .ok (.iload_n 3, 1) := by decide +kernel
theorem dX2_mendFromSides_131 : decode cX2_mendFromSides 131 = .ok (.iload 10, 2) := by decide +kernel
theorem dX2_mendFromSides_133 : decode cX2_mendFromSides 133 = .ok (.isub, 1) := by decide +kernel
theorem dX2_mendFromSides_134 : decode cX2_mendFromSides 134 = .ok (.goto 4, 3) := by decide +kernel
theorem dX2_mendFromSides_137 : decode cX2_mendFromSides 137 = .ok (.iconst 0, 1) := by decide +kernel
theorem dX2_mendFromSides_138 : decode cX2_mendFromSides 138 = .ok (.istore 13, 2) := by decide +kernel
theorem dX2_mendFromSides_140 : decode cX2_mendFromSides 140 = .ok (.iload 5, 2) := by decide +kernel
theorem dX2_mendFromSides_142 : decode cX2_mendFromSides 142 = .ok (.ifCond .le 10, 3) := by decide +kernel
theorem dX2_mendFromSides_145 : decode cX2_mendFromSides 145 = .ok (.iload_n 3, 1) := by decide +kernel
theorem dX2_mendFromSides_146 : decode cX2_mendFromSides 146 = .ok (.iload 9, 2) := by decide +kernel
theorem dX2_mendFromSides_148 : decode cX2_mendFromSides 148 = .ok (.isub, 1) := by decide +kernel
theorem dX2_mendFromSides_149 : decode cX2_mendFromSides 149 = .ok (.goto 4, 3) := by decide +kernel
theorem dX2_mendFromSides_152 : decode cX2_mendFromSides 152 = .ok (.iconst 0, 1) := by decide +kernel
theorem dX2_mendFromSides_153 : decode cX2_mendFromSides 153 = .ok (.istore 14, 2) := by decide +kernel
theorem dX2_mendFromSides_155 : decode cX2_mendFromSides 155 = .ok (.aload 7, 2) := by decide +kernel
theorem dX2_mendFromSides_157 : decode cX2_mendFromSides 157 = .ok (.iload 6, 2) := by decide +kernel
theorem dX2_mendFromSides_159 : decode cX2_mendFromSides 159 = .ok (.iload 10, 2) := by decide +kernel
theorem dX2_mendFromSides_161 : decode cX2_mendFromSides 161 = .ok (.iadd, 1) := by decide +kernel
theorem dX2_mendFromSides_162 : decode cX2_mendFromSides 162 = .ok (.iload 4, 2) := by decide +kernel
theorem dX2_mendFromSides_164 : decode cX2_mendFromSides 164 = .ok (.imul, 1) := by decide +kernel
theorem dX2_mendFromSides_165 : decode cX2_mendFromSides 165 = .ok (.iload 5, 2) := by decide +kernel
theorem dX2_mendFromSides_167 : decode cX2_mendFromSides 167 = .ok (.iadd, 1) := by decide +kernel
theorem dX2_mendFromSides_168 : decode cX2_mendFromSides 168 = .ok (.iload 9, 2) := by decide +kernel
theorem dX2_mendFromSides_170 : decode cX2_mendFromSides 170 = .ok (.iadd, 1) := by decide +kernel
theorem dX2_mendFromSides_171 : decode cX2_mendFromSides 171 = .ok (.iload 13, 2) := by decide +kernel
theorem dX2_mendFromSides_173 : decode cX2_mendFromSides 173 = .ok (.iload 14, 2) := by decide +kernel
theorem dX2_mendFromSides_175 : decode cX2_mendFromSides 175 = .ok (.iadd, 1) := by decide +kernel
theorem dX2_mendFromSides_176 : decode cX2_mendFromSides 176 = .ok (.ifCond .ne 9, 3) := by decide +kernel
theorem dX2_mendFromSides_179 : decode cX2_mendFromSides 179 = .ok (.sipush 128, 3) := by decide +kernel
theorem dX2_mendFromSides_182 : decode cX2_mendFromSides 182 = .ok (.goto 28, 3) := by decide +kernel
theorem dX2_mendFromSides_185 : decode cX2_mendFromSides 185 = .ok (.iload 11, 2) := by decide +kernel
theorem dX2_mendFromSides_187 : decode cX2_mendFromSides 187 = .ok (.iload 13, 2) := by decide +kernel
theorem dX2_mendFromSides_189 : decode cX2_mendFromSides 189 = .ok (.imul, 1) := by decide +kernel
theorem dX2_mendFromSides_190 : decode cX2_mendFromSides 190 = .ok (.iload 12, 2) := by decide +kernel
theorem dX2_mendFromSides_192 : decode cX2_mendFromSides 192 = .ok (.iload 14, 2) := by decide +kernel
theorem dX2_mendFromSides_194 : decode cX2_mendFromSides 194 = .ok (.imul, 1) := by decide +kernel
theorem dX2_mendFromSides_195 : decode cX2_mendFromSides 195 = .ok (.iadd, 1) := by decide +kernel
theorem dX2_mendFromSides_196 : decode cX2_mendFromSides 196 = .ok (.iload 13, 2) := by decide +kernel
theorem dX2_mendFromSides_198 : decode cX2_mendFromSides 198 = .ok (.iload 14, 2) := by decide +kernel
theorem dX2_mendFromSides_200 : decode cX2_mendFromSides 200 = .ok (.iadd, 1) := by decide +kernel
theorem dX2_mendFromSides_201 : decode cX2_mendFromSides 201 = .ok (.iconst 2, 1) := by decide +kernel
theorem dX2_mendFromSides_202 : decode cX2_mendFromSides 202 = .ok (.idiv, 1) := by decide +kernel
theorem dX2_mendFromSides_203 : decode cX2_mendFromSides 203 = .ok (.iadd, 1) := by decide +kernel
theorem dX2_mendFromSides_204 : decode cX2_mendFromSides 204 = .ok (.iload 13, 2) := by decide +kernel
theorem dX2_mendFromSides_206 : decode cX2_mendFromSides 206 = .ok (.iload 14, 2) := by decide +kernel
theorem dX2_mendFromSides_208 : decode cX2_mendFromSides 208 = .ok (.iadd, 1) := by decide +kernel
theorem dX2_mendFromSides_209 : decode cX2_mendFromSides 209 = .ok (.idiv, 1) := by decide +kernel
theorem dX2_mendFromSides_210 : decode cX2_mendFromSides 210 = .ok (.iastore, 1) := by decide +kernel
theorem dX2_mendFromSides_211 : decode cX2_mendFromSides 211 = .ok (.iinc 8 1, 3) := by decide +kernel
theorem dX2_mendFromSides_214 : decode cX2_mendFromSides 214 = .ok (.goto (-163), 3) := by decide +kernel
theorem dX2_mendFromSides_217 : decode cX2_mendFromSides 217 = .ok (.return_, 1) := by decide +kernel
def FX2_mendFromSides (G : GG) (M : DD) (p0 : Option Nat) (p1 : Int32) (p2 : Int32) : Option (DD) :=
  bnd (if p2 = ((0 : Int32)) then (some ((16 : Int32))) else
  (some ((8 : Int32)))) fun (y1 : Int32) =>
  dr G 4 p0 fun b2 =>
  ltt (M.1 b2 1) fun x3 =>
  ltt ((y1 * x3)) fun x4 =>
  ltt (M.1 b2 1) fun x5 =>
  chk (¬ x5 = 0) <|
  ltt (p1 - p1 / x5 * x5) fun x6 =>
  ltt ((y1 * x6)) fun x7 =>
  ltt (M.1 b2 1) fun x8 =>
  chk (¬ x8 = 0) <|
  ltt (p1 / x8) fun x9 =>
  ltt ((y1 * x9)) fun x10 =>
  dr G 15 ((M.2 b2 4)) fun b11 =>
  chk (¬ (p2 < 0 ∨ G.2.2 b11 ≤ p2.toNatClampNeg)) <|
  bnd (itr (fun (s13 : Int32 × DD) => ((ltt ((y1 * y1)) fun x16 =>
  if x16 ≤ s13.1 then (some (.inr (s13.1, s13.2))) else
  (chk (¬ y1 = 0) <|
  ltt (s13.1 - s13.1 / y1 * y1) fun x18 =>
  chk (¬ y1 = 0) <|
  ltt (s13.1 / y1) fun x19 =>
  bnd (if x10 ≤ ((0 : Int32)) then (some ((0 : Int32))) else
  (ltt ((x10 - ((1 : Int32)))) fun x54 =>
  ltt ((x54 * x4)) fun x55 =>
  ltt ((x55 + x7)) fun x56 =>
  ltt ((x56 + x18)) fun x57 =>
  dr G 13 ((M.2 b11 p2.toNatClampNeg)) fun b58 =>
  chk (¬ (x57 < 0 ∨ G.2.2 b58 ≤ x57.toNatClampNeg)) <|
  ltt (s13.2.1 b58 x57.toNatClampNeg) fun x59 =>
  some (x59))) fun (y20 : Int32) =>
  bnd (if x7 ≤ ((0 : Int32)) then (some ((0 : Int32))) else
  (ltt ((x10 + x19)) fun x47 =>
  ltt ((x47 * x4)) fun x48 =>
  ltt ((x48 + x7)) fun x49 =>
  ltt ((x49 - ((1 : Int32)))) fun x50 =>
  dr G 13 ((M.2 b11 p2.toNatClampNeg)) fun b51 =>
  chk (¬ (x50 < 0 ∨ G.2.2 b51 ≤ x50.toNatClampNeg)) <|
  ltt (s13.2.1 b51 x50.toNatClampNeg) fun x52 =>
  some (x52))) fun (y21 : Int32) =>
  bnd (if x10 ≤ ((0 : Int32)) then (some ((0 : Int32))) else
  (ltt ((y1 - x19)) fun x45 =>
  some (x45))) fun (y22 : Int32) =>
  bnd (if x7 ≤ ((0 : Int32)) then (some ((0 : Int32))) else
  (ltt ((y1 - x18)) fun x43 =>
  some (x43))) fun (y23 : Int32) =>
  ltt ((x10 + x19)) fun x24 =>
  ltt ((x24 * x4)) fun x25 =>
  ltt ((x25 + x7)) fun x26 =>
  ltt ((x26 + x18)) fun x27 =>
  ltt ((y22 + y23)) fun x28 =>
  bnd (if x28 = ((0 : Int32)) then (some ((128 : Int32))) else
  (ltt ((y20 * y22)) fun x34 =>
  ltt ((y21 * y23)) fun x35 =>
  ltt ((x34 + x35)) fun x36 =>
  ltt ((y22 + y23)) fun x37 =>
  ltt (x37 / ((2 : Int32))) fun x38 =>
  ltt ((x36 + x38)) fun x39 =>
  ltt ((y22 + y23)) fun x40 =>
  chk (¬ x40 = 0) <|
  ltt (x39 / x40) fun x41 =>
  some (x41))) fun (y29 : Int32) =>
  dr G 13 ((M.2 b11 p2.toNatClampNeg)) fun b30 =>
  chk (¬ (x27 < 0 ∨ G.2.2 b30 ≤ x27.toNatClampNeg)) <|
  ltt (uI s13.2 b30 x27.toNatClampNeg y29) fun M31 =>
  ltt (s13.1 + (1 : Int32)) fun x32 =>
  some (.inl (x32, M31)))) : Option ((Int32 × DD) ⊕ (Int32 × DD)))) 1000000 ((0 : Int32), M)) fun (y12 : Int32 × DD) =>
  some y12.2
set_option maxHeartbeats 4000000 in
set_option maxRecDepth 100000 in
theorem kX2_mendFromSides (l : Launch) (D : va_G) (ct : CT) (ad : Nat → Nat) (Z : Nat → Nat) (G : GG) (M : DD) (sz : Nat) (p0 : Option Nat) (p1 : Int32) (p2 : Int32) (y : DD) (hF : FX2_mendFromSides G M p0 p1 p2 = some y) : Met l yX2_mendFromSides wsX2_mendFromSides ({ frames := 0, cells := 0, slots := 0, locals := 0 }) (va_Pc [va_re ad p0, .int p1, .int p2] (kB D ct ad Z G M sz)) (va_Qv (fun (_ : Unit) => True) (fun _ t => kE D ct ad G (wA ad G sz) y t) (wA ad G sz)) 0 0 (wA ad G sz) := by
  refine Met.ofW (cc := cX2_mendFromSides) (maxL := 15) (ret := none) (by decide) rfl ?_
  intro p e s m args below meth c s₁ B hml hv
  obtain ⟨rfl, hsz, hP, hK, hD0, hZ, hN⟩ := hv
  have hx := B.exec
  have hb := B.bytes
  have hr := B.returns
  have hts := atoms_spec (ws := wsX2_mendFromSides) B.pre
  have hown : s.vm.findClass RX2 = some m.cls := findClass_of_methodNamed B.named
  have hlocks := B.notSynchronized
  subst hsz
  have hD := wD_self (sz := s.heap.size) hD0
  have hA9 : ∀ q, s.heap.size ≤ q → wA ad G s.heap.size q := fun q h => Or.inr h
  generalize hAe : wA ad G s.heap.size = A at hD hA9 hZ ⊢
  have hS : va_S A s.heap s.heap [] := va_S.rf
  have hl := lv_entry ([va_re ad p0, .int p1, .int p2]) (n := 15) (by cases p0 <;> exact Nat.le_of_ble_eq_true rfl)
  rw [lg_entry_eq]
  generalize (lg_sl ([va_re ad p0, .int p1, .int p2]) ++ List.replicate (15 - (lg_sl ([va_re ad p0, .int p1, .int p2])).length) Slot.unset).toArray = ls at hl ⊢
  have hl : lv_has ls 15 [(0, va_re ad p0), (1, .int p1), (2, .int p2)] := by have e9 : lv_args 0 [va_re ad p0, .int p1, .int p2] = [(0, va_re ad p0), (1, .int p1), (2, .int p2)] := (by cases p0 <;> rfl); rw [e9] at hl; exact hl
  unfold FX2_mendFromSides at hF
  refine lv_iload_n hx hb dX2_mendFromSides_0 rfl (lv_at hl 2 rfl) ?_
  obtain ⟨y1, hy1, hF⟩ := bnd_some hF
  have J1 : ∀ (H : Heap) (locs : List Loc) (ls : Array Slot), va_P D classes (wld ct ad G M) H → va_D A (wld ct ad G M) → va_S A s.heap H locs → lv_has ls 15 [(0, va_re ad p0), (1, .int p1), (2, .int p2)] → W p l e (headSpec wsX2_mendFromSides ({ frames := 0, cells := 0, slots := 0, locals := 0 })).room s m ([va_re ad p0, .int p1, .int p2] : List Value).toArray below meth c H locs 0 0 (MQ below (va_Qv (fun (_ : Unit) => True) (fun _ t => kE D ct ad G A y t) A) ([va_re ad p0, .int p1, .int p2] : List Value).toArray s 0 0 A) (F0 m 11 ls [.int y1]) := by
    intro H locs ls hP hD hS hl
    refine lv_istore_n (lv' := [(3, .int y1), (0, va_re ad p0), (1, .int p1), (2, .int p2)]) hx hb dX2_mendFromSides_11 rfl hl (by decide) rfl (fun ls hl => ?_)
    refine lv_iload_n hx hb dX2_mendFromSides_12 rfl (lv_at hl 0 rfl) ?_
    refine lv_aloadq_n hx hb dX2_mendFromSides_13 rfl (lv_at hl 1 rfl) ?_
    obtain ⟨b2, ho2, hc2, hk2, hF⟩ := dr_some hF
    refine W_st (st' := [.ref (ad b2), .int y1]) (by rw [va_some ho2]) ?_
    refine va_get (D := D) (ci := 4) (v := .int (M.1 b2 1)) (C := RX4) (T := TX4) (N := 18) hx hb hts (by decide +kernel) hown hK hP b2 (wld_o ct ad G M hc2 hk2 (by decide)) rfl 1 (by decide) (hts (.fieldLink RX2 49 "VideoSuite$Picture" "width" "I") (by decide +kernel)) (fun _ h9 => h9) rfl dX2_mendFromSides_14 ?_
    obtain ⟨x3, ex3, hF⟩ := ltt_some hF
    refine lv_topi (fun zx3 ezx3 => ?_)
    obtain rfl : x3 = zx3 := ex3.trans ezx3.symm
    refine lv_imul hx hb dX2_mendFromSides_17 ?_
    obtain ⟨x4, ex4, hF⟩ := ltt_some hF
    refine lv_topi (fun zx4 ezx4 => ?_)
    obtain rfl : x4 = zx4 := ex4.trans ezx4.symm
    refine lv_istore (lv' := [(4, .int x4), (3, .int y1), (0, va_re ad p0), (1, .int p1), (2, .int p2)]) hx hb dX2_mendFromSides_18 hl (by decide) rfl (fun ls hl => ?_)
    refine lv_iload_n hx hb dX2_mendFromSides_20 rfl (lv_at hl 1 rfl) ?_
    refine lv_iload_n hx hb dX2_mendFromSides_21 rfl (lv_at hl 3 rfl) ?_
    refine lv_aloadq_n hx hb dX2_mendFromSides_22 rfl (lv_at hl 2 rfl) ?_
    refine W_st (st' := [.ref (ad b2), .int p1, .int y1]) (by rw [va_some ho2]) ?_
    refine va_get (D := D) (ci := 4) (v := .int (M.1 b2 1)) (C := RX4) (T := TX4) (N := 18) hx hb hts (by decide +kernel) hown hK hP b2 (wld_o ct ad G M hc2 hk2 (by decide)) rfl 1 (by decide) (hts (.fieldLink RX2 49 "VideoSuite$Picture" "width" "I") (by decide +kernel)) (fun _ h9 => h9) rfl dX2_mendFromSides_23 ?_
    obtain ⟨x5, ex5, hF⟩ := ltt_some hF
    refine lv_topi (fun zx5 ezx5 => ?_)
    obtain rfl : x5 = zx5 := ex5.trans ezx5.symm
    obtain ⟨hne, hF⟩ := chk_some hF
    refine lv_irem hx hb dX2_mendFromSides_26 hne ?_
    obtain ⟨x6, ex6, hF⟩ := ltt_some hF
    refine lv_topi (fun zx6 ezx6 => ?_)
    obtain rfl : x6 = zx6 := ex6.trans ezx6.symm
    refine lv_imul hx hb dX2_mendFromSides_27 ?_
    obtain ⟨x7, ex7, hF⟩ := ltt_some hF
    refine lv_topi (fun zx7 ezx7 => ?_)
    obtain rfl : x7 = zx7 := ex7.trans ezx7.symm
    refine lv_istore (lv' := [(5, .int x7), (4, .int x4), (3, .int y1), (0, va_re ad p0), (1, .int p1), (2, .int p2)]) hx hb dX2_mendFromSides_28 hl (by decide) rfl (fun ls hl => ?_)
    refine lv_iload_n hx hb dX2_mendFromSides_30 rfl (lv_at hl 2 rfl) ?_
    refine lv_iload_n hx hb dX2_mendFromSides_31 rfl (lv_at hl 4 rfl) ?_
    refine lv_aloadq_n hx hb dX2_mendFromSides_32 rfl (lv_at hl 3 rfl) ?_
    refine W_st (st' := [.ref (ad b2), .int p1, .int y1]) (by rw [va_some ho2]) ?_
    refine va_get (D := D) (ci := 4) (v := .int (M.1 b2 1)) (C := RX4) (T := TX4) (N := 18) hx hb hts (by decide +kernel) hown hK hP b2 (wld_o ct ad G M hc2 hk2 (by decide)) rfl 1 (by decide) (hts (.fieldLink RX2 49 "VideoSuite$Picture" "width" "I") (by decide +kernel)) (fun _ h9 => h9) rfl dX2_mendFromSides_33 ?_
    obtain ⟨x8, ex8, hF⟩ := ltt_some hF
    refine lv_topi (fun zx8 ezx8 => ?_)
    obtain rfl : x8 = zx8 := ex8.trans ezx8.symm
    obtain ⟨hne, hF⟩ := chk_some hF
    refine lv_idiv hx hb dX2_mendFromSides_36 hne ?_
    obtain ⟨x9, ex9, hF⟩ := ltt_some hF
    refine lv_topi (fun zx9 ezx9 => ?_)
    obtain rfl : x9 = zx9 := ex9.trans ezx9.symm
    refine lv_imul hx hb dX2_mendFromSides_37 ?_
    obtain ⟨x10, ex10, hF⟩ := ltt_some hF
    refine lv_topi (fun zx10 ezx10 => ?_)
    obtain rfl : x10 = zx10 := ex10.trans ezx10.symm
    refine lv_istore (lv' := [(6, .int x10), (5, .int x7), (4, .int x4), (3, .int y1), (0, va_re ad p0), (1, .int p1), (2, .int p2)]) hx hb dX2_mendFromSides_38 hl (by decide) rfl (fun ls hl => ?_)
    refine lv_aloadq_n hx hb dX2_mendFromSides_40 rfl (lv_at hl 4 rfl) ?_
    refine W_st (st' := [.ref (ad b2)]) (by rw [va_some ho2]) ?_
    refine va_get (D := D) (ci := 4) (v := va_re ad (M.2 b2 4)) (C := RX4) (T := TX4) (N := 18) hx hb hts (by decide +kernel) hown hK hP b2 (wld_o ct ad G M hc2 hk2 (by decide)) rfl 4 (by decide) (hts (.fieldLink RX2 58 "VideoSuite$Picture" "plane" "[[I") (by decide +kernel)) (fun _ h9 => h9) rfl dX2_mendFromSides_41 ?_
    refine lv_iload_n hx hb dX2_mendFromSides_44 rfl (lv_at hl 6 rfl) ?_
    obtain ⟨b11, ho11, hc11, hk11, hF⟩ := dr_some hF
    refine W_st (st' := [.int p2, .ref (ad b11)]) (by rw [va_some ho11]) ?_
    obtain ⟨hvc, hF⟩ := chk_some hF
    refine ld_g hx hb hK hP hc11 hk11 hvc dX2_mendFromSides_45 ?_
    refine lv_astoreq (lv' := [(7, va_re ad (M.2 b11 p2.toNatClampNeg)), (6, .int x10), (5, .int x7), (4, .int x4), (3, .int y1), (0, va_re ad p0), (1, .int p1), (2, .int p2)]) hx hb dX2_mendFromSides_46 hl (by decide) rfl (fun ls hl => ?_)
    refine lv_iconst (v := (0 : Int32)) hx hb dX2_mendFromSides_48 (by decide) ?_
    refine lv_istore (lv' := [(8, .int (0 : Int32)), (7, va_re ad (M.2 b11 p2.toNatClampNeg)), (6, .int x10), (5, .int x7), (4, .int x4), (3, .int y1), (0, va_re ad p0), (1, .int p1), (2, .int p2)]) hx hb dX2_mendFromSides_49 hl (by decide) (by generalize ((M.2 b11 p2.toNatClampNeg)) = o9; cases o9 <;> rfl) (fun ls hl => ?_)
    obtain ⟨y12, hy12, hF⟩ := bnd_some hF
    have K12 : ∀ (H : Heap) (locs : List Loc) (ls : Array Slot), va_P D classes (wld ct ad G y12.2) H → va_D A (wld ct ad G y12.2) → va_S A s.heap H locs → lv_has ls 15 [(8, .int y12.1), (7, va_re ad (M.2 b11 p2.toNatClampNeg)), (6, .int x10), (5, .int x7), (4, .int x4), (3, .int y1), (0, va_re ad p0), (1, .int p1), (2, .int p2)] → W p l e (headSpec wsX2_mendFromSides ({ frames := 0, cells := 0, slots := 0, locals := 0 })).room s m ([va_re ad p0, .int p1, .int p2] : List Value).toArray below meth c H locs 0 0 (MQ below (va_Qv (fun (_ : Unit) => True) (fun _ t => kE D ct ad G A y t) A) ([va_re ad p0, .int p1, .int p2] : List Value).toArray s 0 0 A) (F0 m 217 ls []) := by
      intro H locs ls hP hD hS hl
      obtain rfl := Option.some.inj hF
      exact W.vret hx hb hr (fun t ht hW => ⟨⟨(), rfl, trivial, ⟨by rw [ht]; exact hP, va_K.moved hW.alike hK, hD⟩⟩, hS.F ht⟩) hS.2.2 dX2_mendFromSides_217
    clear hF
    refine itr_rule (fun (s13 : Int32 × DD) => ∀ (H : Heap) (locs : List Loc) (ls : Array Slot), va_P D classes (wld ct ad G s13.2) H → va_D A (wld ct ad G s13.2) → va_S A s.heap H locs → lv_has ls 15 [(8, .int s13.1), (7, va_re ad (M.2 b11 p2.toNatClampNeg)), (6, .int x10), (5, .int x7), (4, .int x4), (3, .int y1), (0, va_re ad p0), (1, .int p1), (2, .int p2)] → W p l e (headSpec wsX2_mendFromSides ({ frames := 0, cells := 0, slots := 0, locals := 0 })).room s m ([va_re ad p0, .int p1, .int p2] : List Value).toArray below meth c H locs 0 0 (MQ below (va_Qv (fun (_ : Unit) => True) (fun _ t => kE D ct ad G A y t) A) ([va_re ad p0, .int p1, .int p2] : List Value).toArray s 0 0 A) (F0 m 51 ls [])) ?_ _ _ hy12 _ _ _ hP hD hS (lv_sub hl [0, 1, 2, 3, 4, 5, 6, 7, 8] rfl)
    rintro s13 ⟨z15, hF, hwz15⟩ H locs ls hP hD hS hl
    try dsimp only at hF
    refine lv_iload hx hb dX2_mendFromSides_51 (lv_at hl 0 rfl) ?_
    refine lv_iload_n hx hb dX2_mendFromSides_53 rfl (lv_at hl 5 rfl) ?_
    refine lv_iload_n hx hb dX2_mendFromSides_54 rfl (lv_at hl 5 rfl) ?_
    refine lv_imul hx hb dX2_mendFromSides_55 ?_
    obtain ⟨x16, ex16, hF⟩ := ltt_some hF
    refine lv_topi (fun zx16 ezx16 => ?_)
    obtain rfl : x16 = zx16 := ex16.trans ezx16.symm
    refine lv_icmp_ge (tgt := 217) hx hb dX2_mendFromSides_56 (by decide) (fun c17 => ?_) (fun c17 => ?_)
    · rw [if_pos c17] at hF
      obtain rfl := Option.some.inj hF
      subst hwz15
      exact K12 _ _ _ hP hD hS (lv_sub hl [0, 1, 2, 3, 4, 5, 6, 7, 8] rfl)
    · rw [if_neg c17] at hF
      refine lv_iload hx hb dX2_mendFromSides_59 (lv_at hl 0 rfl) ?_
      refine lv_iload_n hx hb dX2_mendFromSides_61 rfl (lv_at hl 5 rfl) ?_
      obtain ⟨hne, hF⟩ := chk_some hF
      refine lv_irem hx hb dX2_mendFromSides_62 hne ?_
      obtain ⟨x18, ex18, hF⟩ := ltt_some hF
      refine lv_topi (fun zx18 ezx18 => ?_)
      obtain rfl : x18 = zx18 := ex18.trans ezx18.symm
      refine lv_istore (lv' := [(9, .int x18), (8, .int s13.1), (7, va_re ad (M.2 b11 p2.toNatClampNeg)), (6, .int x10), (5, .int x7), (4, .int x4), (3, .int y1), (0, va_re ad p0), (1, .int p1), (2, .int p2)]) hx hb dX2_mendFromSides_63 hl (by decide) rfl (fun ls hl => ?_)
      refine lv_iload hx hb dX2_mendFromSides_65 (lv_at hl 1 rfl) ?_
      refine lv_iload_n hx hb dX2_mendFromSides_67 rfl (lv_at hl 6 rfl) ?_
      obtain ⟨hne, hF⟩ := chk_some hF
      refine lv_idiv hx hb dX2_mendFromSides_68 hne ?_
      obtain ⟨x19, ex19, hF⟩ := ltt_some hF
      refine lv_topi (fun zx19 ezx19 => ?_)
      obtain rfl : x19 = zx19 := ex19.trans ezx19.symm
      refine lv_istore (lv' := [(10, .int x19), (9, .int x18), (8, .int s13.1), (7, va_re ad (M.2 b11 p2.toNatClampNeg)), (6, .int x10), (5, .int x7), (4, .int x4), (3, .int y1), (0, va_re ad p0), (1, .int p1), (2, .int p2)]) hx hb dX2_mendFromSides_69 hl (by decide) rfl (fun ls hl => ?_)
      refine lv_iload hx hb dX2_mendFromSides_71 (lv_at hl 4 rfl) ?_
      obtain ⟨y20, hy20, hF⟩ := bnd_some hF
      have J20 : ∀ (H : Heap) (locs : List Loc) (ls : Array Slot), va_P D classes (wld ct ad G s13.2) H → va_D A (wld ct ad G s13.2) → va_S A s.heap H locs → lv_has ls 15 [(10, .int x19), (9, .int x18), (8, .int s13.1), (7, va_re ad (M.2 b11 p2.toNatClampNeg)), (6, .int x10), (5, .int x7), (4, .int x4), (3, .int y1), (0, va_re ad p0), (1, .int p1), (2, .int p2)] → W p l e (headSpec wsX2_mendFromSides ({ frames := 0, cells := 0, slots := 0, locals := 0 })).room s m ([va_re ad p0, .int p1, .int p2] : List Value).toArray below meth c H locs 0 0 (MQ below (va_Qv (fun (_ : Unit) => True) (fun _ t => kE D ct ad G A y t) A) ([va_re ad p0, .int p1, .int p2] : List Value).toArray s 0 0 A) (F0 m 96 ls [.int y20]) := by
        intro H locs ls hP hD hS hl
        refine lv_istore (lv' := [(11, .int y20), (10, .int x19), (9, .int x18), (8, .int s13.1), (7, va_re ad (M.2 b11 p2.toNatClampNeg)), (6, .int x10), (5, .int x7), (4, .int x4), (3, .int y1), (0, va_re ad p0), (1, .int p1), (2, .int p2)]) hx hb dX2_mendFromSides_96 hl (by decide) rfl (fun ls hl => ?_)
        refine lv_iload hx hb dX2_mendFromSides_98 (lv_at hl 6 rfl) ?_
        obtain ⟨y21, hy21, hF⟩ := bnd_some hF
        have J21 : ∀ (H : Heap) (locs : List Loc) (ls : Array Slot), va_P D classes (wld ct ad G s13.2) H → va_D A (wld ct ad G s13.2) → va_S A s.heap H locs → lv_has ls 15 [(11, .int y20), (10, .int x19), (9, .int x18), (8, .int s13.1), (7, va_re ad (M.2 b11 p2.toNatClampNeg)), (6, .int x10), (5, .int x7), (4, .int x4), (3, .int y1), (0, va_re ad p0), (1, .int p1), (2, .int p2)] → W p l e (headSpec wsX2_mendFromSides ({ frames := 0, cells := 0, slots := 0, locals := 0 })).room s m ([va_re ad p0, .int p1, .int p2] : List Value).toArray below meth c H locs 0 0 (MQ below (va_Qv (fun (_ : Unit) => True) (fun _ t => kE D ct ad G A y t) A) ([va_re ad p0, .int p1, .int p2] : List Value).toArray s 0 0 A) (F0 m 123 ls [.int y21]) := by
          intro H locs ls hP hD hS hl
          refine lv_istore (lv' := [(12, .int y21), (11, .int y20), (10, .int x19), (9, .int x18), (8, .int s13.1), (7, va_re ad (M.2 b11 p2.toNatClampNeg)), (6, .int x10), (5, .int x7), (4, .int x4), (3, .int y1), (0, va_re ad p0), (1, .int p1), (2, .int p2)]) hx hb dX2_mendFromSides_123 hl (by decide) rfl (fun ls hl => ?_)
          refine lv_iload hx hb dX2_mendFromSides_125 (lv_at hl 6 rfl) ?_
          obtain ⟨y22, hy22, hF⟩ := bnd_some hF
          have J22 : ∀ (H : Heap) (locs : List Loc) (ls : Array Slot), va_P D classes (wld ct ad G s13.2) H → va_D A (wld ct ad G s13.2) → va_S A s.heap H locs → lv_has ls 15 [(12, .int y21), (11, .int y20), (10, .int x19), (9, .int x18), (8, .int s13.1), (7, va_re ad (M.2 b11 p2.toNatClampNeg)), (6, .int x10), (5, .int x7), (4, .int x4), (3, .int y1), (0, va_re ad p0), (1, .int p1), (2, .int p2)] → W p l e (headSpec wsX2_mendFromSides ({ frames := 0, cells := 0, slots := 0, locals := 0 })).room s m ([va_re ad p0, .int p1, .int p2] : List Value).toArray below meth c H locs 0 0 (MQ below (va_Qv (fun (_ : Unit) => True) (fun _ t => kE D ct ad G A y t) A) ([va_re ad p0, .int p1, .int p2] : List Value).toArray s 0 0 A) (F0 m 138 ls [.int y22]) := by
            intro H locs ls hP hD hS hl
            refine lv_istore (lv' := [(13, .int y22), (12, .int y21), (11, .int y20), (10, .int x19), (9, .int x18), (8, .int s13.1), (7, va_re ad (M.2 b11 p2.toNatClampNeg)), (6, .int x10), (5, .int x7), (4, .int x4), (3, .int y1), (0, va_re ad p0), (1, .int p1), (2, .int p2)]) hx hb dX2_mendFromSides_138 hl (by decide) rfl (fun ls hl => ?_)
            refine lv_iload hx hb dX2_mendFromSides_140 (lv_at hl 8 rfl) ?_
            obtain ⟨y23, hy23, hF⟩ := bnd_some hF
            have J23 : ∀ (H : Heap) (locs : List Loc) (ls : Array Slot), va_P D classes (wld ct ad G s13.2) H → va_D A (wld ct ad G s13.2) → va_S A s.heap H locs → lv_has ls 15 [(13, .int y22), (12, .int y21), (11, .int y20), (10, .int x19), (9, .int x18), (8, .int s13.1), (7, va_re ad (M.2 b11 p2.toNatClampNeg)), (6, .int x10), (5, .int x7), (4, .int x4), (3, .int y1), (0, va_re ad p0), (1, .int p1), (2, .int p2)] → W p l e (headSpec wsX2_mendFromSides ({ frames := 0, cells := 0, slots := 0, locals := 0 })).room s m ([va_re ad p0, .int p1, .int p2] : List Value).toArray below meth c H locs 0 0 (MQ below (va_Qv (fun (_ : Unit) => True) (fun _ t => kE D ct ad G A y t) A) ([va_re ad p0, .int p1, .int p2] : List Value).toArray s 0 0 A) (F0 m 153 ls [.int y23]) := by
              intro H locs ls hP hD hS hl
              refine lv_istore (lv' := [(14, .int y23), (13, .int y22), (12, .int y21), (11, .int y20), (10, .int x19), (9, .int x18), (8, .int s13.1), (7, va_re ad (M.2 b11 p2.toNatClampNeg)), (6, .int x10), (5, .int x7), (4, .int x4), (3, .int y1), (0, va_re ad p0), (1, .int p1), (2, .int p2)]) hx hb dX2_mendFromSides_153 hl (by decide) rfl (fun ls hl => ?_)
              refine lv_aloadq hx hb dX2_mendFromSides_155 (lv_at hl 7 rfl) ?_
              refine lv_iload hx hb dX2_mendFromSides_157 (lv_at hl 8 rfl) ?_
              refine lv_iload hx hb dX2_mendFromSides_159 (lv_at hl 4 rfl) ?_
              refine lv_iadd hx hb dX2_mendFromSides_161 ?_
              obtain ⟨x24, ex24, hF⟩ := ltt_some hF
              refine lv_topi (fun zx24 ezx24 => ?_)
              obtain rfl : x24 = zx24 := ex24.trans ezx24.symm
              refine lv_iload hx hb dX2_mendFromSides_162 (lv_at hl 10 rfl) ?_
              refine lv_imul hx hb dX2_mendFromSides_164 ?_
              obtain ⟨x25, ex25, hF⟩ := ltt_some hF
              refine lv_topi (fun zx25 ezx25 => ?_)
              obtain rfl : x25 = zx25 := ex25.trans ezx25.symm
              refine lv_iload hx hb dX2_mendFromSides_165 (lv_at hl 9 rfl) ?_
              refine lv_iadd hx hb dX2_mendFromSides_167 ?_
              obtain ⟨x26, ex26, hF⟩ := ltt_some hF
              refine lv_topi (fun zx26 ezx26 => ?_)
              obtain rfl : x26 = zx26 := ex26.trans ezx26.symm
              refine lv_iload hx hb dX2_mendFromSides_168 (lv_at hl 5 rfl) ?_
              refine lv_iadd hx hb dX2_mendFromSides_170 ?_
              obtain ⟨x27, ex27, hF⟩ := ltt_some hF
              refine lv_topi (fun zx27 ezx27 => ?_)
              obtain rfl : x27 = zx27 := ex27.trans ezx27.symm
              refine lv_iload hx hb dX2_mendFromSides_171 (lv_at hl 1 rfl) ?_
              refine lv_iload hx hb dX2_mendFromSides_173 (lv_at hl 0 rfl) ?_
              refine lv_iadd hx hb dX2_mendFromSides_175 ?_
              obtain ⟨x28, ex28, hF⟩ := ltt_some hF
              refine lv_topi (fun zx28 ezx28 => ?_)
              obtain rfl : x28 = zx28 := ex28.trans ezx28.symm
              obtain ⟨y29, hy29, hF⟩ := bnd_some hF
              have J29 : ∀ (H : Heap) (locs : List Loc) (ls : Array Slot), va_P D classes (wld ct ad G s13.2) H → va_D A (wld ct ad G s13.2) → va_S A s.heap H locs → lv_has ls 15 [(14, .int y23), (13, .int y22), (12, .int y21), (11, .int y20), (10, .int x19), (9, .int x18), (8, .int s13.1), (7, va_re ad (M.2 b11 p2.toNatClampNeg)), (6, .int x10), (5, .int x7), (4, .int x4), (3, .int y1), (0, va_re ad p0), (1, .int p1), (2, .int p2)] → W p l e (headSpec wsX2_mendFromSides ({ frames := 0, cells := 0, slots := 0, locals := 0 })).room s m ([va_re ad p0, .int p1, .int p2] : List Value).toArray below meth c H locs 0 0 (MQ below (va_Qv (fun (_ : Unit) => True) (fun _ t => kE D ct ad G A y t) A) ([va_re ad p0, .int p1, .int p2] : List Value).toArray s 0 0 A) (F0 m 210 ls [.int y29, .int x27, va_re ad (M.2 b11 p2.toNatClampNeg)]) := by
                intro H locs ls hP hD hS hl
                obtain ⟨b30, ho30, hc30, hk30, hF⟩ := dr_some hF
                refine W_st (st' := [.int y29, .int x27, .ref (ad b30)]) (by rw [va_some ho30]) ?_
                obtain ⟨hvc, hF⟩ := chk_some hF
                refine va_iast hx hb hK hP hD hS b30 1 (wld_i ct ad G s13.2 hc30 hk30) rfl hvc dX2_mendFromSides_210 (fun H locs hP hD hS => ?_)
                obtain ⟨M31, eM31, hF⟩ := ltt_some hF
                rw [set_i ct ad G s13.2 hc30 hk30, ← eM31] at hP hD
                obtain ⟨x32, ex32, hF⟩ := ltt_some hF
                refine lv_iinc (v := x32) (lv' := [(8, .int x32), (14, .int y23), (13, .int y22), (12, .int y21), (11, .int y20), (10, .int x19), (9, .int x18), (7, va_re ad (M.2 b11 p2.toNatClampNeg)), (6, .int x10), (5, .int x7), (4, .int x4), (3, .int y1), (0, va_re ad p0), (1, .int p1), (2, .int p2)]) hx hb dX2_mendFromSides_211 hl (k := 6) rfl (by rw [ex32]; rfl) (by decide) (by generalize ((M.2 b11 p2.toNatClampNeg)) = o9; cases o9 <;> rfl) (fun ls hl => ?_)
                refine lv_goto (tgt := 51) hx hb dX2_mendFromSides_214 (by decide) ?_
                obtain rfl := Option.some.inj hF
                exact hwz15 _ _ _ hP hD hS (lv_sub hl [0, 7, 8, 9, 10, 11, 12, 13, 14] rfl)
              clear hF
              have hF := hy29
              clear hy29
              refine lv_if_ne (tgt := 185) hx hb dX2_mendFromSides_176 (by decide) (fun c33 => ?_) (fun c33 => ?_)
              · rw [if_neg c33] at hF
                refine lv_iload hx hb dX2_mendFromSides_185 (lv_at hl 3 rfl) ?_
                refine lv_iload hx hb dX2_mendFromSides_187 (lv_at hl 1 rfl) ?_
                refine lv_imul hx hb dX2_mendFromSides_189 ?_
                obtain ⟨x34, ex34, hF⟩ := ltt_some hF
                refine lv_topi (fun zx34 ezx34 => ?_)
                obtain rfl : x34 = zx34 := ex34.trans ezx34.symm
                refine lv_iload hx hb dX2_mendFromSides_190 (lv_at hl 2 rfl) ?_
                refine lv_iload hx hb dX2_mendFromSides_192 (lv_at hl 0 rfl) ?_
                refine lv_imul hx hb dX2_mendFromSides_194 ?_
                obtain ⟨x35, ex35, hF⟩ := ltt_some hF
                refine lv_topi (fun zx35 ezx35 => ?_)
                obtain rfl : x35 = zx35 := ex35.trans ezx35.symm
                refine lv_iadd hx hb dX2_mendFromSides_195 ?_
                obtain ⟨x36, ex36, hF⟩ := ltt_some hF
                refine lv_topi (fun zx36 ezx36 => ?_)
                obtain rfl : x36 = zx36 := ex36.trans ezx36.symm
                refine lv_iload hx hb dX2_mendFromSides_196 (lv_at hl 1 rfl) ?_
                refine lv_iload hx hb dX2_mendFromSides_198 (lv_at hl 0 rfl) ?_
                refine lv_iadd hx hb dX2_mendFromSides_200 ?_
                obtain ⟨x37, ex37, hF⟩ := ltt_some hF
                refine lv_topi (fun zx37 ezx37 => ?_)
                obtain rfl : x37 = zx37 := ex37.trans ezx37.symm
                refine lv_iconst (v := (2 : Int32)) hx hb dX2_mendFromSides_201 (by decide) ?_
                refine lv_idiv hx hb dX2_mendFromSides_202 (by decide) ?_
                obtain ⟨x38, ex38, hF⟩ := ltt_some hF
                refine lv_topi (fun zx38 ezx38 => ?_)
                obtain rfl : x38 = zx38 := ex38.trans ezx38.symm
                refine lv_iadd hx hb dX2_mendFromSides_203 ?_
                obtain ⟨x39, ex39, hF⟩ := ltt_some hF
                refine lv_topi (fun zx39 ezx39 => ?_)
                obtain rfl : x39 = zx39 := ex39.trans ezx39.symm
                refine lv_iload hx hb dX2_mendFromSides_204 (lv_at hl 1 rfl) ?_
                refine lv_iload hx hb dX2_mendFromSides_206 (lv_at hl 0 rfl) ?_
                refine lv_iadd hx hb dX2_mendFromSides_208 ?_
                obtain ⟨x40, ex40, hF⟩ := ltt_some hF
                refine lv_topi (fun zx40 ezx40 => ?_)
                obtain rfl : x40 = zx40 := ex40.trans ezx40.symm
                obtain ⟨hne, hF⟩ := chk_some hF
                refine lv_idiv hx hb dX2_mendFromSides_209 hne ?_
                obtain ⟨x41, ex41, hF⟩ := ltt_some hF
                refine lv_topi (fun zx41 ezx41 => ?_)
                obtain rfl : x41 = zx41 := ex41.trans ezx41.symm
                obtain rfl := Option.some.inj hF
                exact J29 _ _ _ hP hD hS (lv_sub hl [0, 1, 2, 3, 4, 5, 6, 7, 8, 9, 10, 11, 12, 13, 14] rfl)
              · rw [if_pos c33] at hF
                refine lv_sipush (v := (128 : Int32)) hx hb dX2_mendFromSides_179 (by decide) ?_
                refine lv_goto (tgt := 210) hx hb dX2_mendFromSides_182 (by decide) ?_
                obtain rfl := Option.some.inj hF
                exact J29 _ _ _ hP hD hS (lv_sub hl [0, 1, 2, 3, 4, 5, 6, 7, 8, 9, 10, 11, 12, 13, 14] rfl)
            clear hF
            have hF := hy23
            clear hy23
            refine lv_if_le (tgt := 152) hx hb dX2_mendFromSides_142 (by decide) (fun c42 => ?_) (fun c42 => ?_)
            · rw [if_pos c42] at hF
              refine lv_iconst (v := (0 : Int32)) hx hb dX2_mendFromSides_152 (by decide) ?_
              obtain rfl := Option.some.inj hF
              exact J23 _ _ _ hP hD hS (lv_sub hl [0, 1, 2, 3, 4, 5, 6, 7, 8, 9, 10, 11, 12, 13] rfl)
            · rw [if_neg c42] at hF
              refine lv_iload_n hx hb dX2_mendFromSides_145 rfl (lv_at hl 10 rfl) ?_
              refine lv_iload hx hb dX2_mendFromSides_146 (lv_at hl 4 rfl) ?_
              refine lv_isub hx hb dX2_mendFromSides_148 ?_
              obtain ⟨x43, ex43, hF⟩ := ltt_some hF
              refine lv_topi (fun zx43 ezx43 => ?_)
              obtain rfl : x43 = zx43 := ex43.trans ezx43.symm
              refine lv_goto (tgt := 153) hx hb dX2_mendFromSides_149 (by decide) ?_
              obtain rfl := Option.some.inj hF
              exact J23 _ _ _ hP hD hS (lv_sub hl [0, 1, 2, 3, 4, 5, 6, 7, 8, 9, 10, 11, 12, 13] rfl)
          clear hF
          have hF := hy22
          clear hy22
          refine lv_if_le (tgt := 137) hx hb dX2_mendFromSides_127 (by decide) (fun c44 => ?_) (fun c44 => ?_)
          · rw [if_pos c44] at hF
            refine lv_iconst (v := (0 : Int32)) hx hb dX2_mendFromSides_137 (by decide) ?_
            obtain rfl := Option.some.inj hF
            exact J22 _ _ _ hP hD hS (lv_sub hl [0, 1, 2, 3, 4, 5, 6, 7, 8, 9, 10, 11, 12] rfl)
          · rw [if_neg c44] at hF
            refine lv_iload_n hx hb dX2_mendFromSides_130 rfl (lv_at hl 9 rfl) ?_
            refine lv_iload hx hb dX2_mendFromSides_131 (lv_at hl 2 rfl) ?_
            refine lv_isub hx hb dX2_mendFromSides_133 ?_
            obtain ⟨x45, ex45, hF⟩ := ltt_some hF
            refine lv_topi (fun zx45 ezx45 => ?_)
            obtain rfl : x45 = zx45 := ex45.trans ezx45.symm
            refine lv_goto (tgt := 138) hx hb dX2_mendFromSides_134 (by decide) ?_
            obtain rfl := Option.some.inj hF
            exact J22 _ _ _ hP hD hS (lv_sub hl [0, 1, 2, 3, 4, 5, 6, 7, 8, 9, 10, 11, 12] rfl)
        clear hF
        have hF := hy21
        clear hy21
        refine lv_if_le (tgt := 122) hx hb dX2_mendFromSides_100 (by decide) (fun c46 => ?_) (fun c46 => ?_)
        · rw [if_pos c46] at hF
          refine lv_iconst (v := (0 : Int32)) hx hb dX2_mendFromSides_122 (by decide) ?_
          obtain rfl := Option.some.inj hF
          exact J21 _ _ _ hP hD hS (lv_sub hl [0, 1, 2, 3, 4, 5, 6, 7, 8, 9, 10, 11] rfl)
        · rw [if_neg c46] at hF
          refine lv_aloadq hx hb dX2_mendFromSides_103 (lv_at hl 4 rfl) ?_
          refine lv_iload hx hb dX2_mendFromSides_105 (lv_at hl 5 rfl) ?_
          refine lv_iload hx hb dX2_mendFromSides_107 (lv_at hl 1 rfl) ?_
          refine lv_iadd hx hb dX2_mendFromSides_109 ?_
          obtain ⟨x47, ex47, hF⟩ := ltt_some hF
          refine lv_topi (fun zx47 ezx47 => ?_)
          obtain rfl : x47 = zx47 := ex47.trans ezx47.symm
          refine lv_iload hx hb dX2_mendFromSides_110 (lv_at hl 7 rfl) ?_
          refine lv_imul hx hb dX2_mendFromSides_112 ?_
          obtain ⟨x48, ex48, hF⟩ := ltt_some hF
          refine lv_topi (fun zx48 ezx48 => ?_)
          obtain rfl : x48 = zx48 := ex48.trans ezx48.symm
          refine lv_iload hx hb dX2_mendFromSides_113 (lv_at hl 6 rfl) ?_
          refine lv_iadd hx hb dX2_mendFromSides_115 ?_
          obtain ⟨x49, ex49, hF⟩ := ltt_some hF
          refine lv_topi (fun zx49 ezx49 => ?_)
          obtain rfl : x49 = zx49 := ex49.trans ezx49.symm
          refine lv_iconst (v := (1 : Int32)) hx hb dX2_mendFromSides_116 (by decide) ?_
          refine lv_isub hx hb dX2_mendFromSides_117 ?_
          obtain ⟨x50, ex50, hF⟩ := ltt_some hF
          refine lv_topi (fun zx50 ezx50 => ?_)
          obtain rfl : x50 = zx50 := ex50.trans ezx50.symm
          obtain ⟨b51, ho51, hc51, hk51, hF⟩ := dr_some hF
          refine W_st (st' := [.int x50, .ref (ad b51)]) (by rw [va_some ho51]) ?_
          obtain ⟨hvc, hF⟩ := chk_some hF
          refine va_iald hx hb hK hP b51 1 (wld_i ct ad G s13.2 hc51 hk51) rfl hvc dX2_mendFromSides_118 ?_
          obtain ⟨x52, ex52, hF⟩ := ltt_some hF
          refine lv_topi (fun zx52 ezx52 => ?_)
          obtain rfl : x52 = zx52 := ex52.trans ezx52.symm
          refine lv_goto (tgt := 123) hx hb dX2_mendFromSides_119 (by decide) ?_
          obtain rfl := Option.some.inj hF
          exact J21 _ _ _ hP hD hS (lv_sub hl [0, 1, 2, 3, 4, 5, 6, 7, 8, 9, 10, 11] rfl)
      clear hF
      have hF := hy20
      clear hy20
      refine lv_if_le (tgt := 95) hx hb dX2_mendFromSides_73 (by decide) (fun c53 => ?_) (fun c53 => ?_)
      · rw [if_pos c53] at hF
        refine lv_iconst (v := (0 : Int32)) hx hb dX2_mendFromSides_95 (by decide) ?_
        obtain rfl := Option.some.inj hF
        exact J20 _ _ _ hP hD hS (lv_sub hl [0, 1, 2, 3, 4, 5, 6, 7, 8, 9, 10] rfl)
      · rw [if_neg c53] at hF
        refine lv_aloadq hx hb dX2_mendFromSides_76 (lv_at hl 3 rfl) ?_
        refine lv_iload hx hb dX2_mendFromSides_78 (lv_at hl 4 rfl) ?_
        refine lv_iconst (v := (1 : Int32)) hx hb dX2_mendFromSides_80 (by decide) ?_
        refine lv_isub hx hb dX2_mendFromSides_81 ?_
        obtain ⟨x54, ex54, hF⟩ := ltt_some hF
        refine lv_topi (fun zx54 ezx54 => ?_)
        obtain rfl : x54 = zx54 := ex54.trans ezx54.symm
        refine lv_iload hx hb dX2_mendFromSides_82 (lv_at hl 6 rfl) ?_
        refine lv_imul hx hb dX2_mendFromSides_84 ?_
        obtain ⟨x55, ex55, hF⟩ := ltt_some hF
        refine lv_topi (fun zx55 ezx55 => ?_)
        obtain rfl : x55 = zx55 := ex55.trans ezx55.symm
        refine lv_iload hx hb dX2_mendFromSides_85 (lv_at hl 5 rfl) ?_
        refine lv_iadd hx hb dX2_mendFromSides_87 ?_
        obtain ⟨x56, ex56, hF⟩ := ltt_some hF
        refine lv_topi (fun zx56 ezx56 => ?_)
        obtain rfl : x56 = zx56 := ex56.trans ezx56.symm
        refine lv_iload hx hb dX2_mendFromSides_88 (lv_at hl 1 rfl) ?_
        refine lv_iadd hx hb dX2_mendFromSides_90 ?_
        obtain ⟨x57, ex57, hF⟩ := ltt_some hF
        refine lv_topi (fun zx57 ezx57 => ?_)
        obtain rfl : x57 = zx57 := ex57.trans ezx57.symm
        obtain ⟨b58, ho58, hc58, hk58, hF⟩ := dr_some hF
        refine W_st (st' := [.int x57, .ref (ad b58)]) (by rw [va_some ho58]) ?_
        obtain ⟨hvc, hF⟩ := chk_some hF
        refine va_iald hx hb hK hP b58 1 (wld_i ct ad G s13.2 hc58 hk58) rfl hvc dX2_mendFromSides_91 ?_
        obtain ⟨x59, ex59, hF⟩ := ltt_some hF
        refine lv_topi (fun zx59 ezx59 => ?_)
        obtain rfl : x59 = zx59 := ex59.trans ezx59.symm
        refine lv_goto (tgt := 96) hx hb dX2_mendFromSides_92 (by decide) ?_
        obtain rfl := Option.some.inj hF
        exact J20 _ _ _ hP hD hS (lv_sub hl [0, 1, 2, 3, 4, 5, 6, 7, 8, 9, 10] rfl)
  clear hF
  have hF := hy1
  clear hy1
  refine lv_if_ne (tgt := 9) hx hb dX2_mendFromSides_1 (by decide) (fun c60 => ?_) (fun c60 => ?_)
  · rw [if_neg c60] at hF
    refine lv_bipush (v := (8 : Int32)) hx hb dX2_mendFromSides_9 (by decide) ?_
    obtain rfl := Option.some.inj hF
    exact J1 _ _ _ hP hD hS (lv_sub hl [0, 1, 2] rfl)
  · rw [if_pos c60] at hF
    refine lv_bipush (v := (16 : Int32)) hx hb dX2_mendFromSides_4 (by decide) ?_
    refine lv_goto (tgt := 11) hx hb dX2_mendFromSides_6 (by decide) ?_
    obtain rfl := Option.some.inj hF
    exact J1 _ _ _ hP hD hS (lv_sub hl [0, 1, 2] rfl)
theorem dX2_smooth_0 : decode cX2_smooth 0 = .ok (.aload_n 0, 1) := by decide +kernel
theorem dX2_smooth_1 : decode cX2_smooth 1 = .ok (.iload_n 1, 1) := by decide +kernel
theorem dX2_smooth_2 : decode cX2_smooth 2 = .ok (.iaload, 1) := by decide +kernel
theorem dX2_smooth_3 : decode cX2_smooth 3 = .ok (.istore 6, 2) := by decide +kernel
theorem dX2_smooth_5 : decode cX2_smooth 5 = .ok (.aload_n 0, 1) := by decide +kernel
theorem dX2_smooth_6 : decode cX2_smooth 6 = .ok (.iload_n 1, 1) := by decide +kernel
theorem dX2_smooth_7 : decode cX2_smooth 7 = .ok (.iload_n 2, 1) := by decide +kernel
theorem dX2_smooth_8 : decode cX2_smooth 8 = .ok (.iadd, 1) := by decide +kernel
theorem dX2_smooth_9 : decode cX2_smooth 9 = .ok (.iaload, 1) := by decide +kernel
theorem dX2_smooth_10 : decode cX2_smooth 10 = .ok (.istore 7, 2) := by decide +kernel
theorem dX2_smooth_12 : decode cX2_smooth 12 = .ok (.iload_n 3, 1) := by decide +kernel
theorem dX2_smooth_13 : decode cX2_smooth 13 = .ok (.ifCond .ne 21, 3) := by decide +kernel
theorem dX2_smooth_16 : decode cX2_smooth 16 = .ok (.aload_n 0, 1) := by decide +kernel
theorem dX2_smooth_17 : decode cX2_smooth 17 = .ok (.iload_n 1, 1) := by decide +kernel
theorem dX2_smooth_18 : decode cX2_smooth 18 = .ok (.iconst 2, 1) := by decide +kernel
theorem dX2_smooth_19 : decode cX2_smooth 19 = .ok (.iload 7, 2) := by decide +kernel
theorem dX2_smooth_21 : decode cX2_smooth 21 = .ok (.imul, 1) := by decide +kernel
theorem dX2_smooth_22 : decode cX2_smooth 22 = .ok (.iload 6, 2) := by decide +kernel
theorem dX2_smooth_24 : decode cX2_smooth 24 = .ok (.iadd, 1) := by decide +kernel
theorem dX2_smooth_25 : decode cX2_smooth 25 = .ok (.iload 5, 2) := by decide +kernel
theorem dX2_smooth_27 : decode cX2_smooth 27 = .ok (.iadd, 1) := by decide +kernel
theorem dX2_smooth_28 : decode cX2_smooth 28 = .ok (.iconst 2, 1) := by decide +kernel
theorem dX2_smooth_29 : decode cX2_smooth 29 = .ok (.iadd, 1) := by decide +kernel
theorem dX2_smooth_30 : decode cX2_smooth 30 = .ok (.iconst 2, 1) := by decide +kernel
theorem dX2_smooth_31 : decode cX2_smooth 31 = .ok (.ishr, 1) := by decide +kernel
theorem dX2_smooth_32 : decode cX2_smooth 32 = .ok (.iastore, 1) := by decide +kernel
theorem dX2_smooth_33 : decode cX2_smooth 33 = .ok (.return_, 1) := by decide +kernel
theorem dX2_smooth_34 : decode cX2_smooth 34 = .ok (.aload_n 0, 1) := by decide +kernel
theorem dX2_smooth_35 : decode cX2_smooth 35 = .ok (.iload_n 1, 1) := by decide +kernel
theorem dX2_smooth_36 : decode cX2_smooth 36 = .ok (.iconst 2, 1) := by decide +kernel
theorem dX2_smooth_37 : decode cX2_smooth 37 = .ok (.iload_n 2, 1) := by decide +kernel
theorem dX2_smooth_38 : decode cX2_smooth 38 = .ok (.imul, 1) := by decide +kernel
theorem dX2_smooth_39 : decode cX2_smooth 39 = .ok (.iadd, 1) := by decide +kernel
theorem dX2_smooth_40 : decode cX2_smooth 40 = .ok (.iaload, 1) := by decide +kernel
theorem dX2_smooth_41 : decode cX2_smooth 41 = .ok (.istore 8, 2) := by decide +kernel
theorem dX2_smooth_43 : decode cX2_smooth 43 = .ok (.aload_n 0, 1) := by decide +kernel
theorem dX2_smooth_44 : decode cX2_smooth 44 = .ok (.iload_n 1, 1) := by decide +kernel
theorem dX2_smooth_45 : decode cX2_smooth 45 = .ok (.iconst 3, 1) := by decide +kernel
theorem dX2_smooth_46 : decode cX2_smooth 46 = .ok (.iload_n 2, 1) := by decide +kernel
theorem dX2_smooth_47 : decode cX2_smooth 47 = .ok (.imul, 1) := by decide +kernel
theorem dX2_smooth_48 : decode cX2_smooth 48 = .ok (.iadd, 1) := by decide +kernel
theorem dX2_smooth_49 : decode cX2_smooth 49 = .ok (.iaload, 1) := by decide +kernel
theorem dX2_smooth_50 : decode cX2_smooth 50 = .ok (.istore 9, 2) := by decide +kernel
theorem dX2_smooth_52 : decode cX2_smooth 52 = .ok (.aload_n 0, 1) := by decide +kernel
theorem dX2_smooth_53 : decode cX2_smooth 53 = .ok (.iload_n 1, 1) := by decide +kernel
theorem dX2_smooth_54 : decode cX2_smooth 54 = .ok (.iload 8, 2) := by decide +kernel
theorem dX2_smooth_56 : decode cX2_smooth 56 = .ok (.iconst 2, 1) := by decide +kernel
theorem dX2_smooth_57 : decode cX2_smooth 57 = .ok (.iload 7, 2) := by decide +kernel
theorem dX2_smooth_59 : decode cX2_smooth 59 = .ok (.imul, 1) := by decide +kernel
theorem dX2_smooth_60 : decode cX2_smooth 60 = .ok (.iadd, 1) := by decide +kernel
theorem dX2_smooth_61 : decode cX2_smooth 61 = .ok (.iconst 2, 1) := by decide +kernel
theorem dX2_smooth_62 : decode cX2_smooth 62 = .ok (.iload 6, 2) := by decide +kernel
theorem dX2_smooth_64 : decode cX2_smooth 64 = .ok (.imul, 1) := by decide +kernel
theorem dX2_smooth_65 : decode cX2_smooth 65 = .ok (.iadd, 1) := by decide +kernel
theorem dX2_smooth_66 : decode cX2_smooth 66 = .ok (.iconst 2, 1) := by decide +kernel
theorem dX2_smooth_67 : decode cX2_smooth 67 = .ok (.iload 4, 2) := by decide +kernel
theorem dX2_smooth_69 : decode cX2_smooth 69 = .ok (.imul, 1) := by decide +kernel
theorem dX2_smooth_70 : decode cX2_smooth 70 = .ok (.iadd, 1) := by decide +kernel
theorem dX2_smooth_71 : decode cX2_smooth 71 = .ok (.iload 5, 2) := by decide +kernel
theorem dX2_smooth_73 : decode cX2_smooth 73 = .ok (.iadd, 1) := by decide +kernel
theorem dX2_smooth_74 : decode cX2_smooth 74 = .ok (.iconst 4, 1) := by decide +kernel
theorem dX2_smooth_75 : decode cX2_smooth 75 = .ok (.iadd, 1) := by decide +kernel
theorem dX2_smooth_76 : decode cX2_smooth 76 = .ok (.iconst 3, 1) := by decide +kernel
theorem dX2_smooth_77 : decode cX2_smooth 77 = .ok (.ishr, 1) := by decide +kernel
theorem dX2_smooth_78 : decode cX2_smooth 78 = .ok (.iastore, 1) := by decide +kernel
theorem dX2_smooth_79 : decode cX2_smooth 79 = .ok (.aload_n 0, 1) := by decide +kernel
theorem dX2_smooth_80 : decode cX2_smooth 80 = .ok (.iload_n 1, 1) := by decide +kernel
theorem dX2_smooth_81 : decode cX2_smooth 81 = .ok (.iload_n 2, 1) := by decide +kernel
theorem dX2_smooth_82 : decode cX2_smooth 82 = .ok (.iadd, 1) := by decide +kernel
theorem dX2_smooth_83 : decode cX2_smooth 83 = .ok (.iload 8, 2) := by decide +kernel
theorem dX2_smooth_85 : decode cX2_smooth 85 = .ok (.iload 7, 2) := by decide +kernel
theorem dX2_smooth_87 : decode cX2_smooth 87 = .ok (.iadd, 1) := by decide +kernel
theorem dX2_smooth_88 : decode cX2_smooth 88 = .ok (.iload 6, 2) := by decide +kernel
theorem dX2_smooth_90 : decode cX2_smooth 90 = .ok (.iadd, 1) := by decide +kernel
theorem dX2_smooth_91 : decode cX2_smooth 91 = .ok (.iload 4, 2) := by decide +kernel
theorem dX2_smooth_93 : decode cX2_smooth 93 = .ok (.iadd, 1) := by decide +kernel
theorem dX2_smooth_94 : decode cX2_smooth 94 = .ok (.iconst 2, 1) := by decide +kernel
theorem dX2_smooth_95 : decode cX2_smooth 95 = .ok (.iadd, 1) := by decide +kernel
theorem dX2_smooth_96 : decode cX2_smooth 96 = .ok (.iconst 2, 1) := by decide +kernel
theorem dX2_smooth_97 : decode cX2_smooth 97 = .ok (.ishr, 1) := by decide +kernel
theorem dX2_smooth_98 : decode cX2_smooth 98 = .ok (.iastore, 1) := by decide +kernel
theorem dX2_smooth_99 : decode cX2_smooth 99 = .ok (.aload_n 0, 1) := by decide +kernel
theorem dX2_smooth_100 : decode cX2_smooth 100 = .ok (.iload_n 1, 1) := by decide +kernel
theorem dX2_smooth_101 : decode cX2_smooth 101 = .ok (.iconst 2, 1) := by decide +kernel
theorem dX2_smooth_102 : decode cX2_smooth 102 = .ok (.iload_n 2, 1) := by decide +kernel
theorem dX2_smooth_103 : decode cX2_smooth 103 = .ok (.imul, 1) := by decide +kernel
theorem dX2_smooth_104 : decode cX2_smooth 104 = .ok (.iadd, 1) := by decide +kernel
theorem dX2_smooth_105 : decode cX2_smooth 105 = .ok (.iconst 2, 1) := by decide +kernel
theorem dX2_smooth_106 : decode cX2_smooth 106 = .ok (.iload 9, 2) := by decide +kernel
theorem dX2_smooth_108 : decode cX2_smooth 108 = .ok (.imul, 1) := by decide +kernel
theorem dX2_smooth_109 : decode cX2_smooth 109 = .ok (.iconst 3, 1) := by decide +kernel
theorem dX2_smooth_110 : decode cX2_smooth 110 = .ok (.iload 8, 2) := by decide +kernel
theorem dX2_smooth_112 : decode cX2_smooth 112 = .ok (.imul, 1) := by decide +kernel
theorem dX2_smooth_113 : decode cX2_smooth 113 = .ok (.iadd, 1) := by decide +kernel
theorem dX2_smooth_114 : decode cX2_smooth 114 = .ok (.iload 7, 2) := by decide +kernel
theorem dX2_smooth_116 : decode cX2_smooth 116 = .ok (.iadd, 1) := by decide +kernel
theorem dX2_smooth_117 : decode cX2_smooth 117 = .ok (.iload 6, 2) := by decide +kernel
theorem dX2_smooth_119 : decode cX2_smooth 119 = .ok (.iadd, 1) := by decide +kernel
theorem dX2_smooth_120 : decode cX2_smooth 120 = .ok (.iload 4, 2) := by decide +kernel
theorem dX2_smooth_122 : decode cX2_smooth 122 = .ok (.iadd, 1) := by decide +kernel
theorem dX2_smooth_123 : decode cX2_smooth 123 = .ok (.iconst 4, 1) := by decide +kernel
theorem dX2_smooth_124 : decode cX2_smooth 124 = .ok (.iadd, 1) := by decide +kernel
theorem dX2_smooth_125 : decode cX2_smooth 125 = .ok (.iconst 3, 1) := by decide +kernel
theorem dX2_smooth_126 : decode cX2_smooth 126 = .ok (.ishr, 1) := by decide +kernel
theorem dX2_smooth_127 : decode cX2_smooth 127 = .ok (.iastore, 1) := by decide +kernel
theorem dX2_smooth_128 : decode cX2_smooth 128 = .ok (.return_, 1) := by decide +kernel
def FX2_smooth (G : GG) (M : DD) (p0 : Option Nat) (p1 : Int32) (p2 : Int32) (p3 : Int32) (p4 : Int32) (p5 : Int32) : Option (DD) :=
  dr G 13 p0 fun b1 =>
  chk (¬ (p1 < 0 ∨ G.2.2 b1 ≤ p1.toNatClampNeg)) <|
  ltt (M.1 b1 p1.toNatClampNeg) fun x2 =>
  ltt ((p1 + p2)) fun x3 =>
  chk (¬ (x3 < 0 ∨ G.2.2 b1 ≤ x3.toNatClampNeg)) <|
  ltt (M.1 b1 x3.toNatClampNeg) fun x4 =>
  if p3 = ((0 : Int32)) then (ltt ((((2 : Int32)) * x4)) fun x40 =>
  ltt ((x40 + x2)) fun x41 =>
  ltt ((x41 + p5)) fun x42 =>
  ltt ((x42 + ((2 : Int32)))) fun x43 =>
  ltt ((x43 >>> (((2 : Int32)) &&& 31))) fun x44 =>
  chk (¬ (p1 < 0 ∨ G.2.2 b1 ≤ p1.toNatClampNeg)) <|
  ltt (uI M b1 p1.toNatClampNeg x44) fun M45 =>
  some M45) else
  (ltt ((((2 : Int32)) * p2)) fun x6 =>
  ltt ((p1 + x6)) fun x7 =>
  chk (¬ (x7 < 0 ∨ G.2.2 b1 ≤ x7.toNatClampNeg)) <|
  ltt (M.1 b1 x7.toNatClampNeg) fun x8 =>
  ltt ((((3 : Int32)) * p2)) fun x9 =>
  ltt ((p1 + x9)) fun x10 =>
  chk (¬ (x10 < 0 ∨ G.2.2 b1 ≤ x10.toNatClampNeg)) <|
  ltt (M.1 b1 x10.toNatClampNeg) fun x11 =>
  ltt ((((2 : Int32)) * x4)) fun x12 =>
  ltt ((x8 + x12)) fun x13 =>
  ltt ((((2 : Int32)) * x2)) fun x14 =>
  ltt ((x13 + x14)) fun x15 =>
  ltt ((((2 : Int32)) * p4)) fun x16 =>
  ltt ((x15 + x16)) fun x17 =>
  ltt ((x17 + p5)) fun x18 =>
  ltt ((x18 + ((4 : Int32)))) fun x19 =>
  ltt ((x19 >>> (((3 : Int32)) &&& 31))) fun x20 =>
  chk (¬ (p1 < 0 ∨ G.2.2 b1 ≤ p1.toNatClampNeg)) <|
  ltt (uI M b1 p1.toNatClampNeg x20) fun M21 =>
  ltt ((p1 + p2)) fun x22 =>
  ltt ((x8 + x4)) fun x23 =>
  ltt ((x23 + x2)) fun x24 =>
  ltt ((x24 + p4)) fun x25 =>
  ltt ((x25 + ((2 : Int32)))) fun x26 =>
  ltt ((x26 >>> (((2 : Int32)) &&& 31))) fun x27 =>
  chk (¬ (x22 < 0 ∨ G.2.2 b1 ≤ x22.toNatClampNeg)) <|
  ltt (uI M21 b1 x22.toNatClampNeg x27) fun M28 =>
  ltt ((((2 : Int32)) * p2)) fun x29 =>
  ltt ((p1 + x29)) fun x30 =>
  ltt ((((2 : Int32)) * x11)) fun x31 =>
  ltt ((((3 : Int32)) * x8)) fun x32 =>
  ltt ((x31 + x32)) fun x33 =>
  ltt ((x33 + x4)) fun x34 =>
  ltt ((x34 + x2)) fun x35 =>
  ltt ((x35 + p4)) fun x36 =>
  ltt ((x36 + ((4 : Int32)))) fun x37 =>
  ltt ((x37 >>> (((3 : Int32)) &&& 31))) fun x38 =>
  chk (¬ (x30 < 0 ∨ G.2.2 b1 ≤ x30.toNatClampNeg)) <|
  ltt (uI M28 b1 x30.toNatClampNeg x38) fun M39 =>
  some M39)
set_option maxHeartbeats 4000000 in
set_option maxRecDepth 100000 in
theorem kX2_smooth (l : Launch) (D : va_G) (ct : CT) (ad : Nat → Nat) (Z : Nat → Nat) (G : GG) (M : DD) (sz : Nat) (p0 : Option Nat) (p1 : Int32) (p2 : Int32) (p3 : Int32) (p4 : Int32) (p5 : Int32) (y : DD) (hF : FX2_smooth G M p0 p1 p2 p3 p4 p5 = some y) : Met l yX2_smooth wsX2_smooth ({ frames := 0, cells := 0, slots := 0, locals := 0 }) (va_Pc [va_re ad p0, .int p1, .int p2, .int p3, .int p4, .int p5] (kB D ct ad Z G M sz)) (va_Qv (fun (_ : Unit) => True) (fun _ t => kE D ct ad G (wA ad G sz) y t) (wA ad G sz)) 0 0 (wA ad G sz) := by
  refine Met.ofW (cc := cX2_smooth) (maxL := 10) (ret := none) (by decide) rfl ?_
  intro p e s m args below meth c s₁ B hml hv
  obtain ⟨rfl, hsz, hP, hK, hD0, hZ, hN⟩ := hv
  have hx := B.exec
  have hb := B.bytes
  have hr := B.returns
  have hts := atoms_spec (ws := wsX2_smooth) B.pre
  have hown : s.vm.findClass RX2 = some m.cls := findClass_of_methodNamed B.named
  have hlocks := B.notSynchronized
  subst hsz
  have hD := wD_self (sz := s.heap.size) hD0
  have hA9 : ∀ q, s.heap.size ≤ q → wA ad G s.heap.size q := fun q h => Or.inr h
  generalize hAe : wA ad G s.heap.size = A at hD hA9 hZ ⊢
  have hS : va_S A s.heap s.heap [] := va_S.rf
  have hl := lv_entry ([va_re ad p0, .int p1, .int p2, .int p3, .int p4, .int p5]) (n := 10) (by cases p0 <;> exact Nat.le_of_ble_eq_true rfl)
  rw [lg_entry_eq]
  generalize (lg_sl ([va_re ad p0, .int p1, .int p2, .int p3, .int p4, .int p5]) ++ List.replicate (10 - (lg_sl ([va_re ad p0, .int p1, .int p2, .int p3, .int p4, .int p5])).length) Slot.unset).toArray = ls at hl ⊢
  have hl : lv_has ls 10 [(0, va_re ad p0), (1, .int p1), (2, .int p2), (3, .int p3), (4, .int p4), (5, .int p5)] := by have e9 : lv_args 0 [va_re ad p0, .int p1, .int p2, .int p3, .int p4, .int p5] = [(0, va_re ad p0), (1, .int p1), (2, .int p2), (3, .int p3), (4, .int p4), (5, .int p5)] := (by cases p0 <;> rfl); rw [e9] at hl; exact hl
  unfold FX2_smooth at hF
  refine lv_aloadq_n hx hb dX2_smooth_0 rfl (lv_at hl 0 rfl) ?_
  refine lv_iload_n hx hb dX2_smooth_1 rfl (lv_at hl 1 rfl) ?_
  obtain ⟨b1, ho1, hc1, hk1, hF⟩ := dr_some hF
  refine W_st (st' := [.int p1, .ref (ad b1)]) (by rw [va_some ho1]) ?_
  obtain ⟨hvc, hF⟩ := chk_some hF
  refine va_iald hx hb hK hP b1 1 (wld_i ct ad G M hc1 hk1) rfl hvc dX2_smooth_2 ?_
  obtain ⟨x2, ex2, hF⟩ := ltt_some hF
  refine lv_topi (fun zx2 ezx2 => ?_)
  obtain rfl : x2 = zx2 := ex2.trans ezx2.symm
  refine lv_istore (lv' := [(6, .int x2), (0, va_re ad p0), (1, .int p1), (2, .int p2), (3, .int p3), (4, .int p4), (5, .int p5)]) hx hb dX2_smooth_3 hl (by decide) rfl (fun ls hl => ?_)
  refine lv_aloadq_n hx hb dX2_smooth_5 rfl (lv_at hl 1 rfl) ?_
  refine lv_iload_n hx hb dX2_smooth_6 rfl (lv_at hl 2 rfl) ?_
  refine lv_iload_n hx hb dX2_smooth_7 rfl (lv_at hl 3 rfl) ?_
  refine lv_iadd hx hb dX2_smooth_8 ?_
  obtain ⟨x3, ex3, hF⟩ := ltt_some hF
  refine lv_topi (fun zx3 ezx3 => ?_)
  obtain rfl : x3 = zx3 := ex3.trans ezx3.symm
  refine W_st (st' := [.int x3, .ref (ad b1)]) (by rw [va_some ho1]) ?_
  obtain ⟨hvc, hF⟩ := chk_some hF
  refine va_iald hx hb hK hP b1 1 (wld_i ct ad G M hc1 hk1) rfl hvc dX2_smooth_9 ?_
  obtain ⟨x4, ex4, hF⟩ := ltt_some hF
  refine lv_topi (fun zx4 ezx4 => ?_)
  obtain rfl : x4 = zx4 := ex4.trans ezx4.symm
  refine lv_istore (lv' := [(7, .int x4), (6, .int x2), (0, va_re ad p0), (1, .int p1), (2, .int p2), (3, .int p3), (4, .int p4), (5, .int p5)]) hx hb dX2_smooth_10 hl (by decide) rfl (fun ls hl => ?_)
  refine lv_iload_n hx hb dX2_smooth_12 rfl (lv_at hl 5 rfl) ?_
  refine lv_if_ne (tgt := 34) hx hb dX2_smooth_13 (by decide) (fun c5 => ?_) (fun c5 => ?_)
  · rw [if_neg c5] at hF
    refine lv_aloadq_n hx hb dX2_smooth_34 rfl (lv_at hl 2 rfl) ?_
    refine lv_iload_n hx hb dX2_smooth_35 rfl (lv_at hl 3 rfl) ?_
    refine lv_iconst (v := (2 : Int32)) hx hb dX2_smooth_36 (by decide) ?_
    refine lv_iload_n hx hb dX2_smooth_37 rfl (lv_at hl 4 rfl) ?_
    refine lv_imul hx hb dX2_smooth_38 ?_
    obtain ⟨x6, ex6, hF⟩ := ltt_some hF
    refine lv_topi (fun zx6 ezx6 => ?_)
    obtain rfl : x6 = zx6 := ex6.trans ezx6.symm
    refine lv_iadd hx hb dX2_smooth_39 ?_
    obtain ⟨x7, ex7, hF⟩ := ltt_some hF
    refine lv_topi (fun zx7 ezx7 => ?_)
    obtain rfl : x7 = zx7 := ex7.trans ezx7.symm
    refine W_st (st' := [.int x7, .ref (ad b1)]) (by rw [va_some ho1]) ?_
    obtain ⟨hvc, hF⟩ := chk_some hF
    refine va_iald hx hb hK hP b1 1 (wld_i ct ad G M hc1 hk1) rfl hvc dX2_smooth_40 ?_
    obtain ⟨x8, ex8, hF⟩ := ltt_some hF
    refine lv_topi (fun zx8 ezx8 => ?_)
    obtain rfl : x8 = zx8 := ex8.trans ezx8.symm
    refine lv_istore (lv' := [(8, .int x8), (7, .int x4), (6, .int x2), (0, va_re ad p0), (1, .int p1), (2, .int p2), (3, .int p3), (4, .int p4), (5, .int p5)]) hx hb dX2_smooth_41 hl (by decide) rfl (fun ls hl => ?_)
    refine lv_aloadq_n hx hb dX2_smooth_43 rfl (lv_at hl 3 rfl) ?_
    refine lv_iload_n hx hb dX2_smooth_44 rfl (lv_at hl 4 rfl) ?_
    refine lv_iconst (v := (3 : Int32)) hx hb dX2_smooth_45 (by decide) ?_
    refine lv_iload_n hx hb dX2_smooth_46 rfl (lv_at hl 5 rfl) ?_
    refine lv_imul hx hb dX2_smooth_47 ?_
    obtain ⟨x9, ex9, hF⟩ := ltt_some hF
    refine lv_topi (fun zx9 ezx9 => ?_)
    obtain rfl : x9 = zx9 := ex9.trans ezx9.symm
    refine lv_iadd hx hb dX2_smooth_48 ?_
    obtain ⟨x10, ex10, hF⟩ := ltt_some hF
    refine lv_topi (fun zx10 ezx10 => ?_)
    obtain rfl : x10 = zx10 := ex10.trans ezx10.symm
    refine W_st (st' := [.int x10, .ref (ad b1)]) (by rw [va_some ho1]) ?_
    obtain ⟨hvc, hF⟩ := chk_some hF
    refine va_iald hx hb hK hP b1 1 (wld_i ct ad G M hc1 hk1) rfl hvc dX2_smooth_49 ?_
    obtain ⟨x11, ex11, hF⟩ := ltt_some hF
    refine lv_topi (fun zx11 ezx11 => ?_)
    obtain rfl : x11 = zx11 := ex11.trans ezx11.symm
    refine lv_istore (lv' := [(9, .int x11), (8, .int x8), (7, .int x4), (6, .int x2), (0, va_re ad p0), (1, .int p1), (2, .int p2), (3, .int p3), (4, .int p4), (5, .int p5)]) hx hb dX2_smooth_50 hl (by decide) rfl (fun ls hl => ?_)
    refine lv_aloadq_n hx hb dX2_smooth_52 rfl (lv_at hl 4 rfl) ?_
    refine lv_iload_n hx hb dX2_smooth_53 rfl (lv_at hl 5 rfl) ?_
    refine lv_iload hx hb dX2_smooth_54 (lv_at hl 1 rfl) ?_
    refine lv_iconst (v := (2 : Int32)) hx hb dX2_smooth_56 (by decide) ?_
    refine lv_iload hx hb dX2_smooth_57 (lv_at hl 2 rfl) ?_
    refine lv_imul hx hb dX2_smooth_59 ?_
    obtain ⟨x12, ex12, hF⟩ := ltt_some hF
    refine lv_topi (fun zx12 ezx12 => ?_)
    obtain rfl : x12 = zx12 := ex12.trans ezx12.symm
    refine lv_iadd hx hb dX2_smooth_60 ?_
    obtain ⟨x13, ex13, hF⟩ := ltt_some hF
    refine lv_topi (fun zx13 ezx13 => ?_)
    obtain rfl : x13 = zx13 := ex13.trans ezx13.symm
    refine lv_iconst (v := (2 : Int32)) hx hb dX2_smooth_61 (by decide) ?_
    refine lv_iload hx hb dX2_smooth_62 (lv_at hl 3 rfl) ?_
    refine lv_imul hx hb dX2_smooth_64 ?_
    obtain ⟨x14, ex14, hF⟩ := ltt_some hF
    refine lv_topi (fun zx14 ezx14 => ?_)
    obtain rfl : x14 = zx14 := ex14.trans ezx14.symm
    refine lv_iadd hx hb dX2_smooth_65 ?_
    obtain ⟨x15, ex15, hF⟩ := ltt_some hF
    refine lv_topi (fun zx15 ezx15 => ?_)
    obtain rfl : x15 = zx15 := ex15.trans ezx15.symm
    refine lv_iconst (v := (2 : Int32)) hx hb dX2_smooth_66 (by decide) ?_
    refine lv_iload hx hb dX2_smooth_67 (lv_at hl 8 rfl) ?_
    refine lv_imul hx hb dX2_smooth_69 ?_
    obtain ⟨x16, ex16, hF⟩ := ltt_some hF
    refine lv_topi (fun zx16 ezx16 => ?_)
    obtain rfl : x16 = zx16 := ex16.trans ezx16.symm
    refine lv_iadd hx hb dX2_smooth_70 ?_
    obtain ⟨x17, ex17, hF⟩ := ltt_some hF
    refine lv_topi (fun zx17 ezx17 => ?_)
    obtain rfl : x17 = zx17 := ex17.trans ezx17.symm
    refine lv_iload hx hb dX2_smooth_71 (lv_at hl 9 rfl) ?_
    refine lv_iadd hx hb dX2_smooth_73 ?_
    obtain ⟨x18, ex18, hF⟩ := ltt_some hF
    refine lv_topi (fun zx18 ezx18 => ?_)
    obtain rfl : x18 = zx18 := ex18.trans ezx18.symm
    refine lv_iconst (v := (4 : Int32)) hx hb dX2_smooth_74 (by decide) ?_
    refine lv_iadd hx hb dX2_smooth_75 ?_
    obtain ⟨x19, ex19, hF⟩ := ltt_some hF
    refine lv_topi (fun zx19 ezx19 => ?_)
    obtain rfl : x19 = zx19 := ex19.trans ezx19.symm
    refine lv_iconst (v := (3 : Int32)) hx hb dX2_smooth_76 (by decide) ?_
    refine lv_ishr hx hb dX2_smooth_77 ?_
    obtain ⟨x20, ex20, hF⟩ := ltt_some hF
    refine lv_topi (fun zx20 ezx20 => ?_)
    obtain rfl : x20 = zx20 := ex20.trans ezx20.symm
    refine W_st (st' := [.int x20, .int p1, .ref (ad b1)]) (by rw [va_some ho1]) ?_
    obtain ⟨hvc, hF⟩ := chk_some hF
    refine va_iast hx hb hK hP hD hS b1 1 (wld_i ct ad G M hc1 hk1) rfl hvc dX2_smooth_78 (fun H locs hP hD hS => ?_)
    obtain ⟨M21, eM21, hF⟩ := ltt_some hF
    rw [set_i ct ad G M hc1 hk1, ← eM21] at hP hD
    refine lv_aloadq_n hx hb dX2_smooth_79 rfl (lv_at hl 4 rfl) ?_
    refine lv_iload_n hx hb dX2_smooth_80 rfl (lv_at hl 5 rfl) ?_
    refine lv_iload_n hx hb dX2_smooth_81 rfl (lv_at hl 6 rfl) ?_
    refine lv_iadd hx hb dX2_smooth_82 ?_
    obtain ⟨x22, ex22, hF⟩ := ltt_some hF
    refine lv_topi (fun zx22 ezx22 => ?_)
    obtain rfl : x22 = zx22 := ex22.trans ezx22.symm
    refine lv_iload hx hb dX2_smooth_83 (lv_at hl 1 rfl) ?_
    refine lv_iload hx hb dX2_smooth_85 (lv_at hl 2 rfl) ?_
    refine lv_iadd hx hb dX2_smooth_87 ?_
    obtain ⟨x23, ex23, hF⟩ := ltt_some hF
    refine lv_topi (fun zx23 ezx23 => ?_)
    obtain rfl : x23 = zx23 := ex23.trans ezx23.symm
    refine lv_iload hx hb dX2_smooth_88 (lv_at hl 3 rfl) ?_
    refine lv_iadd hx hb dX2_smooth_90 ?_
    obtain ⟨x24, ex24, hF⟩ := ltt_some hF
    refine lv_topi (fun zx24 ezx24 => ?_)
    obtain rfl : x24 = zx24 := ex24.trans ezx24.symm
    refine lv_iload hx hb dX2_smooth_91 (lv_at hl 8 rfl) ?_
    refine lv_iadd hx hb dX2_smooth_93 ?_
    obtain ⟨x25, ex25, hF⟩ := ltt_some hF
    refine lv_topi (fun zx25 ezx25 => ?_)
    obtain rfl : x25 = zx25 := ex25.trans ezx25.symm
    refine lv_iconst (v := (2 : Int32)) hx hb dX2_smooth_94 (by decide) ?_
    refine lv_iadd hx hb dX2_smooth_95 ?_
    obtain ⟨x26, ex26, hF⟩ := ltt_some hF
    refine lv_topi (fun zx26 ezx26 => ?_)
    obtain rfl : x26 = zx26 := ex26.trans ezx26.symm
    refine lv_iconst (v := (2 : Int32)) hx hb dX2_smooth_96 (by decide) ?_
    refine lv_ishr hx hb dX2_smooth_97 ?_
    obtain ⟨x27, ex27, hF⟩ := ltt_some hF
    refine lv_topi (fun zx27 ezx27 => ?_)
    obtain rfl : x27 = zx27 := ex27.trans ezx27.symm
    refine W_st (st' := [.int x27, .int x22, .ref (ad b1)]) (by rw [va_some ho1]) ?_
    obtain ⟨hvc, hF⟩ := chk_some hF
    refine va_iast hx hb hK hP hD hS b1 1 (wld_i ct ad G M21 hc1 hk1) rfl hvc dX2_smooth_98 (fun H locs hP hD hS => ?_)
    obtain ⟨M28, eM28, hF⟩ := ltt_some hF
    rw [set_i ct ad G M21 hc1 hk1, ← eM28] at hP hD
    refine lv_aloadq_n hx hb dX2_smooth_99 rfl (lv_at hl 4 rfl) ?_
    refine lv_iload_n hx hb dX2_smooth_100 rfl (lv_at hl 5 rfl) ?_
    refine lv_iconst (v := (2 : Int32)) hx hb dX2_smooth_101 (by decide) ?_
    refine lv_iload_n hx hb dX2_smooth_102 rfl (lv_at hl 6 rfl) ?_
    refine lv_imul hx hb dX2_smooth_103 ?_
    obtain ⟨x29, ex29, hF⟩ := ltt_some hF
    refine lv_topi (fun zx29 ezx29 => ?_)
    obtain rfl : x29 = zx29 := ex29.trans ezx29.symm
    refine lv_iadd hx hb dX2_smooth_104 ?_
    obtain ⟨x30, ex30, hF⟩ := ltt_some hF
    refine lv_topi (fun zx30 ezx30 => ?_)
    obtain rfl : x30 = zx30 := ex30.trans ezx30.symm
    refine lv_iconst (v := (2 : Int32)) hx hb dX2_smooth_105 (by decide) ?_
    refine lv_iload hx hb dX2_smooth_106 (lv_at hl 0 rfl) ?_
    refine lv_imul hx hb dX2_smooth_108 ?_
    obtain ⟨x31, ex31, hF⟩ := ltt_some hF
    refine lv_topi (fun zx31 ezx31 => ?_)
    obtain rfl : x31 = zx31 := ex31.trans ezx31.symm
    refine lv_iconst (v := (3 : Int32)) hx hb dX2_smooth_109 (by decide) ?_
    refine lv_iload hx hb dX2_smooth_110 (lv_at hl 1 rfl) ?_
    refine lv_imul hx hb dX2_smooth_112 ?_
    obtain ⟨x32, ex32, hF⟩ := ltt_some hF
    refine lv_topi (fun zx32 ezx32 => ?_)
    obtain rfl : x32 = zx32 := ex32.trans ezx32.symm
    refine lv_iadd hx hb dX2_smooth_113 ?_
    obtain ⟨x33, ex33, hF⟩ := ltt_some hF
    refine lv_topi (fun zx33 ezx33 => ?_)
    obtain rfl : x33 = zx33 := ex33.trans ezx33.symm
    refine lv_iload hx hb dX2_smooth_114 (lv_at hl 2 rfl) ?_
    refine lv_iadd hx hb dX2_smooth_116 ?_
    obtain ⟨x34, ex34, hF⟩ := ltt_some hF
    refine lv_topi (fun zx34 ezx34 => ?_)
    obtain rfl : x34 = zx34 := ex34.trans ezx34.symm
    refine lv_iload hx hb dX2_smooth_117 (lv_at hl 3 rfl) ?_
    refine lv_iadd hx hb dX2_smooth_119 ?_
    obtain ⟨x35, ex35, hF⟩ := ltt_some hF
    refine lv_topi (fun zx35 ezx35 => ?_)
    obtain rfl : x35 = zx35 := ex35.trans ezx35.symm
    refine lv_iload hx hb dX2_smooth_120 (lv_at hl 8 rfl) ?_
    refine lv_iadd hx hb dX2_smooth_122 ?_
    obtain ⟨x36, ex36, hF⟩ := ltt_some hF
    refine lv_topi (fun zx36 ezx36 => ?_)
    obtain rfl : x36 = zx36 := ex36.trans ezx36.symm
    refine lv_iconst (v := (4 : Int32)) hx hb dX2_smooth_123 (by decide) ?_
    refine lv_iadd hx hb dX2_smooth_124 ?_
    obtain ⟨x37, ex37, hF⟩ := ltt_some hF
    refine lv_topi (fun zx37 ezx37 => ?_)
    obtain rfl : x37 = zx37 := ex37.trans ezx37.symm
    refine lv_iconst (v := (3 : Int32)) hx hb dX2_smooth_125 (by decide) ?_
    refine lv_ishr hx hb dX2_smooth_126 ?_
    obtain ⟨x38, ex38, hF⟩ := ltt_some hF
    refine lv_topi (fun zx38 ezx38 => ?_)
    obtain rfl : x38 = zx38 := ex38.trans ezx38.symm
    refine W_st (st' := [.int x38, .int x30, .ref (ad b1)]) (by rw [va_some ho1]) ?_
    obtain ⟨hvc, hF⟩ := chk_some hF
    refine va_iast hx hb hK hP hD hS b1 1 (wld_i ct ad G M28 hc1 hk1) rfl hvc dX2_smooth_127 (fun H locs hP hD hS => ?_)
    obtain ⟨M39, eM39, hF⟩ := ltt_some hF
    rw [set_i ct ad G M28 hc1 hk1, ← eM39] at hP hD
    obtain rfl := Option.some.inj hF
    exact W.vret hx hb hr (fun t ht hW => ⟨⟨(), rfl, trivial, ⟨by rw [ht]; exact hP, va_K.moved hW.alike hK, hD⟩⟩, hS.F ht⟩) hS.2.2 dX2_smooth_128
  · rw [if_pos c5] at hF
    refine lv_aloadq_n hx hb dX2_smooth_16 rfl (lv_at hl 2 rfl) ?_
    refine lv_iload_n hx hb dX2_smooth_17 rfl (lv_at hl 3 rfl) ?_
    refine lv_iconst (v := (2 : Int32)) hx hb dX2_smooth_18 (by decide) ?_
    refine lv_iload hx hb dX2_smooth_19 (lv_at hl 0 rfl) ?_
    refine lv_imul hx hb dX2_smooth_21 ?_
    obtain ⟨x40, ex40, hF⟩ := ltt_some hF
    refine lv_topi (fun zx40 ezx40 => ?_)
    obtain rfl : x40 = zx40 := ex40.trans ezx40.symm
    refine lv_iload hx hb dX2_smooth_22 (lv_at hl 1 rfl) ?_
    refine lv_iadd hx hb dX2_smooth_24 ?_
    obtain ⟨x41, ex41, hF⟩ := ltt_some hF
    refine lv_topi (fun zx41 ezx41 => ?_)
    obtain rfl : x41 = zx41 := ex41.trans ezx41.symm
    refine lv_iload hx hb dX2_smooth_25 (lv_at hl 7 rfl) ?_
    refine lv_iadd hx hb dX2_smooth_27 ?_
    obtain ⟨x42, ex42, hF⟩ := ltt_some hF
    refine lv_topi (fun zx42 ezx42 => ?_)
    obtain rfl : x42 = zx42 := ex42.trans ezx42.symm
    refine lv_iconst (v := (2 : Int32)) hx hb dX2_smooth_28 (by decide) ?_
    refine lv_iadd hx hb dX2_smooth_29 ?_
    obtain ⟨x43, ex43, hF⟩ := ltt_some hF
    refine lv_topi (fun zx43 ezx43 => ?_)
    obtain rfl : x43 = zx43 := ex43.trans ezx43.symm
    refine lv_iconst (v := (2 : Int32)) hx hb dX2_smooth_30 (by decide) ?_
    refine lv_ishr hx hb dX2_smooth_31 ?_
    obtain ⟨x44, ex44, hF⟩ := ltt_some hF
    refine lv_topi (fun zx44 ezx44 => ?_)
    obtain rfl : x44 = zx44 := ex44.trans ezx44.symm
    refine W_st (st' := [.int x44, .int p1, .ref (ad b1)]) (by rw [va_some ho1]) ?_
    obtain ⟨hvc, hF⟩ := chk_some hF
    refine va_iast hx hb hK hP hD hS b1 1 (wld_i ct ad G M hc1 hk1) rfl hvc dX2_smooth_32 (fun H locs hP hD hS => ?_)
    obtain ⟨M45, eM45, hF⟩ := ltt_some hF
    rw [set_i ct ad G M hc1 hk1, ← eM45] at hP hD
    obtain rfl := Option.some.inj hF
    exact W.vret hx hb hr (fun t ht hW => ⟨⟨(), rfl, trivial, ⟨by rw [ht]; exact hP, va_K.moved hW.alike hK, hD⟩⟩, hS.F ht⟩) hS.2.2 dX2_smooth_33
theorem dX2_takeMotion_0 : decode cX2_takeMotion 0 = .ok (.aload_n 1, 1) := by decide +kernel
theorem dX2_takeMotion_1 : decode cX2_takeMotion 1 = .ok (.getfield 15, 3) := by decide +kernel
theorem dX2_takeMotion_4 : decode cX2_takeMotion 4 = .ok (.getfield 49, 3) := by decide +kernel
theorem dX2_takeMotion_7 : decode cX2_takeMotion 7 = .ok (.istore_n 3, 1) := by decide +kernel
theorem dX2_takeMotion_8 : decode cX2_takeMotion 8 = .ok (.iload_n 2, 1) := by decide +kernel
theorem dX2_takeMotion_9 : decode cX2_takeMotion 9 = .ok (.iload_n 3, 1) := by decide +kernel
theorem dX2_takeMotion_10 : decode cX2_takeMotion 10 = .ok (.if_icmp .lt 9, 3) := by decide +kernel
theorem dX2_takeMotion_13 : decode cX2_takeMotion 13 = .ok (.iload_n 2, 1) := by decide +kernel
theorem dX2_takeMotion_14 : decode cX2_takeMotion 14 = .ok (.iload_n 3, 1) := by decide +kernel
theorem dX2_takeMotion_15 : decode cX2_takeMotion 15 = .ok (.isub, 1) := by decide +kernel
theorem dX2_takeMotion_16 : decode cX2_takeMotion 16 = .ok (.goto 16, 3) := by decide +kernel
theorem dX2_takeMotion_19 : decode cX2_takeMotion 19 = .ok (.iload_n 2, 1) := by decide +kernel
theorem dX2_takeMotion_20 : decode cX2_takeMotion 20 = .ok (.iload_n 3, 1) := by decide +kernel
theorem dX2_takeMotion_21 : decode cX2_takeMotion 21 = .ok (.irem, 1) := by decide +kernel
theorem dX2_takeMotion_22 : decode cX2_takeMotion 22 = .ok (.ifCond .le 9, 3) := by decide +kernel
theorem dX2_takeMotion_25 : decode cX2_takeMotion 25 = .ok (.iload_n 2, 1) := by decide +kernel
theorem dX2_takeMotion_26 : decode cX2_takeMotion 26 = .ok (.iconst 1, 1) := by decide +kernel
theorem dX2_takeMotion_27 : decode cX2_takeMotion 27 = .ok (.isub, 1) := by decide +kernel
theorem dX2_takeMotion_28 : decode cX2_takeMotion 28 = .ok (.goto 4, 3) := by decide +kernel
theorem dX2_takeMotion_31 : decode cX2_takeMotion 31 = .ok (.iconst (-1), 1) := by decide +kernel
theorem dX2_takeMotion_32 : decode cX2_takeMotion 32 = .ok (.istore 4, 2) := by decide +kernel
theorem dX2_takeMotion_34 : decode cX2_takeMotion 34 = .ok (.bipush 16, 2) := by decide +kernel
theorem dX2_takeMotion_36 : decode cX2_takeMotion 36 = .ok (.iload 4, 2) := by decide +kernel
theorem dX2_takeMotion_38 : decode cX2_takeMotion 38 = .ok (.imul, 1) := by decide +kernel
theorem dX2_takeMotion_39 : decode cX2_takeMotion 39 = .ok (.bipush 15, 2) := by decide +kernel
theorem dX2_takeMotion_41 : decode cX2_takeMotion 41 = .ok (.iadd, 1) := by decide +kernel
theorem dX2_takeMotion_42 : decode cX2_takeMotion 42 = .ok (.istore 5, 2) := by decide +kernel
theorem dX2_takeMotion_44 : decode cX2_takeMotion 44 = .ok (.iload 4, 2) := by decide +kernel
theorem dX2_takeMotion_46 : decode cX2_takeMotion 46 = .ok (.ifCond .lt 50, 3) := by decide +kernel
theorem dX2_takeMotion_49 : decode cX2_takeMotion 49 = .ok (.aload_n 1, 1) := by decide +kernel
theorem dX2_takeMotion_50 : decode cX2_takeMotion 50 = .ok (.getfield 15, 3) := by decide +kernel
theorem dX2_takeMotion_53 : decode cX2_takeMotion 53 = .ok (.getfield 52, 3) := by decide +kernel
theorem dX2_takeMotion_56 : decode cX2_takeMotion 56 = .ok (.iload 5, 2) := by decide +kernel
theorem dX2_takeMotion_58 : decode cX2_takeMotion 58 = .ok (.iaload, 1) := by decide +kernel
theorem dX2_takeMotion_59 : decode cX2_takeMotion 59 = .ok (.ifCond .lt 37, 3) := by decide +kernel
theorem dX2_takeMotion_62 : decode cX2_takeMotion 62 = .ok (.aload_n 0, 1) := by decide +kernel
theorem dX2_takeMotion_63 : decode cX2_takeMotion 63 = .ok (.aload_n 1, 1) := by decide +kernel
theorem dX2_takeMotion_64 : decode cX2_takeMotion 64 = .ok (.getfield 15, 3) := by decide +kernel
theorem dX2_takeMotion_67 : decode cX2_takeMotion 67 = .ok (.getfield 55, 3) := by decide +kernel
theorem dX2_takeMotion_70 : decode cX2_takeMotion 70 = .ok (.iconst 2, 1) := by decide +kernel
theorem dX2_takeMotion_71 : decode cX2_takeMotion 71 = .ok (.iload 5, 2) := by decide +kernel
theorem dX2_takeMotion_73 : decode cX2_takeMotion 73 = .ok (.imul, 1) := by decide +kernel
theorem dX2_takeMotion_74 : decode cX2_takeMotion 74 = .ok (.iaload, 1) := by decide +kernel
theorem dX2_takeMotion_75 : decode cX2_takeMotion 75 = .ok (.putfield 30, 3) := by decide +kernel
theorem dX2_takeMotion_78 : decode cX2_takeMotion 78 = .ok (.aload_n 0, 1) := by decide +kernel
theorem dX2_takeMotion_79 : decode cX2_takeMotion 79 = .ok (.aload_n 1, 1) := by decide +kernel
theorem dX2_takeMotion_80 : decode cX2_takeMotion 80 = .ok (.getfield 15, 3) := by decide +kernel
theorem dX2_takeMotion_83 : decode cX2_takeMotion 83 = .ok (.getfield 55, 3) := by decide +kernel
theorem dX2_takeMotion_86 : decode cX2_takeMotion 86 = .ok (.iconst 2, 1) := by decide +kernel
theorem dX2_takeMotion_87 : decode cX2_takeMotion 87 = .ok (.iload 5, 2) := by decide +kernel
theorem dX2_takeMotion_89 : decode cX2_takeMotion 89 = .ok (.imul, 1) := by decide +kernel
theorem dX2_takeMotion_90 : decode cX2_takeMotion 90 = .ok (.iconst 1, 1) := by decide +kernel
theorem dX2_takeMotion_91 : decode cX2_takeMotion 91 = .ok (.iadd, 1) := by decide +kernel
theorem dX2_takeMotion_92 : decode cX2_takeMotion 92 = .ok (.iaload, 1) := by decide +kernel
theorem dX2_takeMotion_93 : decode cX2_takeMotion 93 = .ok (.putfield 34, 3) := by decide +kernel
theorem dX2_takeMotion_96 : decode cX2_takeMotion 96 = .ok (.return_, 1) := by decide +kernel
def FX2_takeMotion (G : GG) (M : DD) (a : Nat) (p0 : Option Nat) (p1 : Int32) : Option (DD) :=
  dr G 9 p0 fun b1 =>
  dr G 4 ((M.2 b1 0)) fun b2 =>
  ltt (M.1 b2 1) fun x3 =>
  bnd (if p1 < x3 then (chk (¬ x3 = 0) <|
  ltt (p1 - p1 / x3 * x3) fun x24 =>
  bnd (if x24 ≤ ((0 : Int32)) then (some ((-1 : Int32))) else
  (ltt ((p1 - ((1 : Int32)))) fun x27 =>
  some (x27))) fun (y25 : Int32) =>
  some (y25)) else
  (ltt ((p1 - x3)) fun x28 =>
  some (x28))) fun (y4 : Int32) =>
  ltt ((((16 : Int32)) * y4)) fun x5 =>
  ltt ((x5 + ((15 : Int32)))) fun x6 =>
  bnd (if y4 < ((0 : Int32)) then (some (M)) else
  (dr G 13 ((M.2 b2 5)) fun b9 =>
  chk (¬ (x6 < 0 ∨ G.2.2 b9 ≤ x6.toNatClampNeg)) <|
  ltt (M.1 b9 x6.toNatClampNeg) fun x10 =>
  bnd (if x10 < ((0 : Int32)) then (some (M)) else
  (ltt ((((2 : Int32)) * x6)) fun x13 =>
  dr G 13 ((M.2 b2 7)) fun b14 =>
  chk (¬ (x13 < 0 ∨ G.2.2 b14 ≤ x13.toNatClampNeg)) <|
  ltt (M.1 b14 x13.toNatClampNeg) fun x15 =>
  ltt (uI M a 5 x15) fun M16 =>
  dr G 4 ((M16.2 b1 0)) fun b17 =>
  ltt ((((2 : Int32)) * x6)) fun x18 =>
  ltt ((x18 + ((1 : Int32)))) fun x19 =>
  dr G 13 ((M16.2 b17 7)) fun b20 =>
  chk (¬ (x19 < 0 ∨ G.2.2 b20 ≤ x19.toNatClampNeg)) <|
  ltt (M16.1 b20 x19.toNatClampNeg) fun x21 =>
  ltt (uI M16 a 6 x21) fun M22 =>
  some (M22))) fun (y11 : DD) =>
  some (y11))) fun (y7 : DD) =>
  some y7
set_option maxHeartbeats 4000000 in
set_option maxRecDepth 100000 in
theorem kX2_takeMotion (l : Launch) (D : va_G) (ct : CT) (ad : Nat → Nat) (Z : Nat → Nat) (G : GG) (M : DD) (sz : Nat) (a : Nat) (p0 : Option Nat) (p1 : Int32) (y : DD) (hc : a < G.1) (hk : G.2.1 a = 2) (hF : FX2_takeMotion G M a p0 p1 = some y) : Met l yX2_takeMotion wsX2_takeMotion ({ frames := 0, cells := 0, slots := 0, locals := 0 }) (va_Pc [.ref (ad a), va_re ad p0, .int p1] (kB D ct ad Z G M sz)) (va_Qv (fun (_ : Unit) => True) (fun _ t => kE D ct ad G (wA ad G sz) y t) (wA ad G sz)) 0 0 (wA ad G sz) := by
  refine Met.ofW (cc := cX2_takeMotion) (maxL := 6) (ret := none) (by decide) rfl ?_
  intro p e s m args below meth c s₁ B hml hv
  obtain ⟨rfl, hsz, hP, hK, hD0, hZ, hN⟩ := hv
  have hx := B.exec
  have hb := B.bytes
  have hr := B.returns
  have hts := atoms_spec (ws := wsX2_takeMotion) B.pre
  have hown : s.vm.findClass RX2 = some m.cls := findClass_of_methodNamed B.named
  have hlocks := B.notSynchronized
  subst hsz
  have hD := wD_self (sz := s.heap.size) hD0
  have hA9 : ∀ q, s.heap.size ≤ q → wA ad G s.heap.size q := fun q h => Or.inr h
  generalize hAe : wA ad G s.heap.size = A at hD hA9 hZ ⊢
  have hS : va_S A s.heap s.heap [] := va_S.rf
  have hl := lv_entry ([.ref (ad a), va_re ad p0, .int p1]) (n := 6) (by cases p0 <;> exact Nat.le_of_ble_eq_true rfl)
  rw [lg_entry_eq]
  generalize (lg_sl ([.ref (ad a), va_re ad p0, .int p1]) ++ List.replicate (6 - (lg_sl ([.ref (ad a), va_re ad p0, .int p1])).length) Slot.unset).toArray = ls at hl ⊢
  have hl : lv_has ls 6 [(0, .ref (ad a)), (1, va_re ad p0), (2, .int p1)] := by have e9 : lv_args 0 [.ref (ad a), va_re ad p0, .int p1] = [(0, .ref (ad a)), (1, va_re ad p0), (2, .int p1)] := (by cases p0 <;> rfl); rw [e9] at hl; exact hl
  unfold FX2_takeMotion at hF
  refine lv_aloadq_n hx hb dX2_takeMotion_0 rfl (lv_at hl 1 rfl) ?_
  obtain ⟨b1, ho1, hc1, hk1, hF⟩ := dr_some hF
  refine W_st (st' := [.ref (ad b1)]) (by rw [va_some ho1]) ?_
  refine va_get (D := D) (ci := 9) (v := va_re ad (M.2 b1 0)) (C := RX9) (T := TX9) (N := 20) hx hb hts (by decide +kernel) hown hK hP b1 (wld_o ct ad G M hc1 hk1 (by decide)) rfl 0 (by decide) (hts (.fieldLink RX2 15 "VideoSuite$Work" "pic" "LVideoSuite$Picture;") (by decide +kernel)) (fun _ h9 => h9) rfl dX2_takeMotion_1 ?_
  obtain ⟨b2, ho2, hc2, hk2, hF⟩ := dr_some hF
  refine W_st (st' := [.ref (ad b2)]) (by rw [va_some ho2]) ?_
  refine va_get (D := D) (ci := 4) (v := .int (M.1 b2 1)) (C := RX4) (T := TX4) (N := 18) hx hb hts (by decide +kernel) hown hK hP b2 (wld_o ct ad G M hc2 hk2 (by decide)) rfl 1 (by decide) (hts (.fieldLink RX2 49 "VideoSuite$Picture" "width" "I") (by decide +kernel)) (fun _ h9 => h9) rfl dX2_takeMotion_4 ?_
  obtain ⟨x3, ex3, hF⟩ := ltt_some hF
  refine lv_topi (fun zx3 ezx3 => ?_)
  obtain rfl : x3 = zx3 := ex3.trans ezx3.symm
  refine lv_istore_n (lv' := [(3, .int x3), (0, .ref (ad a)), (1, va_re ad p0), (2, .int p1)]) hx hb dX2_takeMotion_7 rfl hl (by decide) rfl (fun ls hl => ?_)
  refine lv_iload_n hx hb dX2_takeMotion_8 rfl (lv_at hl 3 rfl) ?_
  refine lv_iload_n hx hb dX2_takeMotion_9 rfl (lv_at hl 0 rfl) ?_
  obtain ⟨y4, hy4, hF⟩ := bnd_some hF
  have J4 : ∀ (H : Heap) (locs : List Loc) (ls : Array Slot), va_P D classes (wld ct ad G M) H → va_D A (wld ct ad G M) → va_S A s.heap H locs → lv_has ls 6 [(3, .int x3), (0, .ref (ad a)), (1, va_re ad p0), (2, .int p1)] → W p l e (headSpec wsX2_takeMotion ({ frames := 0, cells := 0, slots := 0, locals := 0 })).room s m ([.ref (ad a), va_re ad p0, .int p1] : List Value).toArray below meth c H locs 0 0 (MQ below (va_Qv (fun (_ : Unit) => True) (fun _ t => kE D ct ad G A y t) A) ([.ref (ad a), va_re ad p0, .int p1] : List Value).toArray s 0 0 A) (F0 m 32 ls [.int y4]) := by
    intro H locs ls hP hD hS hl
    refine lv_istore (lv' := [(4, .int y4), (3, .int x3), (0, .ref (ad a)), (1, va_re ad p0), (2, .int p1)]) hx hb dX2_takeMotion_32 hl (by decide) rfl (fun ls hl => ?_)
    refine lv_bipush (v := (16 : Int32)) hx hb dX2_takeMotion_34 (by decide) ?_
    refine lv_iload hx hb dX2_takeMotion_36 (lv_at hl 0 rfl) ?_
    refine lv_imul hx hb dX2_takeMotion_38 ?_
    obtain ⟨x5, ex5, hF⟩ := ltt_some hF
    refine lv_topi (fun zx5 ezx5 => ?_)
    obtain rfl : x5 = zx5 := ex5.trans ezx5.symm
    refine lv_bipush (v := (15 : Int32)) hx hb dX2_takeMotion_39 (by decide) ?_
    refine lv_iadd hx hb dX2_takeMotion_41 ?_
    obtain ⟨x6, ex6, hF⟩ := ltt_some hF
    refine lv_topi (fun zx6 ezx6 => ?_)
    obtain rfl : x6 = zx6 := ex6.trans ezx6.symm
    refine lv_istore (lv' := [(5, .int x6), (4, .int y4), (3, .int x3), (0, .ref (ad a)), (1, va_re ad p0), (2, .int p1)]) hx hb dX2_takeMotion_42 hl (by decide) rfl (fun ls hl => ?_)
    refine lv_iload hx hb dX2_takeMotion_44 (lv_at hl 1 rfl) ?_
    obtain ⟨y7, hy7, hF⟩ := bnd_some hF
    have J7 : ∀ (H : Heap) (locs : List Loc) (ls : Array Slot), va_P D classes (wld ct ad G y7) H → va_D A (wld ct ad G y7) → va_S A s.heap H locs → lv_has ls 6 [(5, .int x6), (4, .int y4), (3, .int x3), (0, .ref (ad a)), (1, va_re ad p0), (2, .int p1)] → W p l e (headSpec wsX2_takeMotion ({ frames := 0, cells := 0, slots := 0, locals := 0 })).room s m ([.ref (ad a), va_re ad p0, .int p1] : List Value).toArray below meth c H locs 0 0 (MQ below (va_Qv (fun (_ : Unit) => True) (fun _ t => kE D ct ad G A y t) A) ([.ref (ad a), va_re ad p0, .int p1] : List Value).toArray s 0 0 A) (F0 m 96 ls []) := by
      intro H locs ls hP hD hS hl
      obtain rfl := Option.some.inj hF
      exact W.vret hx hb hr (fun t ht hW => ⟨⟨(), rfl, trivial, ⟨by rw [ht]; exact hP, va_K.moved hW.alike hK, hD⟩⟩, hS.F ht⟩) hS.2.2 dX2_takeMotion_96
    clear hF
    have hF := hy7
    clear hy7
    refine lv_if_lt (tgt := 96) hx hb dX2_takeMotion_46 (by decide) (fun c8 => ?_) (fun c8 => ?_)
    · rw [if_pos c8] at hF
      obtain rfl := Option.some.inj hF
      exact J7 _ _ _ hP hD hS (lv_sub hl [0, 1, 2, 3, 4, 5] rfl)
    · rw [if_neg c8] at hF
      refine lv_aloadq_n hx hb dX2_takeMotion_49 rfl (lv_at hl 4 rfl) ?_
      refine W_st (st' := [.ref (ad b1)]) (by rw [va_some ho1]) ?_
      refine va_get (D := D) (ci := 9) (v := va_re ad (M.2 b1 0)) (C := RX9) (T := TX9) (N := 20) hx hb hts (by decide +kernel) hown hK hP b1 (wld_o ct ad G M hc1 hk1 (by decide)) rfl 0 (by decide) (hts (.fieldLink RX2 15 "VideoSuite$Work" "pic" "LVideoSuite$Picture;") (by decide +kernel)) (fun _ h9 => h9) rfl dX2_takeMotion_50 ?_
      refine W_st (st' := [.ref (ad b2)]) (by rw [va_some ho2]) ?_
      refine va_get (D := D) (ci := 4) (v := va_re ad (M.2 b2 5)) (C := RX4) (T := TX4) (N := 18) hx hb hts (by decide +kernel) hown hK hP b2 (wld_o ct ad G M hc2 hk2 (by decide)) rfl 5 (by decide) (hts (.fieldLink RX2 52 "VideoSuite$Picture" "reference" "[I") (by decide +kernel)) (fun _ h9 => h9) rfl dX2_takeMotion_53 ?_
      refine lv_iload hx hb dX2_takeMotion_56 (lv_at hl 0 rfl) ?_
      obtain ⟨b9, ho9, hc9, hk9, hF⟩ := dr_some hF
      refine W_st (st' := [.int x6, .ref (ad b9)]) (by rw [va_some ho9]) ?_
      obtain ⟨hvc, hF⟩ := chk_some hF
      refine va_iald hx hb hK hP b9 1 (wld_i ct ad G M hc9 hk9) rfl hvc dX2_takeMotion_58 ?_
      obtain ⟨x10, ex10, hF⟩ := ltt_some hF
      refine lv_topi (fun zx10 ezx10 => ?_)
      obtain rfl : x10 = zx10 := ex10.trans ezx10.symm
      obtain ⟨y11, hy11, hF⟩ := bnd_some hF
      have J11 : ∀ (H : Heap) (locs : List Loc) (ls : Array Slot), va_P D classes (wld ct ad G y11) H → va_D A (wld ct ad G y11) → va_S A s.heap H locs → lv_has ls 6 [(5, .int x6), (4, .int y4), (3, .int x3), (0, .ref (ad a)), (1, va_re ad p0), (2, .int p1)] → W p l e (headSpec wsX2_takeMotion ({ frames := 0, cells := 0, slots := 0, locals := 0 })).room s m ([.ref (ad a), va_re ad p0, .int p1] : List Value).toArray below meth c H locs 0 0 (MQ below (va_Qv (fun (_ : Unit) => True) (fun _ t => kE D ct ad G A y t) A) ([.ref (ad a), va_re ad p0, .int p1] : List Value).toArray s 0 0 A) (F0 m 96 ls []) := by
        intro H locs ls hP hD hS hl
        obtain rfl := Option.some.inj hF
        exact J7 _ _ _ hP hD hS (lv_sub hl [0, 1, 2, 3, 4, 5] rfl)
      clear hF
      have hF := hy11
      clear hy11
      refine lv_if_lt (tgt := 96) hx hb dX2_takeMotion_59 (by decide) (fun c12 => ?_) (fun c12 => ?_)
      · rw [if_pos c12] at hF
        obtain rfl := Option.some.inj hF
        exact J11 _ _ _ hP hD hS (lv_sub hl [0, 1, 2, 3, 4, 5] rfl)
      · rw [if_neg c12] at hF
        refine lv_aload_n hx hb dX2_takeMotion_62 rfl (lv_at hl 3 rfl) ?_
        refine lv_aloadq_n hx hb dX2_takeMotion_63 rfl (lv_at hl 4 rfl) ?_
        refine W_st (st' := [.ref (ad b1), .ref (ad a)]) (by rw [va_some ho1]) ?_
        refine va_get (D := D) (ci := 9) (v := va_re ad (M.2 b1 0)) (C := RX9) (T := TX9) (N := 20) hx hb hts (by decide +kernel) hown hK hP b1 (wld_o ct ad G M hc1 hk1 (by decide)) rfl 0 (by decide) (hts (.fieldLink RX2 15 "VideoSuite$Work" "pic" "LVideoSuite$Picture;") (by decide +kernel)) (fun _ h9 => h9) rfl dX2_takeMotion_64 ?_
        refine W_st (st' := [.ref (ad b2), .ref (ad a)]) (by rw [va_some ho2]) ?_
        refine va_get (D := D) (ci := 4) (v := va_re ad (M.2 b2 7)) (C := RX4) (T := TX4) (N := 18) hx hb hts (by decide +kernel) hown hK hP b2 (wld_o ct ad G M hc2 hk2 (by decide)) rfl 7 (by decide) (hts (.fieldLink RX2 55 "VideoSuite$Picture" "move" "[I") (by decide +kernel)) (fun _ h9 => h9) rfl dX2_takeMotion_67 ?_
        refine lv_iconst (v := (2 : Int32)) hx hb dX2_takeMotion_70 (by decide) ?_
        refine lv_iload hx hb dX2_takeMotion_71 (lv_at hl 0 rfl) ?_
        refine lv_imul hx hb dX2_takeMotion_73 ?_
        obtain ⟨x13, ex13, hF⟩ := ltt_some hF
        refine lv_topi (fun zx13 ezx13 => ?_)
        obtain rfl : x13 = zx13 := ex13.trans ezx13.symm
        obtain ⟨b14, ho14, hc14, hk14, hF⟩ := dr_some hF
        refine W_st (st' := [.int x13, .ref (ad b14), .ref (ad a)]) (by rw [va_some ho14]) ?_
        obtain ⟨hvc, hF⟩ := chk_some hF
        refine va_iald hx hb hK hP b14 1 (wld_i ct ad G M hc14 hk14) rfl hvc dX2_takeMotion_74 ?_
        obtain ⟨x15, ex15, hF⟩ := ltt_some hF
        refine lv_topi (fun zx15 ezx15 => ?_)
        obtain rfl : x15 = zx15 := ex15.trans ezx15.symm
        refine va_put (D := D) (ci := 2) (v := .int x15) (ty := .int) (C := RX2) (T := TX2) (N := 7) hx hb hts (by decide +kernel) tyX2 tyX2_ok nmX2 hown hK hP hD hS a (wld_o ct ad G M hc hk (by decide)) rfl 5 (by decide) (hts (.fieldLink RX2 30 "VideoSuite$Edges" "mendX" "I") (by decide +kernel)) (fun _ h9 => h9) rfl (by decide +kernel) rfl rfl (Nat.le_of_ble_eq_true rfl) dX2_takeMotion_75 (fun H locs hP hD hS => ?_)
        obtain ⟨M16, eM16, hF⟩ := ltt_some hF
        rw [set_oI ct ad G M hc hk (by decide) (by rfl), ← eM16] at hP hD
        refine lv_aload_n hx hb dX2_takeMotion_78 rfl (lv_at hl 3 rfl) ?_
        refine lv_aloadq_n hx hb dX2_takeMotion_79 rfl (lv_at hl 4 rfl) ?_
        refine W_st (st' := [.ref (ad b1), .ref (ad a)]) (by rw [va_some ho1]) ?_
        refine va_get (D := D) (ci := 9) (v := va_re ad (M16.2 b1 0)) (C := RX9) (T := TX9) (N := 20) hx hb hts (by decide +kernel) hown hK hP b1 (wld_o ct ad G M16 hc1 hk1 (by decide)) rfl 0 (by decide) (hts (.fieldLink RX2 15 "VideoSuite$Work" "pic" "LVideoSuite$Picture;") (by decide +kernel)) (fun _ h9 => h9) rfl dX2_takeMotion_80 ?_
        obtain ⟨b17, ho17, hc17, hk17, hF⟩ := dr_some hF
        refine W_st (st' := [.ref (ad b17), .ref (ad a)]) (by rw [va_some ho17]) ?_
        refine va_get (D := D) (ci := 4) (v := va_re ad (M16.2 b17 7)) (C := RX4) (T := TX4) (N := 18) hx hb hts (by decide +kernel) hown hK hP b17 (wld_o ct ad G M16 hc17 hk17 (by decide)) rfl 7 (by decide) (hts (.fieldLink RX2 55 "VideoSuite$Picture" "move" "[I") (by decide +kernel)) (fun _ h9 => h9) rfl dX2_takeMotion_83 ?_
        refine lv_iconst (v := (2 : Int32)) hx hb dX2_takeMotion_86 (by decide) ?_
        refine lv_iload hx hb dX2_takeMotion_87 (lv_at hl 0 rfl) ?_
        refine lv_imul hx hb dX2_takeMotion_89 ?_
        obtain ⟨x18, ex18, hF⟩ := ltt_some hF
        refine lv_topi (fun zx18 ezx18 => ?_)
        obtain rfl : x18 = zx18 := ex18.trans ezx18.symm
        refine lv_iconst (v := (1 : Int32)) hx hb dX2_takeMotion_90 (by decide) ?_
        refine lv_iadd hx hb dX2_takeMotion_91 ?_
        obtain ⟨x19, ex19, hF⟩ := ltt_some hF
        refine lv_topi (fun zx19 ezx19 => ?_)
        obtain rfl : x19 = zx19 := ex19.trans ezx19.symm
        obtain ⟨b20, ho20, hc20, hk20, hF⟩ := dr_some hF
        refine W_st (st' := [.int x19, .ref (ad b20), .ref (ad a)]) (by rw [va_some ho20]) ?_
        obtain ⟨hvc, hF⟩ := chk_some hF
        refine va_iald hx hb hK hP b20 1 (wld_i ct ad G M16 hc20 hk20) rfl hvc dX2_takeMotion_92 ?_
        obtain ⟨x21, ex21, hF⟩ := ltt_some hF
        refine lv_topi (fun zx21 ezx21 => ?_)
        obtain rfl : x21 = zx21 := ex21.trans ezx21.symm
        refine va_put (D := D) (ci := 2) (v := .int x21) (ty := .int) (C := RX2) (T := TX2) (N := 7) hx hb hts (by decide +kernel) tyX2 tyX2_ok nmX2 hown hK hP hD hS a (wld_o ct ad G M16 hc hk (by decide)) rfl 6 (by decide) (hts (.fieldLink RX2 34 "VideoSuite$Edges" "mendY" "I") (by decide +kernel)) (fun _ h9 => h9) rfl (by decide +kernel) rfl rfl (Nat.le_of_ble_eq_true rfl) dX2_takeMotion_93 (fun H locs hP hD hS => ?_)
        obtain ⟨M22, eM22, hF⟩ := ltt_some hF
        rw [set_oI ct ad G M16 hc hk (by decide) (by rfl), ← eM22] at hP hD
        obtain rfl := Option.some.inj hF
        exact J11 _ _ _ hP hD hS (lv_sub hl [0, 1, 2, 3, 4, 5] rfl)
  clear hF
  have hF := hy4
  clear hy4
  refine lv_icmp_lt (tgt := 19) hx hb dX2_takeMotion_10 (by decide) (fun c23 => ?_) (fun c23 => ?_)
  · rw [if_pos c23] at hF
    refine lv_iload_n hx hb dX2_takeMotion_19 rfl (lv_at hl 3 rfl) ?_
    refine lv_iload_n hx hb dX2_takeMotion_20 rfl (lv_at hl 0 rfl) ?_
    obtain ⟨hne, hF⟩ := chk_some hF
    refine lv_irem hx hb dX2_takeMotion_21 hne ?_
    obtain ⟨x24, ex24, hF⟩ := ltt_some hF
    refine lv_topi (fun zx24 ezx24 => ?_)
    obtain rfl : x24 = zx24 := ex24.trans ezx24.symm
    obtain ⟨y25, hy25, hF⟩ := bnd_some hF
    have J25 : ∀ (H : Heap) (locs : List Loc) (ls : Array Slot), va_P D classes (wld ct ad G M) H → va_D A (wld ct ad G M) → va_S A s.heap H locs → lv_has ls 6 [(3, .int x3), (0, .ref (ad a)), (1, va_re ad p0), (2, .int p1)] → W p l e (headSpec wsX2_takeMotion ({ frames := 0, cells := 0, slots := 0, locals := 0 })).room s m ([.ref (ad a), va_re ad p0, .int p1] : List Value).toArray below meth c H locs 0 0 (MQ below (va_Qv (fun (_ : Unit) => True) (fun _ t => kE D ct ad G A y t) A) ([.ref (ad a), va_re ad p0, .int p1] : List Value).toArray s 0 0 A) (F0 m 32 ls [.int y25]) := by
      intro H locs ls hP hD hS hl
      obtain rfl := Option.some.inj hF
      exact J4 _ _ _ hP hD hS (lv_sub hl [0, 1, 2, 3] rfl)
    clear hF
    have hF := hy25
    clear hy25
    refine lv_if_le (tgt := 31) hx hb dX2_takeMotion_22 (by decide) (fun c26 => ?_) (fun c26 => ?_)
    · rw [if_pos c26] at hF
      refine lv_iconst (v := (-1 : Int32)) hx hb dX2_takeMotion_31 (by decide) ?_
      obtain rfl := Option.some.inj hF
      exact J25 _ _ _ hP hD hS (lv_sub hl [0, 1, 2, 3] rfl)
    · rw [if_neg c26] at hF
      refine lv_iload_n hx hb dX2_takeMotion_25 rfl (lv_at hl 3 rfl) ?_
      refine lv_iconst (v := (1 : Int32)) hx hb dX2_takeMotion_26 (by decide) ?_
      refine lv_isub hx hb dX2_takeMotion_27 ?_
      obtain ⟨x27, ex27, hF⟩ := ltt_some hF
      refine lv_topi (fun zx27 ezx27 => ?_)
      obtain rfl : x27 = zx27 := ex27.trans ezx27.symm
      refine lv_goto (tgt := 32) hx hb dX2_takeMotion_28 (by decide) ?_
      obtain rfl := Option.some.inj hF
      exact J25 _ _ _ hP hD hS (lv_sub hl [0, 1, 2, 3] rfl)
  · rw [if_neg c23] at hF
    refine lv_iload_n hx hb dX2_takeMotion_13 rfl (lv_at hl 3 rfl) ?_
    refine lv_iload_n hx hb dX2_takeMotion_14 rfl (lv_at hl 0 rfl) ?_
    refine lv_isub hx hb dX2_takeMotion_15 ?_
    obtain ⟨x28, ex28, hF⟩ := ltt_some hF
    refine lv_topi (fun zx28 ezx28 => ?_)
    obtain rfl : x28 = zx28 := ex28.trans ezx28.symm
    refine lv_goto (tgt := 32) hx hb dX2_takeMotion_16 (by decide) ?_
    obtain rfl := Option.some.inj hF
    exact J4 _ _ _ hP hD hS (lv_sub hl [0, 1, 2, 3] rfl)
theorem dX3_beginsBehind_0 : decode cX3_beginsBehind 0 = .ok (.aload_n 1, 1) := by decide +kernel
theorem dX3_beginsBehind_1 : decode cX3_beginsBehind 1 = .ok (.getfield 7, 3) := by decide +kernel
theorem dX3_beginsBehind_4 : decode cX3_beginsBehind 4 = .ok (.astore_n 2, 1) := by decide +kernel
theorem dX3_beginsBehind_5 : decode cX3_beginsBehind 5 = .ok (.aload_n 0, 1) := by decide +kernel
theorem dX3_beginsBehind_6 : decode cX3_beginsBehind 6 = .ok (.getfield 7, 3) := by decide +kernel
theorem dX3_beginsBehind_9 : decode cX3_beginsBehind 9 = .ok (.iconst 0, 1) := by decide +kernel
theorem dX3_beginsBehind_10 : decode cX3_beginsBehind 10 = .ok (.iaload, 1) := by decide +kernel
theorem dX3_beginsBehind_11 : decode cX3_beginsBehind 11 = .ok (.ifCond .eq 123, 3) := by decide +kernel
theorem dX3_beginsBehind_14 : decode cX3_beginsBehind 14 = .ok (.aload_n 0, 1) := by decide +kernel
theorem dX3_beginsBehind_15 : decode cX3_beginsBehind 15 = .ok (.getfield 7, 3) := by decide +kernel
theorem dX3_beginsBehind_18 : decode cX3_beginsBehind 18 = .ok (.bipush 18, 2) := by decide +kernel
theorem dX3_beginsBehind_20 : decode cX3_beginsBehind 20 = .ok (.iaload, 1) := by decide +kernel
theorem dX3_beginsBehind_21 : decode cX3_beginsBehind 21 = .ok (.aload_n 2, 1) := by decide +kernel
theorem dX3_beginsBehind_22 : decode cX3_beginsBehind 22 = .ok (.bipush 18, 2) := by decide +kernel
theorem dX3_beginsBehind_24 : decode cX3_beginsBehind 24 = .ok (.iaload, 1) := by decide +kernel
theorem dX3_beginsBehind_25 : decode cX3_beginsBehind 25 = .ok (.if_icmp .ne 109, 3) := by decide +kernel
theorem dX3_beginsBehind_28 : decode cX3_beginsBehind 28 = .ok (.aload_n 0, 1) := by decide +kernel
theorem dX3_beginsBehind_29 : decode cX3_beginsBehind 29 = .ok (.getfield 7, 3) := by decide +kernel
theorem dX3_beginsBehind_32 : decode cX3_beginsBehind 32 = .ok (.iconst 3, 1) := by decide +kernel
theorem dX3_beginsBehind_33 : decode cX3_beginsBehind 33 = .ok (.iaload, 1) := by decide +kernel
theorem dX3_beginsBehind_34 : decode cX3_beginsBehind 34 = .ok (.aload_n 2, 1) := by decide +kernel
theorem dX3_beginsBehind_35 : decode cX3_beginsBehind 35 = .ok (.iconst 3, 1) := by decide +kernel
theorem dX3_beginsBehind_36 : decode cX3_beginsBehind 36 = .ok (.iaload, 1) := by decide +kernel
theorem dX3_beginsBehind_37 : decode cX3_beginsBehind 37 = .ok (.if_icmp .ne 97, 3) := by decide +kernel
theorem dX3_beginsBehind_40 : decode cX3_beginsBehind 40 = .ok (.aload_n 0, 1) := by decide +kernel
theorem dX3_beginsBehind_41 : decode cX3_beginsBehind 41 = .ok (.getfield 7, 3) := by decide +kernel
theorem dX3_beginsBehind_44 : decode cX3_beginsBehind 44 = .ok (.iconst 2, 1) := by decide +kernel
theorem dX3_beginsBehind_45 : decode cX3_beginsBehind 45 = .ok (.iaload, 1) := by decide +kernel
theorem dX3_beginsBehind_46 : decode cX3_beginsBehind 46 = .ok (.aload_n 2, 1) := by decide +kernel
theorem dX3_beginsBehind_47 : decode cX3_beginsBehind 47 = .ok (.iconst 2, 1) := by decide +kernel
theorem dX3_beginsBehind_48 : decode cX3_beginsBehind 48 = .ok (.iaload, 1) := by decide +kernel
theorem dX3_beginsBehind_49 : decode cX3_beginsBehind 49 = .ok (.if_icmp .ne 85, 3) := by decide +kernel
theorem dX3_beginsBehind_52 : decode cX3_beginsBehind 52 = .ok (.aload_n 0, 1) := by decide +kernel
theorem dX3_beginsBehind_53 : decode cX3_beginsBehind 53 = .ok (.getfield 7, 3) := by decide +kernel
theorem dX3_beginsBehind_56 : decode cX3_beginsBehind 56 = .ok (.bipush 11, 2) := by decide +kernel
theorem dX3_beginsBehind_58 : decode cX3_beginsBehind 58 = .ok (.iaload, 1) := by decide +kernel
theorem dX3_beginsBehind_59 : decode cX3_beginsBehind 59 = .ok (.ifCond .ne 7, 3) := by decide +kernel
theorem dX3_beginsBehind_62 : decode cX3_beginsBehind 62 = .ok (.iconst 1, 1) := by decide +kernel
theorem dX3_beginsBehind_63 : decode cX3_beginsBehind 63 = .ok (.goto 4, 3) := by decide +kernel
theorem dX3_beginsBehind_66 : decode cX3_beginsBehind 66 = .ok (.iconst 0, 1) := by decide +kernel
theorem dX3_beginsBehind_67 : decode cX3_beginsBehind 67 = .ok (.aload_n 2, 1) := by decide +kernel
theorem dX3_beginsBehind_68 : decode cX3_beginsBehind 68 = .ok (.bipush 11, 2) := by decide +kernel
theorem dX3_beginsBehind_70 : decode cX3_beginsBehind 70 = .ok (.iaload, 1) := by decide +kernel
theorem dX3_beginsBehind_71 : decode cX3_beginsBehind 71 = .ok (.ifCond .ne 7, 3) := by decide +kernel
theorem dX3_beginsBehind_74 : decode cX3_beginsBehind 74 = .ok (.iconst 1, 1) := by decide +kernel
theorem dX3_beginsBehind_75 : decode cX3_beginsBehind 75 = .ok (.goto 4, 3) := by decide +kernel
theorem dX3_beginsBehind_78 : decode cX3_beginsBehind 78 = .ok (.iconst 0, 1) := by decide +kernel
theorem dX3_beginsBehind_79 : decode cX3_beginsBehind 79 = .ok (.if_icmp .ne 55, 3) := by decide +kernel
theorem dX3_beginsBehind_82 : decode cX3_beginsBehind 82 = .ok (.aload_n 0, 1) := by decide +kernel
theorem dX3_beginsBehind_83 : decode cX3_beginsBehind 83 = .ok (.getfield 7, 3) := by decide +kernel
theorem dX3_beginsBehind_86 : decode cX3_beginsBehind 86 = .ok (.iconst 4, 1) := by decide +kernel
theorem dX3_beginsBehind_87 : decode cX3_beginsBehind 87 = .ok (.iaload, 1) := by decide +kernel
theorem dX3_beginsBehind_88 : decode cX3_beginsBehind 88 = .ok (.aload_n 2, 1) := by decide +kernel
theorem dX3_beginsBehind_89 : decode cX3_beginsBehind 89 = .ok (.iconst 4, 1) := by decide +kernel
theorem dX3_beginsBehind_90 : decode cX3_beginsBehind 90 = .ok (.iaload, 1) := by decide +kernel
theorem dX3_beginsBehind_91 : decode cX3_beginsBehind 91 = .ok (.if_icmp .ne 43, 3) := by decide +kernel
theorem dX3_beginsBehind_94 : decode cX3_beginsBehind 94 = .ok (.aload_n 0, 1) := by decide +kernel
theorem dX3_beginsBehind_95 : decode cX3_beginsBehind 95 = .ok (.getfield 7, 3) := by decide +kernel
theorem dX3_beginsBehind_98 : decode cX3_beginsBehind 98 = .ok (.iconst 5, 1) := by decide +kernel
theorem dX3_beginsBehind_99 : decode cX3_beginsBehind 99 = .ok (.iaload, 1) := by decide +kernel
theorem dX3_beginsBehind_100 : decode cX3_beginsBehind 100 = .ok (.aload_n 2, 1) := by decide +kernel
theorem dX3_beginsBehind_101 : decode cX3_beginsBehind 101 = .ok (.iconst 5, 1) := by decide +kernel
theorem dX3_beginsBehind_102 : decode cX3_beginsBehind 102 = .ok (.iaload, 1) := by decide +kernel
theorem dX3_beginsBehind_103 : decode cX3_beginsBehind 103 = .ok (.if_icmp .ne 31, 3) := by decide +kernel
theorem dX3_beginsBehind_106 : decode cX3_beginsBehind 106 = .ok (.aload_n 0, 1) := by decide +kernel
theorem dX3_beginsBehind_107 : decode cX3_beginsBehind 107 = .ok (.getfield 7, 3) := by decide +kernel
theorem dX3_beginsBehind_110 : decode cX3_beginsBehind 110 = .ok (.bipush 6, 2) := by decide +kernel
theorem dX3_beginsBehind_112 : decode cX3_beginsBehind 112 = .ok (.iaload, 1) := by decide +kernel
theorem dX3_beginsBehind_113 : decode cX3_beginsBehind 113 = .ok (.aload_n 2, 1) := by decide +kernel
theorem dX3_beginsBehind_114 : decode cX3_beginsBehind 114 = .ok (.bipush 6, 2) := by decide +kernel
theorem dX3_beginsBehind_116 : decode cX3_beginsBehind 116 = .ok (.iaload, 1) := by decide +kernel
theorem dX3_beginsBehind_117 : decode cX3_beginsBehind 117 = .ok (.if_icmp .ne 17, 3) := by decide +kernel
theorem dX3_beginsBehind_120 : decode cX3_beginsBehind 120 = .ok (.aload_n 0, 1) := by decide +kernel
theorem dX3_beginsBehind_121 : decode cX3_beginsBehind 121 = .ok (.getfield 7, 3) := by decide +kernel
theorem dX3_beginsBehind_124 : decode cX3_beginsBehind 124 = .ok (.bipush 7, 2) := by decide +kernel
theorem dX3_beginsBehind_126 : decode cX3_beginsBehind 126 = .ok (.iaload, 1) := by decide +kernel
theorem dX3_beginsBehind_127 : decode cX3_beginsBehind 127 = .ok (.aload_n 2, 1) := by decide +kernel
theorem dX3_beginsBehind_128 : decode cX3_beginsBehind 128 = .ok (.bipush 7, 2) := by decide +kernel
theorem dX3_beginsBehind_130 : decode cX3_beginsBehind 130 = .ok (.iaload, 1) := by decide +kernel
theorem dX3_beginsBehind_131 : decode cX3_beginsBehind 131 = .ok (.if_icmp .eq 7, 3) := by decide +kernel
theorem dX3_beginsBehind_134 : decode cX3_beginsBehind 134 = .ok (.iconst 1, 1) := by decide +kernel
theorem dX3_beginsBehind_135 : decode cX3_beginsBehind 135 = .ok (.goto 4, 3) := by decide +kernel
theorem dX3_beginsBehind_138 : decode cX3_beginsBehind 138 = .ok (.iconst 0, 1) := by decide +kernel
theorem dX3_beginsBehind_139 : decode cX3_beginsBehind 139 = .ok (.ireturn, 1) := by decide +kernel
def FX3_beginsBehind (G : GG) (M : DD) (a : Nat) (p0 : Option Nat) : Option (DD × Int32) :=
  dr G 3 p0 fun b1 =>
  dr G 13 ((M.2 a 0)) fun b2 =>
  chk (¬ (((0 : Int32)) < 0 ∨ G.2.2 b2 ≤ ((0 : Int32)).toNatClampNeg)) <|
  ltt (M.1 b2 ((0 : Int32)).toNatClampNeg) fun x3 =>
  bnd (if x3 = ((0 : Int32)) then (some ((1 : Int32))) else
  (chk (¬ (((18 : Int32)) < 0 ∨ G.2.2 b2 ≤ ((18 : Int32)).toNatClampNeg)) <|
  ltt (M.1 b2 ((18 : Int32)).toNatClampNeg) fun x6 =>
  dr G 13 ((M.2 b1 0)) fun b7 =>
  chk (¬ (((18 : Int32)) < 0 ∨ G.2.2 b7 ≤ ((18 : Int32)).toNatClampNeg)) <|
  ltt (M.1 b7 ((18 : Int32)).toNatClampNeg) fun x8 =>
  bnd (if x6 = x8 then (chk (¬ (((3 : Int32)) < 0 ∨ G.2.2 b2 ≤ ((3 : Int32)).toNatClampNeg)) <|
  ltt (M.1 b2 ((3 : Int32)).toNatClampNeg) fun x11 =>
  chk (¬ (((3 : Int32)) < 0 ∨ G.2.2 b7 ≤ ((3 : Int32)).toNatClampNeg)) <|
  ltt (M.1 b7 ((3 : Int32)).toNatClampNeg) fun x12 =>
  bnd (if x11 = x12 then (chk (¬ (((2 : Int32)) < 0 ∨ G.2.2 b2 ≤ ((2 : Int32)).toNatClampNeg)) <|
  ltt (M.1 b2 ((2 : Int32)).toNatClampNeg) fun x15 =>
  chk (¬ (((2 : Int32)) < 0 ∨ G.2.2 b7 ≤ ((2 : Int32)).toNatClampNeg)) <|
  ltt (M.1 b7 ((2 : Int32)).toNatClampNeg) fun x16 =>
  bnd (if x15 = x16 then (chk (¬ (((11 : Int32)) < 0 ∨ G.2.2 b2 ≤ ((11 : Int32)).toNatClampNeg)) <|
  ltt (M.1 b2 ((11 : Int32)).toNatClampNeg) fun x19 =>
  bnd (if x19 = ((0 : Int32)) then (some ((1 : Int32))) else
  (some ((0 : Int32)))) fun (y20 : Int32) =>
  chk (¬ (((11 : Int32)) < 0 ∨ G.2.2 b7 ≤ ((11 : Int32)).toNatClampNeg)) <|
  ltt (M.1 b7 ((11 : Int32)).toNatClampNeg) fun x21 =>
  bnd (if x21 = ((0 : Int32)) then (some ((1 : Int32))) else
  (some ((0 : Int32)))) fun (y22 : Int32) =>
  bnd (if y20 = y22 then (chk (¬ (((4 : Int32)) < 0 ∨ G.2.2 b2 ≤ ((4 : Int32)).toNatClampNeg)) <|
  ltt (M.1 b2 ((4 : Int32)).toNatClampNeg) fun x25 =>
  chk (¬ (((4 : Int32)) < 0 ∨ G.2.2 b7 ≤ ((4 : Int32)).toNatClampNeg)) <|
  ltt (M.1 b7 ((4 : Int32)).toNatClampNeg) fun x26 =>
  bnd (if x25 = x26 then (chk (¬ (((5 : Int32)) < 0 ∨ G.2.2 b2 ≤ ((5 : Int32)).toNatClampNeg)) <|
  ltt (M.1 b2 ((5 : Int32)).toNatClampNeg) fun x29 =>
  chk (¬ (((5 : Int32)) < 0 ∨ G.2.2 b7 ≤ ((5 : Int32)).toNatClampNeg)) <|
  ltt (M.1 b7 ((5 : Int32)).toNatClampNeg) fun x30 =>
  bnd (if x29 = x30 then (chk (¬ (((6 : Int32)) < 0 ∨ G.2.2 b2 ≤ ((6 : Int32)).toNatClampNeg)) <|
  ltt (M.1 b2 ((6 : Int32)).toNatClampNeg) fun x33 =>
  chk (¬ (((6 : Int32)) < 0 ∨ G.2.2 b7 ≤ ((6 : Int32)).toNatClampNeg)) <|
  ltt (M.1 b7 ((6 : Int32)).toNatClampNeg) fun x34 =>
  bnd (if x33 = x34 then (chk (¬ (((7 : Int32)) < 0 ∨ G.2.2 b2 ≤ ((7 : Int32)).toNatClampNeg)) <|
  ltt (M.1 b2 ((7 : Int32)).toNatClampNeg) fun x37 =>
  chk (¬ (((7 : Int32)) < 0 ∨ G.2.2 b7 ≤ ((7 : Int32)).toNatClampNeg)) <|
  ltt (M.1 b7 ((7 : Int32)).toNatClampNeg) fun x38 =>
  bnd (if x37 = x38 then (some ((0 : Int32))) else
  (some ((1 : Int32)))) fun (y39 : Int32) =>
  some (y39)) else
  (some ((1 : Int32)))) fun (y35 : Int32) =>
  some (y35)) else
  (some ((1 : Int32)))) fun (y31 : Int32) =>
  some (y31)) else
  (some ((1 : Int32)))) fun (y27 : Int32) =>
  some (y27)) else
  (some ((1 : Int32)))) fun (y23 : Int32) =>
  some (y23)) else
  (some ((1 : Int32)))) fun (y17 : Int32) =>
  some (y17)) else
  (some ((1 : Int32)))) fun (y13 : Int32) =>
  some (y13)) else
  (some ((1 : Int32)))) fun (y9 : Int32) =>
  some (y9))) fun (y4 : Int32) =>
  chk (y4 = 0 ∨ y4 = 1) <|
  some (M, y4)
set_option maxHeartbeats 4000000 in
set_option maxRecDepth 100000 in
theorem kX3_beginsBehind (l : Launch) (D : va_G) (ct : CT) (ad : Nat → Nat) (Z : Nat → Nat) (G : GG) (M : DD) (sz : Nat) (a : Nat) (p0 : Option Nat) (y : DD × Int32) (hc : a < G.1) (hk : G.2.1 a = 3) (hF : FX3_beginsBehind G M a p0 = some y) : Met l yX3_beginsBehind wsX3_beginsBehind ({ frames := 0, cells := 0, slots := 0, locals := 0 }) (va_Pc [.ref (ad a), va_re ad p0] (kB D ct ad Z G M sz)) (va_Qi (fun (q : Int32) (_ : Unit) => q = y.2) (fun _ t => kE D ct ad G (wA ad G sz) y.1 t) (wA ad G sz)) 0 0 (wA ad G sz) := by
  refine Met.ofW (cc := cX3_beginsBehind) (maxL := 3) (ret := (some .boolean)) (by decide) rfl ?_
  intro p e s m args below meth c s₁ B hml hv
  obtain ⟨rfl, hsz, hP, hK, hD0, hZ, hN⟩ := hv
  have hx := B.exec
  have hb := B.bytes
  have hr := B.returns
  have hts := atoms_spec (ws := wsX3_beginsBehind) B.pre
  have hown : s.vm.findClass RX3 = some m.cls := findClass_of_methodNamed B.named
  have hlocks := B.notSynchronized
  subst hsz
  have hD := wD_self (sz := s.heap.size) hD0
  have hA9 : ∀ q, s.heap.size ≤ q → wA ad G s.heap.size q := fun q h => Or.inr h
  generalize hAe : wA ad G s.heap.size = A at hD hA9 hZ ⊢
  have hS : va_S A s.heap s.heap [] := va_S.rf
  have hl := lv_entry ([.ref (ad a), va_re ad p0]) (n := 3) (by cases p0 <;> exact Nat.le_of_ble_eq_true rfl)
  rw [lg_entry_eq]
  generalize (lg_sl ([.ref (ad a), va_re ad p0]) ++ List.replicate (3 - (lg_sl ([.ref (ad a), va_re ad p0])).length) Slot.unset).toArray = ls at hl ⊢
  have hl : lv_has ls 3 [(0, .ref (ad a)), (1, va_re ad p0)] := by have e9 : lv_args 0 [.ref (ad a), va_re ad p0] = [(0, .ref (ad a)), (1, va_re ad p0)] := (by cases p0 <;> rfl); rw [e9] at hl; exact hl
  unfold FX3_beginsBehind at hF
  refine lv_aloadq_n hx hb dX3_beginsBehind_0 rfl (lv_at hl 1 rfl) ?_
  obtain ⟨b1, ho1, hc1, hk1, hF⟩ := dr_some hF
  refine W_st (st' := [.ref (ad b1)]) (by rw [va_some ho1]) ?_
  refine va_get (D := D) (ci := 3) (v := va_re ad (M.2 b1 0)) (C := RX3) (T := TX3) (N := 4) hx hb hts (by decide +kernel) hown hK hP b1 (wld_o ct ad G M hc1 hk1 (by decide)) rfl 0 (by decide) (hts (.fieldLink RX3 7 "VideoSuite$Header" "v" "[I") (by decide +kernel)) (fun _ h9 => h9) rfl dX3_beginsBehind_1 ?_
  refine lv_astoreq_n (lv' := [(2, va_re ad (M.2 b1 0)), (0, .ref (ad a)), (1, va_re ad p0)]) hx hb dX3_beginsBehind_4 rfl hl (by decide) (by generalize p0 = o9; cases o9 <;> rfl) (fun ls hl => ?_)
  refine lv_aload_n hx hb dX3_beginsBehind_5 rfl (lv_at hl 1 rfl) ?_
  refine va_get (D := D) (ci := 3) (v := va_re ad (M.2 a 0)) (C := RX3) (T := TX3) (N := 4) hx hb hts (by decide +kernel) hown hK hP a (wld_o ct ad G M hc hk (by decide)) rfl 0 (by decide) (hts (.fieldLink RX3 7 "VideoSuite$Header" "v" "[I") (by decide +kernel)) (fun _ h9 => h9) rfl dX3_beginsBehind_6 ?_
  refine lv_iconst (v := (0 : Int32)) hx hb dX3_beginsBehind_9 (by decide) ?_
  obtain ⟨b2, ho2, hc2, hk2, hF⟩ := dr_some hF
  refine W_st (st' := [.int (0 : Int32), .ref (ad b2)]) (by rw [va_some ho2]) ?_
  obtain ⟨hvc, hF⟩ := chk_some hF
  refine va_iald hx hb hK hP b2 1 (wld_i ct ad G M hc2 hk2) rfl hvc dX3_beginsBehind_10 ?_
  obtain ⟨x3, ex3, hF⟩ := ltt_some hF
  refine lv_topi (fun zx3 ezx3 => ?_)
  obtain rfl : x3 = zx3 := ex3.trans ezx3.symm
  obtain ⟨y4, hy4, hF⟩ := bnd_some hF
  have J4 : ∀ (H : Heap) (locs : List Loc) (ls : Array Slot), va_P D classes (wld ct ad G M) H → va_D A (wld ct ad G M) → va_S A s.heap H locs → lv_has ls 3 [(2, va_re ad (M.2 b1 0)), (0, .ref (ad a)), (1, va_re ad p0)] → W p l e (headSpec wsX3_beginsBehind ({ frames := 0, cells := 0, slots := 0, locals := 0 })).room s m ([.ref (ad a), va_re ad p0] : List Value).toArray below meth c H locs 0 0 (MQ below (va_Qi (fun (q : Int32) (_ : Unit) => q = y.2) (fun _ t => kE D ct ad G A y.1 t) A) ([.ref (ad a), va_re ad p0] : List Value).toArray s 0 0 A) (F0 m 139 ls [.int y4]) := by
    intro H locs ls hP hD hS hl
    obtain ⟨hz9, hF⟩ := chk_some hF
    obtain rfl := Option.some.inj hF
    exact W.zret (v := y4) (ty := .boolean) hx hb hr (nar_z hz9).1 (fun t ht hW => ⟨⟨_, (), rfl, rfl, ⟨by rw [ht]; exact hP, va_K.moved hW.alike hK, hD⟩⟩, hS.F ht⟩) hS.2.2 dX3_beginsBehind_139
  clear hF
  have hF := hy4
  clear hy4
  refine lv_if_eq (tgt := 134) hx hb dX3_beginsBehind_11 (by decide) (fun c5 => ?_) (fun c5 => ?_)
  · rw [if_pos c5] at hF
    refine lv_iconst (v := (1 : Int32)) hx hb dX3_beginsBehind_134 (by decide) ?_
    refine lv_goto (tgt := 139) hx hb dX3_beginsBehind_135 (by decide) ?_
    obtain rfl := Option.some.inj hF
    exact J4 _ _ _ hP hD hS (lv_sub hl [0, 1, 2] rfl)
  · rw [if_neg c5] at hF
    refine lv_aload_n hx hb dX3_beginsBehind_14 rfl (lv_at hl 1 rfl) ?_
    refine va_get (D := D) (ci := 3) (v := va_re ad (M.2 a 0)) (C := RX3) (T := TX3) (N := 4) hx hb hts (by decide +kernel) hown hK hP a (wld_o ct ad G M hc hk (by decide)) rfl 0 (by decide) (hts (.fieldLink RX3 7 "VideoSuite$Header" "v" "[I") (by decide +kernel)) (fun _ h9 => h9) rfl dX3_beginsBehind_15 ?_
    refine lv_bipush (v := (18 : Int32)) hx hb dX3_beginsBehind_18 (by decide) ?_
    refine W_st (st' := [.int (18 : Int32), .ref (ad b2)]) (by rw [va_some ho2]) ?_
    obtain ⟨hvc, hF⟩ := chk_some hF
    refine va_iald hx hb hK hP b2 1 (wld_i ct ad G M hc2 hk2) rfl hvc dX3_beginsBehind_20 ?_
    obtain ⟨x6, ex6, hF⟩ := ltt_some hF
    refine lv_topi (fun zx6 ezx6 => ?_)
    obtain rfl : x6 = zx6 := ex6.trans ezx6.symm
    refine lv_aloadq_n hx hb dX3_beginsBehind_21 rfl (lv_at hl 0 rfl) ?_
    refine lv_bipush (v := (18 : Int32)) hx hb dX3_beginsBehind_22 (by decide) ?_
    obtain ⟨b7, ho7, hc7, hk7, hF⟩ := dr_some hF
    refine W_st (st' := [.int (18 : Int32), .ref (ad b7), .int x6]) (by rw [va_some ho7]) ?_
    obtain ⟨hvc, hF⟩ := chk_some hF
    refine va_iald hx hb hK hP b7 1 (wld_i ct ad G M hc7 hk7) rfl hvc dX3_beginsBehind_24 ?_
    obtain ⟨x8, ex8, hF⟩ := ltt_some hF
    refine lv_topi (fun zx8 ezx8 => ?_)
    obtain rfl : x8 = zx8 := ex8.trans ezx8.symm
    obtain ⟨y9, hy9, hF⟩ := bnd_some hF
    have J9 : ∀ (H : Heap) (locs : List Loc) (ls : Array Slot), va_P D classes (wld ct ad G M) H → va_D A (wld ct ad G M) → va_S A s.heap H locs → lv_has ls 3 [(2, va_re ad (M.2 b1 0)), (0, .ref (ad a)), (1, va_re ad p0)] → W p l e (headSpec wsX3_beginsBehind ({ frames := 0, cells := 0, slots := 0, locals := 0 })).room s m ([.ref (ad a), va_re ad p0] : List Value).toArray below meth c H locs 0 0 (MQ below (va_Qi (fun (q : Int32) (_ : Unit) => q = y.2) (fun _ t => kE D ct ad G A y.1 t) A) ([.ref (ad a), va_re ad p0] : List Value).toArray s 0 0 A) (F0 m 139 ls [.int y9]) := by
      intro H locs ls hP hD hS hl
      obtain rfl := Option.some.inj hF
      exact J4 _ _ _ hP hD hS (lv_sub hl [0, 1, 2] rfl)
    clear hF
    have hF := hy9
    clear hy9
    refine lv_icmp_ne (tgt := 134) hx hb dX3_beginsBehind_25 (by decide) (fun c10 => ?_) (fun c10 => ?_)
    · rw [if_neg c10] at hF
      refine lv_iconst (v := (1 : Int32)) hx hb dX3_beginsBehind_134 (by decide) ?_
      refine lv_goto (tgt := 139) hx hb dX3_beginsBehind_135 (by decide) ?_
      obtain rfl := Option.some.inj hF
      exact J9 _ _ _ hP hD hS (lv_sub hl [0, 1, 2] rfl)
    · rw [if_pos c10] at hF
      refine lv_aload_n hx hb dX3_beginsBehind_28 rfl (lv_at hl 1 rfl) ?_
      refine va_get (D := D) (ci := 3) (v := va_re ad (M.2 a 0)) (C := RX3) (T := TX3) (N := 4) hx hb hts (by decide +kernel) hown hK hP a (wld_o ct ad G M hc hk (by decide)) rfl 0 (by decide) (hts (.fieldLink RX3 7 "VideoSuite$Header" "v" "[I") (by decide +kernel)) (fun _ h9 => h9) rfl dX3_beginsBehind_29 ?_
      refine lv_iconst (v := (3 : Int32)) hx hb dX3_beginsBehind_32 (by decide) ?_
      refine W_st (st' := [.int (3 : Int32), .ref (ad b2)]) (by rw [va_some ho2]) ?_
      obtain ⟨hvc, hF⟩ := chk_some hF
      refine va_iald hx hb hK hP b2 1 (wld_i ct ad G M hc2 hk2) rfl hvc dX3_beginsBehind_33 ?_
      obtain ⟨x11, ex11, hF⟩ := ltt_some hF
      refine lv_topi (fun zx11 ezx11 => ?_)
      obtain rfl : x11 = zx11 := ex11.trans ezx11.symm
      refine lv_aloadq_n hx hb dX3_beginsBehind_34 rfl (lv_at hl 0 rfl) ?_
      refine lv_iconst (v := (3 : Int32)) hx hb dX3_beginsBehind_35 (by decide) ?_
      refine W_st (st' := [.int (3 : Int32), .ref (ad b7), .int x11]) (by rw [va_some ho7]) ?_
      obtain ⟨hvc, hF⟩ := chk_some hF
      refine va_iald hx hb hK hP b7 1 (wld_i ct ad G M hc7 hk7) rfl hvc dX3_beginsBehind_36 ?_
      obtain ⟨x12, ex12, hF⟩ := ltt_some hF
      refine lv_topi (fun zx12 ezx12 => ?_)
      obtain rfl : x12 = zx12 := ex12.trans ezx12.symm
      obtain ⟨y13, hy13, hF⟩ := bnd_some hF
      have J13 : ∀ (H : Heap) (locs : List Loc) (ls : Array Slot), va_P D classes (wld ct ad G M) H → va_D A (wld ct ad G M) → va_S A s.heap H locs → lv_has ls 3 [(2, va_re ad (M.2 b1 0)), (0, .ref (ad a)), (1, va_re ad p0)] → W p l e (headSpec wsX3_beginsBehind ({ frames := 0, cells := 0, slots := 0, locals := 0 })).room s m ([.ref (ad a), va_re ad p0] : List Value).toArray below meth c H locs 0 0 (MQ below (va_Qi (fun (q : Int32) (_ : Unit) => q = y.2) (fun _ t => kE D ct ad G A y.1 t) A) ([.ref (ad a), va_re ad p0] : List Value).toArray s 0 0 A) (F0 m 139 ls [.int y13]) := by
        intro H locs ls hP hD hS hl
        obtain rfl := Option.some.inj hF
        exact J9 _ _ _ hP hD hS (lv_sub hl [0, 1, 2] rfl)
      clear hF
      have hF := hy13
      clear hy13
      refine lv_icmp_ne (tgt := 134) hx hb dX3_beginsBehind_37 (by decide) (fun c14 => ?_) (fun c14 => ?_)
      · rw [if_neg c14] at hF
        refine lv_iconst (v := (1 : Int32)) hx hb dX3_beginsBehind_134 (by decide) ?_
        refine lv_goto (tgt := 139) hx hb dX3_beginsBehind_135 (by decide) ?_
        obtain rfl := Option.some.inj hF
        exact J13 _ _ _ hP hD hS (lv_sub hl [0, 1, 2] rfl)
      · rw [if_pos c14] at hF
        refine lv_aload_n hx hb dX3_beginsBehind_40 rfl (lv_at hl 1 rfl) ?_
        refine va_get (D := D) (ci := 3) (v := va_re ad (M.2 a 0)) (C := RX3) (T := TX3) (N := 4) hx hb hts (by decide +kernel) hown hK hP a (wld_o ct ad G M hc hk (by decide)) rfl 0 (by decide) (hts (.fieldLink RX3 7 "VideoSuite$Header" "v" "[I") (by decide +kernel)) (fun _ h9 => h9) rfl dX3_beginsBehind_41 ?_
        refine lv_iconst (v := (2 : Int32)) hx hb dX3_beginsBehind_44 (by decide) ?_
        refine W_st (st' := [.int (2 : Int32), .ref (ad b2)]) (by rw [va_some ho2]) ?_
        obtain ⟨hvc, hF⟩ := chk_some hF
        refine va_iald hx hb hK hP b2 1 (wld_i ct ad G M hc2 hk2) rfl hvc dX3_beginsBehind_45 ?_
        obtain ⟨x15, ex15, hF⟩ := ltt_some hF
        refine lv_topi (fun zx15 ezx15 => ?_)
        obtain rfl : x15 = zx15 := ex15.trans ezx15.symm
        refine lv_aloadq_n hx hb dX3_beginsBehind_46 rfl (lv_at hl 0 rfl) ?_
        refine lv_iconst (v := (2 : Int32)) hx hb dX3_beginsBehind_47 (by decide) ?_
        refine W_st (st' := [.int (2 : Int32), .ref (ad b7), .int x15]) (by rw [va_some ho7]) ?_
        obtain ⟨hvc, hF⟩ := chk_some hF
        refine va_iald hx hb hK hP b7 1 (wld_i ct ad G M hc7 hk7) rfl hvc dX3_beginsBehind_48 ?_
        obtain ⟨x16, ex16, hF⟩ := ltt_some hF
        refine lv_topi (fun zx16 ezx16 => ?_)
        obtain rfl : x16 = zx16 := ex16.trans ezx16.symm
        obtain ⟨y17, hy17, hF⟩ := bnd_some hF
        have J17 : ∀ (H : Heap) (locs : List Loc) (ls : Array Slot), va_P D classes (wld ct ad G M) H → va_D A (wld ct ad G M) → va_S A s.heap H locs → lv_has ls 3 [(2, va_re ad (M.2 b1 0)), (0, .ref (ad a)), (1, va_re ad p0)] → W p l e (headSpec wsX3_beginsBehind ({ frames := 0, cells := 0, slots := 0, locals := 0 })).room s m ([.ref (ad a), va_re ad p0] : List Value).toArray below meth c H locs 0 0 (MQ below (va_Qi (fun (q : Int32) (_ : Unit) => q = y.2) (fun _ t => kE D ct ad G A y.1 t) A) ([.ref (ad a), va_re ad p0] : List Value).toArray s 0 0 A) (F0 m 139 ls [.int y17]) := by
          intro H locs ls hP hD hS hl
          obtain rfl := Option.some.inj hF
          exact J13 _ _ _ hP hD hS (lv_sub hl [0, 1, 2] rfl)
        clear hF
        have hF := hy17
        clear hy17
        refine lv_icmp_ne (tgt := 134) hx hb dX3_beginsBehind_49 (by decide) (fun c18 => ?_) (fun c18 => ?_)
        · rw [if_neg c18] at hF
          refine lv_iconst (v := (1 : Int32)) hx hb dX3_beginsBehind_134 (by decide) ?_
          refine lv_goto (tgt := 139) hx hb dX3_beginsBehind_135 (by decide) ?_
          obtain rfl := Option.some.inj hF
          exact J17 _ _ _ hP hD hS (lv_sub hl [0, 1, 2] rfl)
        · rw [if_pos c18] at hF
          refine lv_aload_n hx hb dX3_beginsBehind_52 rfl (lv_at hl 1 rfl) ?_
          refine va_get (D := D) (ci := 3) (v := va_re ad (M.2 a 0)) (C := RX3) (T := TX3) (N := 4) hx hb hts (by decide +kernel) hown hK hP a (wld_o ct ad G M hc hk (by decide)) rfl 0 (by decide) (hts (.fieldLink RX3 7 "VideoSuite$Header" "v" "[I") (by decide +kernel)) (fun _ h9 => h9) rfl dX3_beginsBehind_53 ?_
          refine lv_bipush (v := (11 : Int32)) hx hb dX3_beginsBehind_56 (by decide) ?_
          refine W_st (st' := [.int (11 : Int32), .ref (ad b2)]) (by rw [va_some ho2]) ?_
          obtain ⟨hvc, hF⟩ := chk_some hF
          refine va_iald hx hb hK hP b2 1 (wld_i ct ad G M hc2 hk2) rfl hvc dX3_beginsBehind_58 ?_
          obtain ⟨x19, ex19, hF⟩ := ltt_some hF
          refine lv_topi (fun zx19 ezx19 => ?_)
          obtain rfl : x19 = zx19 := ex19.trans ezx19.symm
          obtain ⟨y20, hy20, hF⟩ := bnd_some hF
          have J20 : ∀ (H : Heap) (locs : List Loc) (ls : Array Slot), va_P D classes (wld ct ad G M) H → va_D A (wld ct ad G M) → va_S A s.heap H locs → lv_has ls 3 [(2, va_re ad (M.2 b1 0)), (0, .ref (ad a)), (1, va_re ad p0)] → W p l e (headSpec wsX3_beginsBehind ({ frames := 0, cells := 0, slots := 0, locals := 0 })).room s m ([.ref (ad a), va_re ad p0] : List Value).toArray below meth c H locs 0 0 (MQ below (va_Qi (fun (q : Int32) (_ : Unit) => q = y.2) (fun _ t => kE D ct ad G A y.1 t) A) ([.ref (ad a), va_re ad p0] : List Value).toArray s 0 0 A) (F0 m 67 ls [.int y20]) := by
            intro H locs ls hP hD hS hl
            refine lv_aloadq_n hx hb dX3_beginsBehind_67 rfl (lv_at hl 0 rfl) ?_
            refine lv_bipush (v := (11 : Int32)) hx hb dX3_beginsBehind_68 (by decide) ?_
            refine W_st (st' := [.int (11 : Int32), .ref (ad b7), .int y20]) (by rw [va_some ho7]) ?_
            obtain ⟨hvc, hF⟩ := chk_some hF
            refine va_iald hx hb hK hP b7 1 (wld_i ct ad G M hc7 hk7) rfl hvc dX3_beginsBehind_70 ?_
            obtain ⟨x21, ex21, hF⟩ := ltt_some hF
            refine lv_topi (fun zx21 ezx21 => ?_)
            obtain rfl : x21 = zx21 := ex21.trans ezx21.symm
            obtain ⟨y22, hy22, hF⟩ := bnd_some hF
            have J22 : ∀ (H : Heap) (locs : List Loc) (ls : Array Slot), va_P D classes (wld ct ad G M) H → va_D A (wld ct ad G M) → va_S A s.heap H locs → lv_has ls 3 [(2, va_re ad (M.2 b1 0)), (0, .ref (ad a)), (1, va_re ad p0)] → W p l e (headSpec wsX3_beginsBehind ({ frames := 0, cells := 0, slots := 0, locals := 0 })).room s m ([.ref (ad a), va_re ad p0] : List Value).toArray below meth c H locs 0 0 (MQ below (va_Qi (fun (q : Int32) (_ : Unit) => q = y.2) (fun _ t => kE D ct ad G A y.1 t) A) ([.ref (ad a), va_re ad p0] : List Value).toArray s 0 0 A) (F0 m 79 ls [.int y22, .int y20]) := by
              intro H locs ls hP hD hS hl
              obtain ⟨y23, hy23, hF⟩ := bnd_some hF
              have J23 : ∀ (H : Heap) (locs : List Loc) (ls : Array Slot), va_P D classes (wld ct ad G M) H → va_D A (wld ct ad G M) → va_S A s.heap H locs → lv_has ls 3 [(2, va_re ad (M.2 b1 0)), (0, .ref (ad a)), (1, va_re ad p0)] → W p l e (headSpec wsX3_beginsBehind ({ frames := 0, cells := 0, slots := 0, locals := 0 })).room s m ([.ref (ad a), va_re ad p0] : List Value).toArray below meth c H locs 0 0 (MQ below (va_Qi (fun (q : Int32) (_ : Unit) => q = y.2) (fun _ t => kE D ct ad G A y.1 t) A) ([.ref (ad a), va_re ad p0] : List Value).toArray s 0 0 A) (F0 m 139 ls [.int y23]) := by
                intro H locs ls hP hD hS hl
                obtain rfl := Option.some.inj hF
                exact J17 _ _ _ hP hD hS (lv_sub hl [0, 1, 2] rfl)
              clear hF
              have hF := hy23
              clear hy23
              refine lv_icmp_ne (tgt := 134) hx hb dX3_beginsBehind_79 (by decide) (fun c24 => ?_) (fun c24 => ?_)
              · rw [if_neg c24] at hF
                refine lv_iconst (v := (1 : Int32)) hx hb dX3_beginsBehind_134 (by decide) ?_
                refine lv_goto (tgt := 139) hx hb dX3_beginsBehind_135 (by decide) ?_
                obtain rfl := Option.some.inj hF
                exact J23 _ _ _ hP hD hS (lv_sub hl [0, 1, 2] rfl)
              · rw [if_pos c24] at hF
                refine lv_aload_n hx hb dX3_beginsBehind_82 rfl (lv_at hl 1 rfl) ?_
                refine va_get (D := D) (ci := 3) (v := va_re ad (M.2 a 0)) (C := RX3) (T := TX3) (N := 4) hx hb hts (by decide +kernel) hown hK hP a (wld_o ct ad G M hc hk (by decide)) rfl 0 (by decide) (hts (.fieldLink RX3 7 "VideoSuite$Header" "v" "[I") (by decide +kernel)) (fun _ h9 => h9) rfl dX3_beginsBehind_83 ?_
                refine lv_iconst (v := (4 : Int32)) hx hb dX3_beginsBehind_86 (by decide) ?_
                refine W_st (st' := [.int (4 : Int32), .ref (ad b2)]) (by rw [va_some ho2]) ?_
                obtain ⟨hvc, hF⟩ := chk_some hF
                refine va_iald hx hb hK hP b2 1 (wld_i ct ad G M hc2 hk2) rfl hvc dX3_beginsBehind_87 ?_
                obtain ⟨x25, ex25, hF⟩ := ltt_some hF
                refine lv_topi (fun zx25 ezx25 => ?_)
                obtain rfl : x25 = zx25 := ex25.trans ezx25.symm
                refine lv_aloadq_n hx hb dX3_beginsBehind_88 rfl (lv_at hl 0 rfl) ?_
                refine lv_iconst (v := (4 : Int32)) hx hb dX3_beginsBehind_89 (by decide) ?_
                refine W_st (st' := [.int (4 : Int32), .ref (ad b7), .int x25]) (by rw [va_some ho7]) ?_
                obtain ⟨hvc, hF⟩ := chk_some hF
                refine va_iald hx hb hK hP b7 1 (wld_i ct ad G M hc7 hk7) rfl hvc dX3_beginsBehind_90 ?_
                obtain ⟨x26, ex26, hF⟩ := ltt_some hF
                refine lv_topi (fun zx26 ezx26 => ?_)
                obtain rfl : x26 = zx26 := ex26.trans ezx26.symm
                obtain ⟨y27, hy27, hF⟩ := bnd_some hF
                have J27 : ∀ (H : Heap) (locs : List Loc) (ls : Array Slot), va_P D classes (wld ct ad G M) H → va_D A (wld ct ad G M) → va_S A s.heap H locs → lv_has ls 3 [(2, va_re ad (M.2 b1 0)), (0, .ref (ad a)), (1, va_re ad p0)] → W p l e (headSpec wsX3_beginsBehind ({ frames := 0, cells := 0, slots := 0, locals := 0 })).room s m ([.ref (ad a), va_re ad p0] : List Value).toArray below meth c H locs 0 0 (MQ below (va_Qi (fun (q : Int32) (_ : Unit) => q = y.2) (fun _ t => kE D ct ad G A y.1 t) A) ([.ref (ad a), va_re ad p0] : List Value).toArray s 0 0 A) (F0 m 139 ls [.int y27]) := by
                  intro H locs ls hP hD hS hl
                  obtain rfl := Option.some.inj hF
                  exact J23 _ _ _ hP hD hS (lv_sub hl [0, 1, 2] rfl)
                clear hF
                have hF := hy27
                clear hy27
                refine lv_icmp_ne (tgt := 134) hx hb dX3_beginsBehind_91 (by decide) (fun c28 => ?_) (fun c28 => ?_)
                · rw [if_neg c28] at hF
                  refine lv_iconst (v := (1 : Int32)) hx hb dX3_beginsBehind_134 (by decide) ?_
                  refine lv_goto (tgt := 139) hx hb dX3_beginsBehind_135 (by decide) ?_
                  obtain rfl := Option.some.inj hF
                  exact J27 _ _ _ hP hD hS (lv_sub hl [0, 1, 2] rfl)
                · rw [if_pos c28] at hF
                  refine lv_aload_n hx hb dX3_beginsBehind_94 rfl (lv_at hl 1 rfl) ?_
                  refine va_get (D := D) (ci := 3) (v := va_re ad (M.2 a 0)) (C := RX3) (T := TX3) (N := 4) hx hb hts (by decide +kernel) hown hK hP a (wld_o ct ad G M hc hk (by decide)) rfl 0 (by decide) (hts (.fieldLink RX3 7 "VideoSuite$Header" "v" "[I") (by decide +kernel)) (fun _ h9 => h9) rfl dX3_beginsBehind_95 ?_
                  refine lv_iconst (v := (5 : Int32)) hx hb dX3_beginsBehind_98 (by decide) ?_
                  refine W_st (st' := [.int (5 : Int32), .ref (ad b2)]) (by rw [va_some ho2]) ?_
                  obtain ⟨hvc, hF⟩ := chk_some hF
                  refine va_iald hx hb hK hP b2 1 (wld_i ct ad G M hc2 hk2) rfl hvc dX3_beginsBehind_99 ?_
                  obtain ⟨x29, ex29, hF⟩ := ltt_some hF
                  refine lv_topi (fun zx29 ezx29 => ?_)
                  obtain rfl : x29 = zx29 := ex29.trans ezx29.symm
                  refine lv_aloadq_n hx hb dX3_beginsBehind_100 rfl (lv_at hl 0 rfl) ?_
                  refine lv_iconst (v := (5 : Int32)) hx hb dX3_beginsBehind_101 (by decide) ?_
                  refine W_st (st' := [.int (5 : Int32), .ref (ad b7), .int x29]) (by rw [va_some ho7]) ?_
                  obtain ⟨hvc, hF⟩ := chk_some hF
                  refine va_iald hx hb hK hP b7 1 (wld_i ct ad G M hc7 hk7) rfl hvc dX3_beginsBehind_102 ?_
                  obtain ⟨x30, ex30, hF⟩ := ltt_some hF
                  refine lv_topi (fun zx30 ezx30 => ?_)
                  obtain rfl : x30 = zx30 := ex30.trans ezx30.symm
                  obtain ⟨y31, hy31, hF⟩ := bnd_some hF
                  have J31 : ∀ (H : Heap) (locs : List Loc) (ls : Array Slot), va_P D classes (wld ct ad G M) H → va_D A (wld ct ad G M) → va_S A s.heap H locs → lv_has ls 3 [(2, va_re ad (M.2 b1 0)), (0, .ref (ad a)), (1, va_re ad p0)] → W p l e (headSpec wsX3_beginsBehind ({ frames := 0, cells := 0, slots := 0, locals := 0 })).room s m ([.ref (ad a), va_re ad p0] : List Value).toArray below meth c H locs 0 0 (MQ below (va_Qi (fun (q : Int32) (_ : Unit) => q = y.2) (fun _ t => kE D ct ad G A y.1 t) A) ([.ref (ad a), va_re ad p0] : List Value).toArray s 0 0 A) (F0 m 139 ls [.int y31]) := by
                    intro H locs ls hP hD hS hl
                    obtain rfl := Option.some.inj hF
                    exact J27 _ _ _ hP hD hS (lv_sub hl [0, 1, 2] rfl)
                  clear hF
                  have hF := hy31
                  clear hy31
                  refine lv_icmp_ne (tgt := 134) hx hb dX3_beginsBehind_103 (by decide) (fun c32 => ?_) (fun c32 => ?_)
                  · rw [if_neg c32] at hF
                    refine lv_iconst (v := (1 : Int32)) hx hb dX3_beginsBehind_134 (by decide) ?_
                    refine lv_goto (tgt := 139) hx hb dX3_beginsBehind_135 (by decide) ?_
                    obtain rfl := Option.some.inj hF
                    exact J31 _ _ _ hP hD hS (lv_sub hl [0, 1, 2] rfl)
                  · rw [if_pos c32] at hF
                    refine lv_aload_n hx hb dX3_beginsBehind_106 rfl (lv_at hl 1 rfl) ?_
                    refine va_get (D := D) (ci := 3) (v := va_re ad (M.2 a 0)) (C := RX3) (T := TX3) (N := 4) hx hb hts (by decide +kernel) hown hK hP a (wld_o ct ad G M hc hk (by decide)) rfl 0 (by decide) (hts (.fieldLink RX3 7 "VideoSuite$Header" "v" "[I") (by decide +kernel)) (fun _ h9 => h9) rfl dX3_beginsBehind_107 ?_
                    refine lv_bipush (v := (6 : Int32)) hx hb dX3_beginsBehind_110 (by decide) ?_
                    refine W_st (st' := [.int (6 : Int32), .ref (ad b2)]) (by rw [va_some ho2]) ?_
                    obtain ⟨hvc, hF⟩ := chk_some hF
                    refine va_iald hx hb hK hP b2 1 (wld_i ct ad G M hc2 hk2) rfl hvc dX3_beginsBehind_112 ?_
                    obtain ⟨x33, ex33, hF⟩ := ltt_some hF
                    refine lv_topi (fun zx33 ezx33 => ?_)
                    obtain rfl : x33 = zx33 := ex33.trans ezx33.symm
                    refine lv_aloadq_n hx hb dX3_beginsBehind_113 rfl (lv_at hl 0 rfl) ?_
                    refine lv_bipush (v := (6 : Int32)) hx hb dX3_beginsBehind_114 (by decide) ?_
                    refine W_st (st' := [.int (6 : Int32), .ref (ad b7), .int x33]) (by rw [va_some ho7]) ?_
                    obtain ⟨hvc, hF⟩ := chk_some hF
                    refine va_iald hx hb hK hP b7 1 (wld_i ct ad G M hc7 hk7) rfl hvc dX3_beginsBehind_116 ?_
                    obtain ⟨x34, ex34, hF⟩ := ltt_some hF
                    refine lv_topi (fun zx34 ezx34 => ?_)
                    obtain rfl : x34 = zx34 := ex34.trans ezx34.symm
                    obtain ⟨y35, hy35, hF⟩ := bnd_some hF
                    have J35 : ∀ (H : Heap) (locs : List Loc) (ls : Array Slot), va_P D classes (wld ct ad G M) H → va_D A (wld ct ad G M) → va_S A s.heap H locs → lv_has ls 3 [(2, va_re ad (M.2 b1 0)), (0, .ref (ad a)), (1, va_re ad p0)] → W p l e (headSpec wsX3_beginsBehind ({ frames := 0, cells := 0, slots := 0, locals := 0 })).room s m ([.ref (ad a), va_re ad p0] : List Value).toArray below meth c H locs 0 0 (MQ below (va_Qi (fun (q : Int32) (_ : Unit) => q = y.2) (fun _ t => kE D ct ad G A y.1 t) A) ([.ref (ad a), va_re ad p0] : List Value).toArray s 0 0 A) (F0 m 139 ls [.int y35]) := by
                      intro H locs ls hP hD hS hl
                      obtain rfl := Option.some.inj hF
                      exact J31 _ _ _ hP hD hS (lv_sub hl [0, 1, 2] rfl)
                    clear hF
                    have hF := hy35
                    clear hy35
                    refine lv_icmp_ne (tgt := 134) hx hb dX3_beginsBehind_117 (by decide) (fun c36 => ?_) (fun c36 => ?_)
                    · rw [if_neg c36] at hF
                      refine lv_iconst (v := (1 : Int32)) hx hb dX3_beginsBehind_134 (by decide) ?_
                      refine lv_goto (tgt := 139) hx hb dX3_beginsBehind_135 (by decide) ?_
                      obtain rfl := Option.some.inj hF
                      exact J35 _ _ _ hP hD hS (lv_sub hl [0, 1, 2] rfl)
                    · rw [if_pos c36] at hF
                      refine lv_aload_n hx hb dX3_beginsBehind_120 rfl (lv_at hl 1 rfl) ?_
                      refine va_get (D := D) (ci := 3) (v := va_re ad (M.2 a 0)) (C := RX3) (T := TX3) (N := 4) hx hb hts (by decide +kernel) hown hK hP a (wld_o ct ad G M hc hk (by decide)) rfl 0 (by decide) (hts (.fieldLink RX3 7 "VideoSuite$Header" "v" "[I") (by decide +kernel)) (fun _ h9 => h9) rfl dX3_beginsBehind_121 ?_
                      refine lv_bipush (v := (7 : Int32)) hx hb dX3_beginsBehind_124 (by decide) ?_
                      refine W_st (st' := [.int (7 : Int32), .ref (ad b2)]) (by rw [va_some ho2]) ?_
                      obtain ⟨hvc, hF⟩ := chk_some hF
                      refine va_iald hx hb hK hP b2 1 (wld_i ct ad G M hc2 hk2) rfl hvc dX3_beginsBehind_126 ?_
                      obtain ⟨x37, ex37, hF⟩ := ltt_some hF
                      refine lv_topi (fun zx37 ezx37 => ?_)
                      obtain rfl : x37 = zx37 := ex37.trans ezx37.symm
                      refine lv_aloadq_n hx hb dX3_beginsBehind_127 rfl (lv_at hl 0 rfl) ?_
                      refine lv_bipush (v := (7 : Int32)) hx hb dX3_beginsBehind_128 (by decide) ?_
                      refine W_st (st' := [.int (7 : Int32), .ref (ad b7), .int x37]) (by rw [va_some ho7]) ?_
                      obtain ⟨hvc, hF⟩ := chk_some hF
                      refine va_iald hx hb hK hP b7 1 (wld_i ct ad G M hc7 hk7) rfl hvc dX3_beginsBehind_130 ?_
                      obtain ⟨x38, ex38, hF⟩ := ltt_some hF
                      refine lv_topi (fun zx38 ezx38 => ?_)
                      obtain rfl : x38 = zx38 := ex38.trans ezx38.symm
                      obtain ⟨y39, hy39, hF⟩ := bnd_some hF
                      have J39 : ∀ (H : Heap) (locs : List Loc) (ls : Array Slot), va_P D classes (wld ct ad G M) H → va_D A (wld ct ad G M) → va_S A s.heap H locs → lv_has ls 3 [(2, va_re ad (M.2 b1 0)), (0, .ref (ad a)), (1, va_re ad p0)] → W p l e (headSpec wsX3_beginsBehind ({ frames := 0, cells := 0, slots := 0, locals := 0 })).room s m ([.ref (ad a), va_re ad p0] : List Value).toArray below meth c H locs 0 0 (MQ below (va_Qi (fun (q : Int32) (_ : Unit) => q = y.2) (fun _ t => kE D ct ad G A y.1 t) A) ([.ref (ad a), va_re ad p0] : List Value).toArray s 0 0 A) (F0 m 139 ls [.int y39]) := by
                        intro H locs ls hP hD hS hl
                        obtain rfl := Option.some.inj hF
                        exact J35 _ _ _ hP hD hS (lv_sub hl [0, 1, 2] rfl)
                      clear hF
                      have hF := hy39
                      clear hy39
                      refine lv_icmp_eq (tgt := 138) hx hb dX3_beginsBehind_131 (by decide) (fun c40 => ?_) (fun c40 => ?_)
                      · rw [if_pos c40] at hF
                        refine lv_iconst (v := (0 : Int32)) hx hb dX3_beginsBehind_138 (by decide) ?_
                        obtain rfl := Option.some.inj hF
                        exact J39 _ _ _ hP hD hS (lv_sub hl [0, 1, 2] rfl)
                      · rw [if_neg c40] at hF
                        refine lv_iconst (v := (1 : Int32)) hx hb dX3_beginsBehind_134 (by decide) ?_
                        refine lv_goto (tgt := 139) hx hb dX3_beginsBehind_135 (by decide) ?_
                        obtain rfl := Option.some.inj hF
                        exact J39 _ _ _ hP hD hS (lv_sub hl [0, 1, 2] rfl)
            clear hF
            have hF := hy22
            clear hy22
            refine lv_if_ne (tgt := 78) hx hb dX3_beginsBehind_71 (by decide) (fun c41 => ?_) (fun c41 => ?_)
            · rw [if_neg c41] at hF
              refine lv_iconst (v := (0 : Int32)) hx hb dX3_beginsBehind_78 (by decide) ?_
              obtain rfl := Option.some.inj hF
              exact J22 _ _ _ hP hD hS (lv_sub hl [0, 1, 2] rfl)
            · rw [if_pos c41] at hF
              refine lv_iconst (v := (1 : Int32)) hx hb dX3_beginsBehind_74 (by decide) ?_
              refine lv_goto (tgt := 79) hx hb dX3_beginsBehind_75 (by decide) ?_
              obtain rfl := Option.some.inj hF
              exact J22 _ _ _ hP hD hS (lv_sub hl [0, 1, 2] rfl)
          clear hF
          have hF := hy20
          clear hy20
          refine lv_if_ne (tgt := 66) hx hb dX3_beginsBehind_59 (by decide) (fun c42 => ?_) (fun c42 => ?_)
          · rw [if_neg c42] at hF
            refine lv_iconst (v := (0 : Int32)) hx hb dX3_beginsBehind_66 (by decide) ?_
            obtain rfl := Option.some.inj hF
            exact J20 _ _ _ hP hD hS (lv_sub hl [0, 1, 2] rfl)
          · rw [if_pos c42] at hF
            refine lv_iconst (v := (1 : Int32)) hx hb dX3_beginsBehind_62 (by decide) ?_
            refine lv_goto (tgt := 67) hx hb dX3_beginsBehind_63 (by decide) ?_
            obtain rfl := Option.some.inj hF
            exact J20 _ _ _ hP hD hS (lv_sub hl [0, 1, 2] rfl)
theorem dX3_clearWeights_0 : decode cX3_clearWeights 0 = .ok (.iconst 0, 1) := by decide +kernel
theorem dX3_clearWeights_1 : decode cX3_clearWeights 1 = .ok (.istore_n 1, 1) := by decide +kernel
theorem dX3_clearWeights_2 : decode cX3_clearWeights 2 = .ok (.iload_n 1, 1) := by decide +kernel
theorem dX3_clearWeights_3 : decode cX3_clearWeights 3 = .ok (.bipush 48, 2) := by decide +kernel
theorem dX3_clearWeights_5 : decode cX3_clearWeights 5 = .ok (.if_icmp .ge 53, 3) := by decide +kernel
theorem dX3_clearWeights_8 : decode cX3_clearWeights 8 = .ok (.aload_n 0, 1) := by decide +kernel
theorem dX3_clearWeights_9 : decode cX3_clearWeights 9 = .ok (.getfield 19, 3) := by decide +kernel
theorem dX3_clearWeights_12 : decode cX3_clearWeights 12 = .ok (.iconst 2, 1) := by decide +kernel
theorem dX3_clearWeights_13 : decode cX3_clearWeights 13 = .ok (.iload_n 1, 1) := by decide +kernel
theorem dX3_clearWeights_14 : decode cX3_clearWeights 14 = .ok (.imul, 1) := by decide +kernel
theorem dX3_clearWeights_15 : decode cX3_clearWeights 15 = .ok (.iconst 1, 1) := by decide +kernel
theorem dX3_clearWeights_16 : decode cX3_clearWeights 16 = .ok (.iload_n 1, 1) := by decide +kernel
theorem dX3_clearWeights_17 : decode cX3_clearWeights 17 = .ok (.iconst 3, 1) := by decide +kernel
theorem dX3_clearWeights_18 : decode cX3_clearWeights 18 = .ok (.irem, 1) := by decide +kernel
theorem dX3_clearWeights_19 : decode cX3_clearWeights 19 = .ok (.ifCond .ne 13, 3) := by decide +kernel
theorem dX3_clearWeights_22 : decode cX3_clearWeights 22 = .ok (.aload_n 0, 1) := by decide +kernel
theorem dX3_clearWeights_23 : decode cX3_clearWeights 23 = .ok (.getfield 7, 3) := by decide +kernel
theorem dX3_clearWeights_26 : decode cX3_clearWeights 26 = .ok (.bipush 22, 2) := by decide +kernel
theorem dX3_clearWeights_28 : decode cX3_clearWeights 28 = .ok (.iaload, 1) := by decide +kernel
theorem dX3_clearWeights_29 : decode cX3_clearWeights 29 = .ok (.goto 10, 3) := by decide +kernel
theorem dX3_clearWeights_32 : decode cX3_clearWeights 32 = .ok (.aload_n 0, 1) := by decide +kernel
theorem dX3_clearWeights_33 : decode cX3_clearWeights 33 = .ok (.getfield 7, 3) := by decide +kernel
theorem dX3_clearWeights_36 : decode cX3_clearWeights 36 = .ok (.bipush 23, 2) := by decide +kernel
theorem dX3_clearWeights_38 : decode cX3_clearWeights 38 = .ok (.iaload, 1) := by decide +kernel
theorem dX3_clearWeights_39 : decode cX3_clearWeights 39 = .ok (.ishl, 1) := by decide +kernel
theorem dX3_clearWeights_40 : decode cX3_clearWeights 40 = .ok (.iastore, 1) := by decide +kernel
theorem dX3_clearWeights_41 : decode cX3_clearWeights 41 = .ok (.aload_n 0, 1) := by decide +kernel
theorem dX3_clearWeights_42 : decode cX3_clearWeights 42 = .ok (.getfield 19, 3) := by decide +kernel
theorem dX3_clearWeights_45 : decode cX3_clearWeights 45 = .ok (.iconst 2, 1) := by decide +kernel
theorem dX3_clearWeights_46 : decode cX3_clearWeights 46 = .ok (.iload_n 1, 1) := by decide +kernel
theorem dX3_clearWeights_47 : decode cX3_clearWeights 47 = .ok (.imul, 1) := by decide +kernel
theorem dX3_clearWeights_48 : decode cX3_clearWeights 48 = .ok (.iconst 1, 1) := by decide +kernel
theorem dX3_clearWeights_49 : decode cX3_clearWeights 49 = .ok (.iadd, 1) := by decide +kernel
theorem dX3_clearWeights_50 : decode cX3_clearWeights 50 = .ok (.iconst 0, 1) := by decide +kernel
theorem dX3_clearWeights_51 : decode cX3_clearWeights 51 = .ok (.iastore, 1) := by decide +kernel
theorem dX3_clearWeights_52 : decode cX3_clearWeights 52 = .ok (.iinc 1 1, 3) := by decide +kernel
theorem dX3_clearWeights_55 : decode cX3_clearWeights 55 = .ok (.goto (-53), 3) := by decide +kernel
theorem dX3_clearWeights_58 : decode cX3_clearWeights 58 = .ok (.return_, 1) := by decide +kernel
def FX3_clearWeights (G : GG) (M : DD) (a : Nat)  : Option (DD) :=
  bnd (itr (fun (s2 : Int32 × DD) => ((if ((48 : Int32)) ≤ s2.1 then (some (.inr (s2.1, s2.2))) else
  (ltt ((((2 : Int32)) * s2.1)) fun x6 =>
  ltt (s2.1 - s2.1 / ((3 : Int32)) * ((3 : Int32))) fun x7 =>
  bnd (if x7 = ((0 : Int32)) then (dr G 13 ((s2.2.2 a 0)) fun b20 =>
  chk (¬ (((22 : Int32)) < 0 ∨ G.2.2 b20 ≤ ((22 : Int32)).toNatClampNeg)) <|
  ltt (s2.2.1 b20 ((22 : Int32)).toNatClampNeg) fun x21 =>
  some (x21)) else
  (dr G 13 ((s2.2.2 a 0)) fun b18 =>
  chk (¬ (((23 : Int32)) < 0 ∨ G.2.2 b18 ≤ ((23 : Int32)).toNatClampNeg)) <|
  ltt (s2.2.1 b18 ((23 : Int32)).toNatClampNeg) fun x19 =>
  some (x19))) fun (y8 : Int32) =>
  ltt ((((1 : Int32)) <<< (y8 &&& 31))) fun x9 =>
  dr G 13 ((s2.2.2 a 3)) fun b10 =>
  chk (¬ (x6 < 0 ∨ G.2.2 b10 ≤ x6.toNatClampNeg)) <|
  ltt (uI s2.2 b10 x6.toNatClampNeg x9) fun M11 =>
  ltt ((((2 : Int32)) * s2.1)) fun x12 =>
  ltt ((x12 + ((1 : Int32)))) fun x13 =>
  dr G 13 ((M11.2 a 3)) fun b14 =>
  chk (¬ (x13 < 0 ∨ G.2.2 b14 ≤ x13.toNatClampNeg)) <|
  ltt (uI M11 b14 x13.toNatClampNeg ((0 : Int32))) fun M15 =>
  ltt (s2.1 + (1 : Int32)) fun x16 =>
  some (.inl (x16, M15)))) : Option ((Int32 × DD) ⊕ (Int32 × DD)))) 1000000 ((0 : Int32), M)) fun (y1 : Int32 × DD) =>
  some y1.2
set_option maxHeartbeats 4000000 in
set_option maxRecDepth 100000 in
theorem kX3_clearWeights (l : Launch) (D : va_G) (ct : CT) (ad : Nat → Nat) (Z : Nat → Nat) (G : GG) (M : DD) (sz : Nat) (a : Nat)  (y : DD) (hc : a < G.1) (hk : G.2.1 a = 3) (hF : FX3_clearWeights G M a  = some y) : Met l yX3_clearWeights wsX3_clearWeights ({ frames := 0, cells := 0, slots := 0, locals := 0 }) (va_Pc [.ref (ad a)] (kB D ct ad Z G M sz)) (va_Qv (fun (_ : Unit) => True) (fun _ t => kE D ct ad G (wA ad G sz) y t) (wA ad G sz)) 0 0 (wA ad G sz) := by
  refine Met.ofW (cc := cX3_clearWeights) (maxL := 2) (ret := none) (by decide) rfl ?_
  intro p e s m args below meth c s₁ B hml hv
  obtain ⟨rfl, hsz, hP, hK, hD0, hZ, hN⟩ := hv
  have hx := B.exec
  have hb := B.bytes
  have hr := B.returns
  have hts := atoms_spec (ws := wsX3_clearWeights) B.pre
  have hown : s.vm.findClass RX3 = some m.cls := findClass_of_methodNamed B.named
  have hlocks := B.notSynchronized
  subst hsz
  have hD := wD_self (sz := s.heap.size) hD0
  have hA9 : ∀ q, s.heap.size ≤ q → wA ad G s.heap.size q := fun q h => Or.inr h
  generalize hAe : wA ad G s.heap.size = A at hD hA9 hZ ⊢
  have hS : va_S A s.heap s.heap [] := va_S.rf
  have hl := lv_entry ([.ref (ad a)]) (n := 2) (Nat.le_of_ble_eq_true rfl)
  rw [lg_entry_eq]
  generalize (lg_sl ([.ref (ad a)]) ++ List.replicate (2 - (lg_sl ([.ref (ad a)])).length) Slot.unset).toArray = ls at hl ⊢
  have hl : lv_has ls 2 [(0, .ref (ad a))] := hl
  unfold FX3_clearWeights at hF
  refine lv_iconst (v := (0 : Int32)) hx hb dX3_clearWeights_0 (by decide) ?_
  refine lv_istore_n (lv' := [(1, .int (0 : Int32)), (0, .ref (ad a))]) hx hb dX3_clearWeights_1 rfl hl (by decide) rfl (fun ls hl => ?_)
  obtain ⟨y1, hy1, hF⟩ := bnd_some hF
  have K1 : ∀ (H : Heap) (locs : List Loc) (ls : Array Slot), va_P D classes (wld ct ad G y1.2) H → va_D A (wld ct ad G y1.2) → va_S A s.heap H locs → lv_has ls 2 [(1, .int y1.1), (0, .ref (ad a))] → W p l e (headSpec wsX3_clearWeights ({ frames := 0, cells := 0, slots := 0, locals := 0 })).room s m ([.ref (ad a)] : List Value).toArray below meth c H locs 0 0 (MQ below (va_Qv (fun (_ : Unit) => True) (fun _ t => kE D ct ad G A y t) A) ([.ref (ad a)] : List Value).toArray s 0 0 A) (F0 m 58 ls []) := by
    intro H locs ls hP hD hS hl
    obtain rfl := Option.some.inj hF
    exact W.vret hx hb hr (fun t ht hW => ⟨⟨(), rfl, trivial, ⟨by rw [ht]; exact hP, va_K.moved hW.alike hK, hD⟩⟩, hS.F ht⟩) hS.2.2 dX3_clearWeights_58
  clear hF
  refine itr_rule (fun (s2 : Int32 × DD) => ∀ (H : Heap) (locs : List Loc) (ls : Array Slot), va_P D classes (wld ct ad G s2.2) H → va_D A (wld ct ad G s2.2) → va_S A s.heap H locs → lv_has ls 2 [(1, .int s2.1), (0, .ref (ad a))] → W p l e (headSpec wsX3_clearWeights ({ frames := 0, cells := 0, slots := 0, locals := 0 })).room s m ([.ref (ad a)] : List Value).toArray below meth c H locs 0 0 (MQ below (va_Qv (fun (_ : Unit) => True) (fun _ t => kE D ct ad G A y t) A) ([.ref (ad a)] : List Value).toArray s 0 0 A) (F0 m 2 ls [])) ?_ _ _ hy1 _ _ _ hP hD hS (lv_sub hl [0, 1] rfl)
  rintro s2 ⟨z4, hF, hwz4⟩ H locs ls hP hD hS hl
  try dsimp only at hF
  refine lv_iload_n hx hb dX3_clearWeights_2 rfl (lv_at hl 0 rfl) ?_
  refine lv_bipush (v := (48 : Int32)) hx hb dX3_clearWeights_3 (by decide) ?_
  refine lv_icmp_ge (tgt := 58) hx hb dX3_clearWeights_5 (by decide) (fun c5 => ?_) (fun c5 => ?_)
  · rw [if_pos c5] at hF
    obtain rfl := Option.some.inj hF
    subst hwz4
    exact K1 _ _ _ hP hD hS (lv_sub hl [0, 1] rfl)
  · rw [if_neg c5] at hF
    refine lv_aload_n hx hb dX3_clearWeights_8 rfl (lv_at hl 1 rfl) ?_
    refine va_get (D := D) (ci := 3) (v := va_re ad (s2.2.2 a 3)) (C := RX3) (T := TX3) (N := 4) hx hb hts (by decide +kernel) hown hK hP a (wld_o ct ad G s2.2 hc hk (by decide)) rfl 3 (by decide) (hts (.fieldLink RX3 19 "VideoSuite$Header" "weight" "[I") (by decide +kernel)) (fun _ h9 => h9) rfl dX3_clearWeights_9 ?_
    refine lv_iconst (v := (2 : Int32)) hx hb dX3_clearWeights_12 (by decide) ?_
    refine lv_iload_n hx hb dX3_clearWeights_13 rfl (lv_at hl 0 rfl) ?_
    refine lv_imul hx hb dX3_clearWeights_14 ?_
    obtain ⟨x6, ex6, hF⟩ := ltt_some hF
    refine lv_topi (fun zx6 ezx6 => ?_)
    obtain rfl : x6 = zx6 := ex6.trans ezx6.symm
    refine lv_iconst (v := (1 : Int32)) hx hb dX3_clearWeights_15 (by decide) ?_
    refine lv_iload_n hx hb dX3_clearWeights_16 rfl (lv_at hl 0 rfl) ?_
    refine lv_iconst (v := (3 : Int32)) hx hb dX3_clearWeights_17 (by decide) ?_
    refine lv_irem hx hb dX3_clearWeights_18 (by decide) ?_
    obtain ⟨x7, ex7, hF⟩ := ltt_some hF
    refine lv_topi (fun zx7 ezx7 => ?_)
    obtain rfl : x7 = zx7 := ex7.trans ezx7.symm
    obtain ⟨y8, hy8, hF⟩ := bnd_some hF
    have J8 : ∀ (H : Heap) (locs : List Loc) (ls : Array Slot), va_P D classes (wld ct ad G s2.2) H → va_D A (wld ct ad G s2.2) → va_S A s.heap H locs → lv_has ls 2 [(1, .int s2.1), (0, .ref (ad a))] → W p l e (headSpec wsX3_clearWeights ({ frames := 0, cells := 0, slots := 0, locals := 0 })).room s m ([.ref (ad a)] : List Value).toArray below meth c H locs 0 0 (MQ below (va_Qv (fun (_ : Unit) => True) (fun _ t => kE D ct ad G A y t) A) ([.ref (ad a)] : List Value).toArray s 0 0 A) (F0 m 39 ls [.int y8, .int (1 : Int32), .int x6, va_re ad (s2.2.2 a 3)]) := by
      intro H locs ls hP hD hS hl
      refine lv_ishl hx hb dX3_clearWeights_39 ?_
      obtain ⟨x9, ex9, hF⟩ := ltt_some hF
      refine lv_topi (fun zx9 ezx9 => ?_)
      obtain rfl : x9 = zx9 := ex9.trans ezx9.symm
      obtain ⟨b10, ho10, hc10, hk10, hF⟩ := dr_some hF
      refine W_st (st' := [.int x9, .int x6, .ref (ad b10)]) (by rw [va_some ho10]) ?_
      obtain ⟨hvc, hF⟩ := chk_some hF
      refine va_iast hx hb hK hP hD hS b10 1 (wld_i ct ad G s2.2 hc10 hk10) rfl hvc dX3_clearWeights_40 (fun H locs hP hD hS => ?_)
      obtain ⟨M11, eM11, hF⟩ := ltt_some hF
      rw [set_i ct ad G s2.2 hc10 hk10, ← eM11] at hP hD
      refine lv_aload_n hx hb dX3_clearWeights_41 rfl (lv_at hl 1 rfl) ?_
      refine va_get (D := D) (ci := 3) (v := va_re ad (M11.2 a 3)) (C := RX3) (T := TX3) (N := 4) hx hb hts (by decide +kernel) hown hK hP a (wld_o ct ad G M11 hc hk (by decide)) rfl 3 (by decide) (hts (.fieldLink RX3 19 "VideoSuite$Header" "weight" "[I") (by decide +kernel)) (fun _ h9 => h9) rfl dX3_clearWeights_42 ?_
      refine lv_iconst (v := (2 : Int32)) hx hb dX3_clearWeights_45 (by decide) ?_
      refine lv_iload_n hx hb dX3_clearWeights_46 rfl (lv_at hl 0 rfl) ?_
      refine lv_imul hx hb dX3_clearWeights_47 ?_
      obtain ⟨x12, ex12, hF⟩ := ltt_some hF
      refine lv_topi (fun zx12 ezx12 => ?_)
      obtain rfl : x12 = zx12 := ex12.trans ezx12.symm
      refine lv_iconst (v := (1 : Int32)) hx hb dX3_clearWeights_48 (by decide) ?_
      refine lv_iadd hx hb dX3_clearWeights_49 ?_
      obtain ⟨x13, ex13, hF⟩ := ltt_some hF
      refine lv_topi (fun zx13 ezx13 => ?_)
      obtain rfl : x13 = zx13 := ex13.trans ezx13.symm
      refine lv_iconst (v := (0 : Int32)) hx hb dX3_clearWeights_50 (by decide) ?_
      obtain ⟨b14, ho14, hc14, hk14, hF⟩ := dr_some hF
      refine W_st (st' := [.int (0 : Int32), .int x13, .ref (ad b14)]) (by rw [va_some ho14]) ?_
      obtain ⟨hvc, hF⟩ := chk_some hF
      refine va_iast hx hb hK hP hD hS b14 1 (wld_i ct ad G M11 hc14 hk14) rfl hvc dX3_clearWeights_51 (fun H locs hP hD hS => ?_)
      obtain ⟨M15, eM15, hF⟩ := ltt_some hF
      rw [set_i ct ad G M11 hc14 hk14, ← eM15] at hP hD
      obtain ⟨x16, ex16, hF⟩ := ltt_some hF
      refine lv_iinc (v := x16) (lv' := [(1, .int x16), (0, .ref (ad a))]) hx hb dX3_clearWeights_52 hl (k := 0) rfl (by rw [ex16]; rfl) (by decide) rfl (fun ls hl => ?_)
      refine lv_goto (tgt := 2) hx hb dX3_clearWeights_55 (by decide) ?_
      obtain rfl := Option.some.inj hF
      exact hwz4 _ _ _ hP hD hS (lv_sub hl [0, 1] rfl)
    clear hF
    have hF := hy8
    clear hy8
    refine lv_if_ne (tgt := 32) hx hb dX3_clearWeights_19 (by decide) (fun c17 => ?_) (fun c17 => ?_)
    · rw [if_neg c17] at hF
      refine lv_aload_n hx hb dX3_clearWeights_32 rfl (lv_at hl 1 rfl) ?_
      refine va_get (D := D) (ci := 3) (v := va_re ad (s2.2.2 a 0)) (C := RX3) (T := TX3) (N := 4) hx hb hts (by decide +kernel) hown hK hP a (wld_o ct ad G s2.2 hc hk (by decide)) rfl 0 (by decide) (hts (.fieldLink RX3 7 "VideoSuite$Header" "v" "[I") (by decide +kernel)) (fun _ h9 => h9) rfl dX3_clearWeights_33 ?_
      refine lv_bipush (v := (23 : Int32)) hx hb dX3_clearWeights_36 (by decide) ?_
      obtain ⟨b18, ho18, hc18, hk18, hF⟩ := dr_some hF
      refine W_st (st' := [.int (23 : Int32), .ref (ad b18), .int (1 : Int32), .int x6, va_re ad (s2.2.2 a 3)]) (by rw [va_some ho18]) ?_
      obtain ⟨hvc, hF⟩ := chk_some hF
      refine va_iald hx hb hK hP b18 1 (wld_i ct ad G s2.2 hc18 hk18) rfl hvc dX3_clearWeights_38 ?_
      obtain ⟨x19, ex19, hF⟩ := ltt_some hF
      refine lv_topi (fun zx19 ezx19 => ?_)
      obtain rfl : x19 = zx19 := ex19.trans ezx19.symm
      obtain rfl := Option.some.inj hF
      exact J8 _ _ _ hP hD hS (lv_sub hl [0, 1] rfl)
    · rw [if_pos c17] at hF
      refine lv_aload_n hx hb dX3_clearWeights_22 rfl (lv_at hl 1 rfl) ?_
      refine va_get (D := D) (ci := 3) (v := va_re ad (s2.2.2 a 0)) (C := RX3) (T := TX3) (N := 4) hx hb hts (by decide +kernel) hown hK hP a (wld_o ct ad G s2.2 hc hk (by decide)) rfl 0 (by decide) (hts (.fieldLink RX3 7 "VideoSuite$Header" "v" "[I") (by decide +kernel)) (fun _ h9 => h9) rfl dX3_clearWeights_23 ?_
      refine lv_bipush (v := (22 : Int32)) hx hb dX3_clearWeights_26 (by decide) ?_
      obtain ⟨b20, ho20, hc20, hk20, hF⟩ := dr_some hF
      refine W_st (st' := [.int (22 : Int32), .ref (ad b20), .int (1 : Int32), .int x6, va_re ad (s2.2.2 a 3)]) (by rw [va_some ho20]) ?_
      obtain ⟨hvc, hF⟩ := chk_some hF
      refine va_iald hx hb hK hP b20 1 (wld_i ct ad G s2.2 hc20 hk20) rfl hvc dX3_clearWeights_28 ?_
      obtain ⟨x21, ex21, hF⟩ := ltt_some hF
      refine lv_topi (fun zx21 ezx21 => ?_)
      obtain rfl : x21 = zx21 := ex21.trans ezx21.symm
      refine lv_goto (tgt := 39) hx hb dX3_clearWeights_29 (by decide) ?_
      obtain rfl := Option.some.inj hF
      exact J8 _ _ _ hP hD hS (lv_sub hl [0, 1] rfl)
