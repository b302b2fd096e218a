theorem dX7_references_0 : decode cX7_references 0 = .ok (.iconst 0, 1) := by decide +kernel
theorem dX7_references_1 : decode cX7_references 1 = .ok (.istore_n 1, 1) := by decide +kernel
theorem dX7_references_2 : decode cX7_references 2 = .ok (.iconst 0, 1) := by decide +kernel
theorem dX7_references_3 : decode cX7_references 3 = .ok (.istore_n 2, 1) := by decide +kernel
theorem dX7_references_4 : decode cX7_references 4 = .ok (.iload_n 2, 1) := by decide +kernel
theorem dX7_references_5 : decode cX7_references 5 = .ok (.aload_n 0, 1) := by decide +kernel
theorem dX7_references_6 : decode cX7_references 6 = .ok (.getfield 29, 3) := by decide +kernel
theorem dX7_references_9 : decode cX7_references 9 = .ok (.if_icmp .ge 29, 3) := by decide +kernel
theorem dX7_references_12 : decode cX7_references 12 = .ok (.iload_n 1, 1) := by decide +kernel
theorem dX7_references_13 : decode cX7_references 13 = .ok (.aload_n 0, 1) := by decide +kernel
theorem dX7_references_14 : decode cX7_references 14 = .ok (.getfield 17, 3) := by decide +kernel
theorem dX7_references_17 : decode cX7_references 17 = .ok (.iload_n 2, 1) := by decide +kernel
theorem dX7_references_18 : decode cX7_references 18 = .ok (.aaload, 1) := by decide +kernel
theorem dX7_references_19 : decode cX7_references 19 = .ok (.getfield 123, 3) := by decide +kernel
theorem dX7_references_22 : decode cX7_references 22 = .ok (.ifCond .eq 7, 3) := by decide +kernel
theorem dX7_references_25 : decode cX7_references 25 = .ok (.iconst 1, 1) := by decide +kernel
theorem dX7_references_26 : decode cX7_references 26 = .ok (.goto 4, 3) := by decide +kernel
theorem dX7_references_29 : decode cX7_references 29 = .ok (.iconst 0, 1) := by decide +kernel
theorem dX7_references_30 : decode cX7_references 30 = .ok (.iadd, 1) := by decide +kernel
theorem dX7_references_31 : decode cX7_references 31 = .ok (.istore_n 1, 1) := by decide +kernel
theorem dX7_references_32 : decode cX7_references 32 = .ok (.iinc 2 1, 3) := by decide +kernel
theorem dX7_references_35 : decode cX7_references 35 = .ok (.goto (-31), 3) := by decide +kernel
theorem dX7_references_38 : decode cX7_references 38 = .ok (.iload_n 1, 1) := by decide +kernel
theorem dX7_references_39 : decode cX7_references 39 = .ok (.ireturn, 1) := by decide +kernel
def FX7_references (G : GG) (M : DD) (a : Nat)  : Option (DD × Int32) :=
  bnd (itr (fun (s2 : Int32 × Int32) => ((ltt (M.1 a 3) fun x5 =>
  if x5 ≤ s2.2 then (some (.inr (s2.1, s2.2))) else
  (dr G 14 ((M.2 a 2)) fun b7 =>
  chk (¬ (s2.2 < 0 ∨ G.2.2 b7 ≤ s2.2.toNatClampNeg)) <|
  dr G 4 ((M.2 b7 s2.2.toNatClampNeg)) fun b8 =>
  ltt (M.1 b8 10) fun x9 =>
  bnd (if x9 = ((0 : Int32)) then (some ((0 : Int32))) else
  (some ((1 : Int32)))) fun (y10 : Int32) =>
  ltt ((s2.1 + y10)) fun x11 =>
  ltt (s2.2 + (1 : Int32)) fun x12 =>
  some (.inl (x11, x12)))) : Option ((Int32 × Int32) ⊕ (Int32 × Int32)))) 1000000 ((0 : Int32), (0 : Int32))) fun (y1 : Int32 × Int32) =>
  some (M, y1.1)
set_option maxHeartbeats 4000000 in
set_option maxRecDepth 100000 in
theorem kX7_references (l : Launch) (D : va_G) (ct : CT) (ad : Nat → Nat) (Z : Nat → Nat) (G : GG) (M : DD) (sz : Nat) (a : Nat)  (y : DD × Int32) (hc : a < G.1) (hk : G.2.1 a = 7) (hF : FX7_references G M a  = some y) : Met l yX7_references wsX7_references ({ frames := 0, cells := 0, slots := 0, locals := 0 }) (va_Pc [.ref (ad a)] (kB D ct ad Z G M sz)) (va_Qi (fun (q : Int32) (_ : Unit) => q = y.2) (fun _ t => kE D ct ad G (wA ad G sz) y.1 t) (wA ad G sz)) 0 0 (wA ad G sz) := by
  refine Met.ofW (cc := cX7_references) (maxL := 3) (ret := (some .int)) (by decide) rfl ?_
  intro p e s m args below meth c s₁ B hml hv
  obtain ⟨rfl, hsz, hP, hK, hD0, hZ, hN⟩ := hv
  have hx := B.exec
  have hb := B.bytes
  have hr := B.returns
  have hts := atoms_spec (ws := wsX7_references) B.pre
  have hown : s.vm.findClass RX7 = some m.cls := findClass_of_methodNamed B.named
  have hlocks := B.notSynchronized
  subst hsz
  have hD := wD_self (sz := s.heap.size) hD0
  have hA9 : ∀ q, s.heap.size ≤ q → wA ad G s.heap.size q := fun q h => Or.inr h
  generalize hAe : wA ad G s.heap.size = A at hD hA9 hZ ⊢
  have hS : va_S A s.heap s.heap [] := va_S.rf
  have hl := lv_entry ([.ref (ad a)]) (n := 3) (Nat.le_of_ble_eq_true rfl)
  rw [lg_entry_eq]
  generalize (lg_sl ([.ref (ad a)]) ++ List.replicate (3 - (lg_sl ([.ref (ad a)])).length) Slot.unset).toArray = ls at hl ⊢
  have hl : lv_has ls 3 [(0, .ref (ad a))] := hl
  unfold FX7_references at hF
  refine lv_iconst (v := (0 : Int32)) hx hb dX7_references_0 (by decide) ?_
  refine lv_istore_n (lv' := [(1, .int (0 : Int32)), (0, .ref (ad a))]) hx hb dX7_references_1 rfl hl (by decide) rfl (fun ls hl => ?_)
  refine lv_iconst (v := (0 : Int32)) hx hb dX7_references_2 (by decide) ?_
  refine lv_istore_n (lv' := [(2, .int (0 : Int32)), (1, .int (0 : Int32)), (0, .ref (ad a))]) hx hb dX7_references_3 rfl hl (by decide) rfl (fun ls hl => ?_)
  obtain ⟨y1, hy1, hF⟩ := bnd_some hF
  have K1 : ∀ (H : Heap) (locs : List Loc) (ls : Array Slot), va_P D classes (wld ct ad G M) H → va_D A (wld ct ad G M) → va_S A s.heap H locs → lv_has ls 3 [(2, .int y1.2), (1, .int y1.1), (0, .ref (ad a))] → W p l e (headSpec wsX7_references ({ frames := 0, cells := 0, slots := 0, locals := 0 })).room s m ([.ref (ad a)] : List Value).toArray below meth c H locs 0 0 (MQ below (va_Qi (fun (q : Int32) (_ : Unit) => q = y.2) (fun _ t => kE D ct ad G A y.1 t) A) ([.ref (ad a)] : List Value).toArray s 0 0 A) (F0 m 38 ls []) := by
    intro H locs ls hP hD hS hl
    refine lv_iload_n hx hb dX7_references_38 rfl (lv_at hl 1 rfl) ?_
    obtain rfl := Option.some.inj hF
    exact W.iret (v := y1.1) hx hb hr (fun t ht hW => ⟨⟨_, (), rfl, rfl, ⟨by rw [ht]; exact hP, va_K.moved hW.alike hK, hD⟩⟩, hS.F ht⟩) hS.2.2 dX7_references_39
  clear hF
  refine itr_rule (fun (s2 : Int32 × Int32) => ∀ (H : Heap) (locs : List Loc) (ls : Array Slot), va_P D classes (wld ct ad G M) H → va_D A (wld ct ad G M) → va_S A s.heap H locs → lv_has ls 3 [(2, .int s2.2), (1, .int s2.1), (0, .ref (ad a))] → W p l e (headSpec wsX7_references ({ frames := 0, cells := 0, slots := 0, locals := 0 })).room s m ([.ref (ad a)] : List Value).toArray below meth c H locs 0 0 (MQ below (va_Qi (fun (q : Int32) (_ : Unit) => q = y.2) (fun _ t => kE D ct ad G A y.1 t) A) ([.ref (ad a)] : List Value).toArray s 0 0 A) (F0 m 4 ls [])) ?_ _ _ hy1 _ _ _ hP hD hS (lv_sub hl [0, 1, 2] rfl)
  rintro s2 ⟨z4, hF, hwz4⟩ H locs ls hP hD hS hl
  try dsimp only at hF
  refine lv_iload_n hx hb dX7_references_4 rfl (lv_at hl 0 rfl) ?_
  refine lv_aload_n hx hb dX7_references_5 rfl (lv_at hl 2 rfl) ?_
  refine va_get (D := D) (ci := 7) (v := .int (M.1 a 3)) (C := RX7) (T := TX7) (N := 17) hx hb hts (by decide +kernel) hown hK hP a (wld_o ct ad G M hc hk (by decide)) rfl 3 (by decide) (hts (.fieldLink RX7 29 "VideoSuite$Store" "count" "I") (by decide +kernel)) (fun _ h9 => h9) rfl dX7_references_6 ?_
  obtain ⟨x5, ex5, hF⟩ := ltt_some hF
  refine lv_topi (fun zx5 ezx5 => ?_)
  obtain rfl : x5 = zx5 := ex5.trans ezx5.symm
  refine lv_icmp_ge (tgt := 38) hx hb dX7_references_9 (by decide) (fun c6 => ?_) (fun c6 => ?_)
  · rw [if_pos c6] at hF
    obtain rfl := Option.some.inj hF
    subst hwz4
    exact K1 _ _ _ hP hD hS (lv_sub hl [0, 1, 2] rfl)
  · rw [if_neg c6] at hF
    refine lv_iload_n hx hb dX7_references_12 rfl (lv_at hl 1 rfl) ?_
    refine lv_aload_n hx hb dX7_references_13 rfl (lv_at hl 2 rfl) ?_
    refine va_get (D := D) (ci := 7) (v := va_re ad (M.2 a 2)) (C := RX7) (T := TX7) (N := 17) hx hb hts (by decide +kernel) hown hK hP a (wld_o ct ad G M hc hk (by decide)) rfl 2 (by decide) (hts (.fieldLink RX7 17 "VideoSuite$Store" "kept" "[LVideoSuite$Picture;") (by decide +kernel)) (fun _ h9 => h9) rfl dX7_references_14 ?_
    refine lv_iload_n hx hb dX7_references_17 rfl (lv_at hl 0 rfl) ?_
    obtain ⟨b7, ho7, hc7, hk7, hF⟩ := dr_some hF
    refine W_st (st' := [.int s2.2, .ref (ad b7), .int s2.1]) (by rw [va_some ho7]) ?_
    obtain ⟨hvc, hF⟩ := chk_some hF
    refine ld_q hx hb hK hP hc7 hk7 hvc dX7_references_18 ?_
    obtain ⟨b8, ho8, hc8, hk8, hF⟩ := dr_some hF
    refine W_st (st' := [.ref (ad b8), .int s2.1]) (by rw [va_some ho8]) ?_
    refine va_get (D := D) (ci := 4) (v := .int (M.1 b8 10)) (C := RX4) (T := TX4) (N := 18) hx hb hts (by decide +kernel) hown hK hP b8 (wld_o ct ad G M hc8 hk8 (by decide)) rfl 10 (by decide) (hts (.fieldLink RX7 123 "VideoSuite$Picture" "use" "I") (by decide +kernel)) (fun _ h9 => h9) rfl dX7_references_19 ?_
    obtain ⟨x9, ex9, hF⟩ := ltt_some hF
    refine lv_topi (fun zx9 ezx9 => ?_)
    obtain rfl : x9 = zx9 := ex9.trans ezx9.symm
    obtain ⟨y10, hy10, hF⟩ := bnd_some hF
    have J10 : ∀ (H : Heap) (locs : List Loc) (ls : Array Slot), va_P D classes (wld ct ad G M) H → va_D A (wld ct ad G M) → va_S A s.heap H locs → lv_has ls 3 [(2, .int s2.2), (1, .int s2.1), (0, .ref (ad a))] → W p l e (headSpec wsX7_references ({ frames := 0, cells := 0, slots := 0, locals := 0 })).room s m ([.ref (ad a)] : List Value).toArray below meth c H locs 0 0 (MQ below (va_Qi (fun (q : Int32) (_ : Unit) => q = y.2) (fun _ t => kE D ct ad G A y.1 t) A) ([.ref (ad a)] : List Value).toArray s 0 0 A) (F0 m 30 ls [.int y10, .int s2.1]) := by
      intro H locs ls hP hD hS hl
      refine lv_iadd hx hb dX7_references_30 ?_
      obtain ⟨x11, ex11, hF⟩ := ltt_some hF
      refine lv_topi (fun zx11 ezx11 => ?_)
      obtain rfl : x11 = zx11 := ex11.trans ezx11.symm
      refine lv_istore_n (lv' := [(1, .int x11), (2, .int s2.2), (0, .ref (ad a))]) hx hb dX7_references_31 rfl hl (by decide) rfl (fun ls hl => ?_)
      obtain ⟨x12, ex12, hF⟩ := ltt_some hF
      refine lv_iinc (v := x12) (lv' := [(2, .int x12), (1, .int x11), (0, .ref (ad a))]) hx hb dX7_references_32 hl (k := 1) rfl (by rw [ex12]; rfl) (by decide) rfl (fun ls hl => ?_)
      refine lv_goto (tgt := 4) hx hb dX7_references_35 (by decide) ?_
      obtain rfl := Option.some.inj hF
      exact hwz4 _ _ _ hP hD hS (lv_sub hl [0, 1, 2] rfl)
    clear hF
    have hF := hy10
    clear hy10
    refine lv_if_eq (tgt := 29) hx hb dX7_references_22 (by decide) (fun c13 => ?_) (fun c13 => ?_)
    · rw [if_pos c13] at hF
      refine lv_iconst (v := (0 : Int32)) hx hb dX7_references_29 (by decide) ?_
      obtain rfl := Option.some.inj hF
      exact J10 _ _ _ hP hD hS (lv_sub hl [0, 1, 2] rfl)
    · rw [if_neg c13] at hF
      refine lv_iconst (v := (1 : Int32)) hx hb dX7_references_25 (by decide) ?_
      refine lv_goto (tgt := 30) hx hb dX7_references_26 (by decide) ?_
      obtain rfl := Option.some.inj hF
      exact J10 _ _ _ hP hD hS (lv_sub hl [0, 1, 2] rfl)
theorem dX7_release_0 : decode cX7_release 0 = .ok (.aload_n 0, 1) := by decide +kernel
theorem dX7_release_1 : decode cX7_release 1 = .ok (.iconst 0, 1) := by decide +kernel
theorem dX7_release_2 : decode cX7_release 2 = .ok (.putfield 123, 3) := by decide +kernel
theorem dX7_release_5 : decode cX7_release 5 = .ok (.aload_n 0, 1) := by decide +kernel
theorem dX7_release_6 : decode cX7_release 6 = .ok (.iconst (-1), 1) := by decide +kernel
theorem dX7_release_7 : decode cX7_release 7 = .ok (.putfield 129, 3) := by decide +kernel
theorem dX7_release_10 : decode cX7_release 10 = .ok (.return_, 1) := by decide +kernel
def FX7_release (G : GG) (M : DD) (p0 : Option Nat) : Option (DD) :=
  dr G 4 p0 fun b1 =>
  ltt (uI M b1 10 ((0 : Int32))) fun M2 =>
  ltt (uI M2 b1 11 ((-1 : Int32))) fun M3 =>
  some M3
set_option maxHeartbeats 4000000 in
set_option maxRecDepth 100000 in
theorem kX7_release (l : Launch) (D : va_G) (ct : CT) (ad : Nat → Nat) (Z : Nat → Nat) (G : GG) (M : DD) (sz : Nat) (p0 : Option Nat) (y : DD) (hF : FX7_release G M p0 = some y) : Met l yX7_release wsX7_release ({ frames := 0, cells := 0, slots := 0, locals := 0 }) (va_Pc [va_re ad p0] (kB D ct ad Z G M sz)) (va_Qv (fun (_ : Unit) => True) (fun _ t => kE D ct ad G (wA ad G sz) y t) (wA ad G sz)) 0 0 (wA ad G sz) := by
  refine Met.ofW (cc := cX7_release) (maxL := 1) (ret := none) (by decide) rfl ?_
  intro p e s m args below meth c s₁ B hml hv
  obtain ⟨rfl, hsz, hP, hK, hD0, hZ, hN⟩ := hv
  have hx := B.exec
  have hb := B.bytes
  have hr := B.returns
  have hts := atoms_spec (ws := wsX7_release) B.pre
  have hown : s.vm.findClass RX7 = some m.cls := findClass_of_methodNamed B.named
  have hlocks := B.notSynchronized
  subst hsz
  have hD := wD_self (sz := s.heap.size) hD0
  have hA9 : ∀ q, s.heap.size ≤ q → wA ad G s.heap.size q := fun q h => Or.inr h
  generalize hAe : wA ad G s.heap.size = A at hD hA9 hZ ⊢
  have hS : va_S A s.heap s.heap [] := va_S.rf
  have hl := lv_entry ([va_re ad p0]) (n := 1) (by cases p0 <;> exact Nat.le_of_ble_eq_true rfl)
  rw [lg_entry_eq]
  generalize (lg_sl ([va_re ad p0]) ++ List.replicate (1 - (lg_sl ([va_re ad p0])).length) Slot.unset).toArray = ls at hl ⊢
  have hl : lv_has ls 1 [(0, va_re ad p0)] := by have e9 : lv_args 0 [va_re ad p0] = [(0, va_re ad p0)] := (by cases p0 <;> rfl); rw [e9] at hl; exact hl
  unfold FX7_release at hF
  refine lv_aloadq_n hx hb dX7_release_0 rfl (lv_at hl 0 rfl) ?_
  refine lv_iconst (v := (0 : Int32)) hx hb dX7_release_1 (by decide) ?_
  obtain ⟨b1, ho1, hc1, hk1, hF⟩ := dr_some hF
  refine W_st (st' := [.int (0 : Int32), .ref (ad b1)]) (by rw [va_some ho1]) ?_
  refine va_put (D := D) (ci := 4) (v := .int (0 : Int32)) (ty := .int) (C := RX4) (T := TX4) (N := 18) hx hb hts (by decide +kernel) tyX4 tyX4_ok nmX4 hown hK hP hD hS b1 (wld_o ct ad G M hc1 hk1 (by decide)) rfl 10 (by decide) (hts (.fieldLink RX7 123 "VideoSuite$Picture" "use" "I") (by decide +kernel)) (fun _ h9 => h9) rfl (by decide +kernel) rfl rfl (Nat.le_of_ble_eq_true rfl) dX7_release_2 (fun H locs hP hD hS => ?_)
  obtain ⟨M2, eM2, hF⟩ := ltt_some hF
  rw [set_oI ct ad G M hc1 hk1 (by decide) (by rfl), ← eM2] at hP hD
  refine lv_aloadq_n hx hb dX7_release_5 rfl (lv_at hl 0 rfl) ?_
  refine lv_iconst (v := (-1 : Int32)) hx hb dX7_release_6 (by decide) ?_
  refine W_st (st' := [.int (-1 : Int32), .ref (ad b1)]) (by rw [va_some ho1]) ?_
  refine va_put (D := D) (ci := 4) (v := .int (-1 : Int32)) (ty := .int) (C := RX4) (T := TX4) (N := 18) hx hb hts (by decide +kernel) tyX4 tyX4_ok nmX4 hown hK hP hD hS b1 (wld_o ct ad G M2 hc1 hk1 (by decide)) rfl 11 (by decide) (hts (.fieldLink RX7 129 "VideoSuite$Picture" "number" "I") (by decide +kernel)) (fun _ h9 => h9) rfl (by decide +kernel) rfl rfl (Nat.le_of_ble_eq_true rfl) dX7_release_7 (fun H locs hP hD hS => ?_)
  obtain ⟨M3, eM3, hF⟩ := ltt_some hF
  rw [set_oI ct ad G M2 hc1 hk1 (by decide) (by rfl), ← eM3] at hP hD
  obtain rfl := Option.some.inj hF
  exact W.vret hx hb hr (fun t ht hW => ⟨⟨(), rfl, trivial, ⟨by rw [ht]; exact hP, va_K.moved hW.alike hK, hD⟩⟩, hS.F ht⟩) hS.2.2 dX7_release_10
theorem ggX7_releaseAll_X7_release : GoodIn wsX7_releaseAll wsX7_release := goodIn_r _ [6, 7, 8, 26, 27, 28, 29, 30, 31, 32, 33, 34, 35, 36, 37, 38, 39, 40, 41, 42, 43] (by decide +kernel) (by decide +kernel)
set_option maxRecDepth 20000 in
theorem gX7_releaseAll_X7_release : GoodIn wsX7_releaseAll (va_wsS RX7 152 yX7_release wsX7_release) := goodIn_app (goodIn_of _ (by decide +kernel)) ggX7_releaseAll_X7_release
theorem dX7_releaseAll_0 : decode cX7_releaseAll 0 = .ok (.iconst 0, 1) := by decide +kernel
theorem dX7_releaseAll_1 : decode cX7_releaseAll 1 = .ok (.istore_n 1, 1) := by decide +kernel
theorem dX7_releaseAll_2 : decode cX7_releaseAll 2 = .ok (.iload_n 1, 1) := by decide +kernel
theorem dX7_releaseAll_3 : decode cX7_releaseAll 3 = .ok (.aload_n 0, 1) := by decide +kernel
theorem dX7_releaseAll_4 : decode cX7_releaseAll 4 = .ok (.getfield 29, 3) := by decide +kernel
theorem dX7_releaseAll_7 : decode cX7_releaseAll 7 = .ok (.if_icmp .ge 18, 3) := by decide +kernel
theorem dX7_releaseAll_10 : decode cX7_releaseAll 10 = .ok (.aload_n 0, 1) := by decide +kernel
theorem dX7_releaseAll_11 : decode cX7_releaseAll 11 = .ok (.getfield 17, 3) := by decide +kernel
theorem dX7_releaseAll_14 : decode cX7_releaseAll 14 = .ok (.iload_n 1, 1) := by decide +kernel
theorem dX7_releaseAll_15 : decode cX7_releaseAll 15 = .ok (.aaload, 1) := by decide +kernel
theorem dX7_releaseAll_16 : decode cX7_releaseAll 16 = .ok (.invokestatic 152, 3) := by decide +kernel
theorem dX7_releaseAll_19 : decode cX7_releaseAll 19 = .ok (.iinc 1 1, 3) := by decide +kernel
theorem dX7_releaseAll_22 : decode cX7_releaseAll 22 = .ok (.goto (-20), 3) := by decide +kernel
theorem dX7_releaseAll_25 : decode cX7_releaseAll 25 = .ok (.return_, 1) := by decide +kernel
def FX7_releaseAll (G : GG) (M : DD) (a : Nat)  : Option (DD) :=
  bnd (itr (fun (s2 : Int32 × DD) => ((ltt (s2.2.1 a 3) fun x5 =>
  if x5 ≤ s2.1 then (some (.inr (s2.1, s2.2))) else
  (dr G 14 ((s2.2.2 a 2)) fun b7 =>
  chk (¬ (s2.1 < 0 ∨ G.2.2 b7 ≤ s2.1.toNatClampNeg)) <|
  bnd (FX7_release G s2.2 ((s2.2.2 b7 s2.1.toNatClampNeg))) fun y8 =>
  ltt (s2.1 + (1 : Int32)) fun x9 =>
  some (.inl (x9, y8)))) : Option ((Int32 × DD) ⊕ (Int32 × DD)))) 1000000 ((0 : Int32), M)) fun (y1 : Int32 × DD) =>
  some y1.2
set_option maxHeartbeats 4000000 in
set_option maxRecDepth 100000 in
theorem kX7_releaseAll (l : Launch) (D : va_G) (ct : CT) (ad : Nat → Nat) (Z : Nat → Nat) (G : GG) (M : DD) (sz : Nat) (a : Nat)  (y : DD) (hc : a < G.1) (hk : G.2.1 a = 7) (hF : FX7_releaseAll G M a  = some y) : Met l yX7_releaseAll wsX7_releaseAll ({ frames := 1, cells := 0, slots := 0, locals := 20 }) (va_Pc [.ref (ad a)] (kB D ct ad Z G M sz)) (va_Qv (fun (_ : Unit) => True) (fun _ t => kE D ct ad G (wA ad G sz) y t) (wA ad G sz)) 0 0 (wA ad G sz) := by
  refine Met.ofW (cc := cX7_releaseAll) (maxL := 2) (ret := none) (by decide) rfl ?_
  intro p e s m args below meth c s₁ B hml hv
  obtain ⟨rfl, hsz, hP, hK, hD0, hZ, hN⟩ := hv
  have hx := B.exec
  have hb := B.bytes
  have hr := B.returns
  have hts := atoms_spec (ws := wsX7_releaseAll) B.pre
  have hown : s.vm.findClass RX7 = some m.cls := findClass_of_methodNamed B.named
  have hlocks := B.notSynchronized
  subst hsz
  have hD := wD_self (sz := s.heap.size) hD0
  have hA9 : ∀ q, s.heap.size ≤ q → wA ad G s.heap.size q := fun q h => Or.inr h
  generalize hAe : wA ad G s.heap.size = A at hD hA9 hZ ⊢
  have hS : va_S A s.heap s.heap [] := va_S.rf
  have hl := lv_entry ([.ref (ad a)]) (n := 2) (Nat.le_of_ble_eq_true rfl)
  rw [lg_entry_eq]
  generalize (lg_sl ([.ref (ad a)]) ++ List.replicate (2 - (lg_sl ([.ref (ad a)])).length) Slot.unset).toArray = ls at hl ⊢
  have hl : lv_has ls 2 [(0, .ref (ad a))] := hl
  unfold FX7_releaseAll at hF
  refine lv_iconst (v := (0 : Int32)) hx hb dX7_releaseAll_0 (by decide) ?_
  refine lv_istore_n (lv' := [(1, .int (0 : Int32)), (0, .ref (ad a))]) hx hb dX7_releaseAll_1 rfl hl (by decide) rfl (fun ls hl => ?_)
  obtain ⟨y1, hy1, hF⟩ := bnd_some hF
  have K1 : ∀ (H : Heap) (locs : List Loc) (ls : Array Slot), va_P D classes (wld ct ad G y1.2) H → va_D A (wld ct ad G y1.2) → va_S A s.heap H locs → lv_has ls 2 [(1, .int y1.1), (0, .ref (ad a))] → W p l e (headSpec wsX7_releaseAll ({ frames := 1, cells := 0, slots := 0, locals := 20 })).room s m ([.ref (ad a)] : List Value).toArray below meth c H locs 0 0 (MQ below (va_Qv (fun (_ : Unit) => True) (fun _ t => kE D ct ad G A y t) A) ([.ref (ad a)] : List Value).toArray s 0 0 A) (F0 m 25 ls []) := by
    intro H locs ls hP hD hS hl
    obtain rfl := Option.some.inj hF
    exact W.vret hx hb hr (fun t ht hW => ⟨⟨(), rfl, trivial, ⟨by rw [ht]; exact hP, va_K.moved hW.alike hK, hD⟩⟩, hS.F ht⟩) hS.2.2 dX7_releaseAll_25
  clear hF
  refine itr_rule (fun (s2 : Int32 × DD) => ∀ (H : Heap) (locs : List Loc) (ls : Array Slot), va_P D classes (wld ct ad G s2.2) H → va_D A (wld ct ad G s2.2) → va_S A s.heap H locs → lv_has ls 2 [(1, .int s2.1), (0, .ref (ad a))] → W p l e (headSpec wsX7_releaseAll ({ frames := 1, cells := 0, slots := 0, locals := 20 })).room s m ([.ref (ad a)] : List Value).toArray below meth c H locs 0 0 (MQ below (va_Qv (fun (_ : Unit) => True) (fun _ t => kE D ct ad G A y t) A) ([.ref (ad a)] : List Value).toArray s 0 0 A) (F0 m 2 ls [])) ?_ _ _ hy1 _ _ _ hP hD hS (lv_sub hl [0, 1] rfl)
  rintro s2 ⟨z4, hF, hwz4⟩ H locs ls hP hD hS hl
  try dsimp only at hF
  refine lv_iload_n hx hb dX7_releaseAll_2 rfl (lv_at hl 0 rfl) ?_
  refine lv_aload_n hx hb dX7_releaseAll_3 rfl (lv_at hl 1 rfl) ?_
  refine va_get (D := D) (ci := 7) (v := .int (s2.2.1 a 3)) (C := RX7) (T := TX7) (N := 17) hx hb hts (by decide +kernel) hown hK hP a (wld_o ct ad G s2.2 hc hk (by decide)) rfl 3 (by decide) (hts (.fieldLink RX7 29 "VideoSuite$Store" "count" "I") (by decide +kernel)) (fun _ h9 => h9) rfl dX7_releaseAll_4 ?_
  obtain ⟨x5, ex5, hF⟩ := ltt_some hF
  refine lv_topi (fun zx5 ezx5 => ?_)
  obtain rfl : x5 = zx5 := ex5.trans ezx5.symm
  refine lv_icmp_ge (tgt := 25) hx hb dX7_releaseAll_7 (by decide) (fun c6 => ?_) (fun c6 => ?_)
  · rw [if_pos c6] at hF
    obtain rfl := Option.some.inj hF
    subst hwz4
    exact K1 _ _ _ hP hD hS (lv_sub hl [0, 1] rfl)
  · rw [if_neg c6] at hF
    refine lv_aload_n hx hb dX7_releaseAll_10 rfl (lv_at hl 1 rfl) ?_
    refine va_get (D := D) (ci := 7) (v := va_re ad (s2.2.2 a 2)) (C := RX7) (T := TX7) (N := 17) hx hb hts (by decide +kernel) hown hK hP a (wld_o ct ad G s2.2 hc hk (by decide)) rfl 2 (by decide) (hts (.fieldLink RX7 17 "VideoSuite$Store" "kept" "[LVideoSuite$Picture;") (by decide +kernel)) (fun _ h9 => h9) rfl dX7_releaseAll_11 ?_
    refine lv_iload_n hx hb dX7_releaseAll_14 rfl (lv_at hl 0 rfl) ?_
    obtain ⟨b7, ho7, hc7, hk7, hF⟩ := dr_some hF
    refine W_st (st' := [.int s2.1, .ref (ad b7)]) (by rw [va_some ho7]) ?_
    obtain ⟨hvc, hF⟩ := chk_some hF
    refine ld_q hx hb hK hP hc7 hk7 hvc dX7_releaseAll_15 ?_
    obtain ⟨y8, hy8, hF⟩ := bnd_some hF
    have hf9 := wA_in hD hA9 hS
    refine va_callv (va_runS (As := [va_re ad (s2.2.2 b7 s2.1.toNatClampNeg)]) (rest := []) ⟨hx, hb, hml, hown, hts⟩ (kX7_release l D ct ad Z G s2.2 H.size ((s2.2.2 b7 s2.1.toNatClampNeg)) y8 hy8) (va_cwS 1 hts gX7_releaseAll_X7_release rfl rfl rfl (by decide +kernel) ⟨Nat.le_of_ble_eq_true rfl, Nat.le_of_ble_eq_true rfl⟩) ⟨fun a U g mk q => by obtain ⟨q0, q1, qP, qK, qD, qZ, qN⟩ := q; exact ⟨q0, q1, qP, va_K.moved (u := U) (U := U.calling g mk a) (Vm.Alike.refl U.vm) qK, qD, sF.moved (u := U) (U := U.calling g mk a) (Vm.Alike.refl U.vm) qZ, nF.same rfl qN⟩, fun U hU hW => ⟨rfl, by rw [hU], by rw [hU]; exact hP, va_K.moved hW.alike hK, hD.weaken (fun _ _ _ _ => trivial), by rw [hU]; exact ((hZ.kept hS.2.1).narrow hf9).moved hW.alike, hN.warm hW⟩⟩ rfl rfl hl.1 rfl (lv_room (Nat.le_of_ble_eq_true rfl)) dX7_releaseAll_16 ⟨(Nat.zero_le _), (Nat.zero_le _)⟩) hS (fun q _ h => hf9 q h) hf9 (fun u t H locs ht hvm hw hB hz1 hk1 hS => ?_)
    obtain ⟨hP, hK9, hD9⟩ := hB
    rw [ht] at hP
    have hD := hD9.weaken (fun _ q _ h => hf9 q.1 h)
    obtain ⟨x9, ex9, hF⟩ := ltt_some hF
    refine lv_iinc (v := x9) (lv' := [(1, .int x9), (0, .ref (ad a))]) hx hb dX7_releaseAll_19 hl (k := 0) rfl (by rw [ex9]; rfl) (by decide) rfl (fun ls hl => ?_)
    refine lv_goto (tgt := 2) hx hb dX7_releaseAll_22 (by decide) ?_
    obtain rfl := Option.some.inj hF
    exact hwz4 _ _ _ hP hD hS (lv_sub hl [0, 1] rfl)
theorem dX7_shorts_0 : decode cX7_shorts 0 = .ok (.iconst 0, 1) := by decide +kernel
theorem dX7_shorts_1 : decode cX7_shorts 1 = .ok (.istore_n 1, 1) := by decide +kernel
theorem dX7_shorts_2 : decode cX7_shorts 2 = .ok (.iconst 0, 1) := by decide +kernel
theorem dX7_shorts_3 : decode cX7_shorts 3 = .ok (.istore_n 2, 1) := by decide +kernel
theorem dX7_shorts_4 : decode cX7_shorts 4 = .ok (.iload_n 2, 1) := by decide +kernel
theorem dX7_shorts_5 : decode cX7_shorts 5 = .ok (.aload_n 0, 1) := by decide +kernel
theorem dX7_shorts_6 : decode cX7_shorts 6 = .ok (.getfield 29, 3) := by decide +kernel
theorem dX7_shorts_9 : decode cX7_shorts 9 = .ok (.if_icmp .ge 30, 3) := by decide +kernel
theorem dX7_shorts_12 : decode cX7_shorts 12 = .ok (.iload_n 1, 1) := by decide +kernel
theorem dX7_shorts_13 : decode cX7_shorts 13 = .ok (.aload_n 0, 1) := by decide +kernel
theorem dX7_shorts_14 : decode cX7_shorts 14 = .ok (.getfield 17, 3) := by decide +kernel
theorem dX7_shorts_17 : decode cX7_shorts 17 = .ok (.iload_n 2, 1) := by decide +kernel
theorem dX7_shorts_18 : decode cX7_shorts 18 = .ok (.aaload, 1) := by decide +kernel
theorem dX7_shorts_19 : decode cX7_shorts 19 = .ok (.getfield 123, 3) := by decide +kernel
theorem dX7_shorts_22 : decode cX7_shorts 22 = .ok (.iconst 1, 1) := by decide +kernel
theorem dX7_shorts_23 : decode cX7_shorts 23 = .ok (.if_icmp .ne 7, 3) := by decide +kernel
theorem dX7_shorts_26 : decode cX7_shorts 26 = .ok (.iconst 1, 1) := by decide +kernel
theorem dX7_shorts_27 : decode cX7_shorts 27 = .ok (.goto 4, 3) := by decide +kernel
theorem dX7_shorts_30 : decode cX7_shorts 30 = .ok (.iconst 0, 1) := by decide +kernel
theorem dX7_shorts_31 : decode cX7_shorts 31 = .ok (.iadd, 1) := by decide +kernel
theorem dX7_shorts_32 : decode cX7_shorts 32 = .ok (.istore_n 1, 1) := by decide +kernel
theorem dX7_shorts_33 : decode cX7_shorts 33 = .ok (.iinc 2 1, 3) := by decide +kernel
theorem dX7_shorts_36 : decode cX7_shorts 36 = .ok (.goto (-32), 3) := by decide +kernel
theorem dX7_shorts_39 : decode cX7_shorts 39 = .ok (.iload_n 1, 1) := by decide +kernel
theorem dX7_shorts_40 : decode cX7_shorts 40 = .ok (.ireturn, 1) := by decide +kernel
def FX7_shorts (G : GG) (M : DD) (a : Nat)  : Option (DD × Int32) :=
  bnd (itr (fun (s2 : Int32 × Int32) => ((ltt (M.1 a 3) fun x5 =>
  if x5 ≤ s2.2 then (some (.inr (s2.1, s2.2))) else
  (dr G 14 ((M.2 a 2)) fun b7 =>
  chk (¬ (s2.2 < 0 ∨ G.2.2 b7 ≤ s2.2.toNatClampNeg)) <|
  dr G 4 ((M.2 b7 s2.2.toNatClampNeg)) fun b8 =>
  ltt (M.1 b8 10) fun x9 =>
  bnd (if x9 = ((1 : Int32)) then (some ((1 : Int32))) else
  (some ((0 : Int32)))) fun (y10 : Int32) =>
  ltt ((s2.1 + y10)) fun x11 =>
  ltt (s2.2 + (1 : Int32)) fun x12 =>
  some (.inl (x11, x12)))) : Option ((Int32 × Int32) ⊕ (Int32 × Int32)))) 1000000 ((0 : Int32), (0 : Int32))) fun (y1 : Int32 × Int32) =>
  some (M, y1.1)
set_option maxHeartbeats 4000000 in
set_option maxRecDepth 100000 in
theorem kX7_shorts (l : Launch) (D : va_G) (ct : CT) (ad : Nat → Nat) (Z : Nat → Nat) (G : GG) (M : DD) (sz : Nat) (a : Nat)  (y : DD × Int32) (hc : a < G.1) (hk : G.2.1 a = 7) (hF : FX7_shorts G M a  = some y) : Met l yX7_shorts wsX7_shorts ({ frames := 0, cells := 0, slots := 0, locals := 0 }) (va_Pc [.ref (ad a)] (kB D ct ad Z G M sz)) (va_Qi (fun (q : Int32) (_ : Unit) => q = y.2) (fun _ t => kE D ct ad G (wA ad G sz) y.1 t) (wA ad G sz)) 0 0 (wA ad G sz) := by
  refine Met.ofW (cc := cX7_shorts) (maxL := 3) (ret := (some .int)) (by decide) rfl ?_
  intro p e s m args below meth c s₁ B hml hv
  obtain ⟨rfl, hsz, hP, hK, hD0, hZ, hN⟩ := hv
  have hx := B.exec
  have hb := B.bytes
  have hr := B.returns
  have hts := atoms_spec (ws := wsX7_shorts) B.pre
  have hown : s.vm.findClass RX7 = some m.cls := findClass_of_methodNamed B.named
  have hlocks := B.notSynchronized
  subst hsz
  have hD := wD_self (sz := s.heap.size) hD0
  have hA9 : ∀ q, s.heap.size ≤ q → wA ad G s.heap.size q := fun q h => Or.inr h
  generalize hAe : wA ad G s.heap.size = A at hD hA9 hZ ⊢
  have hS : va_S A s.heap s.heap [] := va_S.rf
  have hl := lv_entry ([.ref (ad a)]) (n := 3) (Nat.le_of_ble_eq_true rfl)
  rw [lg_entry_eq]
  generalize (lg_sl ([.ref (ad a)]) ++ List.replicate (3 - (lg_sl ([.ref (ad a)])).length) Slot.unset).toArray = ls at hl ⊢
  have hl : lv_has ls 3 [(0, .ref (ad a))] := hl
  unfold FX7_shorts at hF
  refine lv_iconst (v := (0 : Int32)) hx hb dX7_shorts_0 (by decide) ?_
  refine lv_istore_n (lv' := [(1, .int (0 : Int32)), (0, .ref (ad a))]) hx hb dX7_shorts_1 rfl hl (by decide) rfl (fun ls hl => ?_)
  refine lv_iconst (v := (0 : Int32)) hx hb dX7_shorts_2 (by decide) ?_
  refine lv_istore_n (lv' := [(2, .int (0 : Int32)), (1, .int (0 : Int32)), (0, .ref (ad a))]) hx hb dX7_shorts_3 rfl hl (by decide) rfl (fun ls hl => ?_)
  obtain ⟨y1, hy1, hF⟩ := bnd_some hF
  have K1 : ∀ (H : Heap) (locs : List Loc) (ls : Array Slot), va_P D classes (wld ct ad G M) H → va_D A (wld ct ad G M) → va_S A s.heap H locs → lv_has ls 3 [(2, .int y1.2), (1, .int y1.1), (0, .ref (ad a))] → W p l e (headSpec wsX7_shorts ({ frames := 0, cells := 0, slots := 0, locals := 0 })).room s m ([.ref (ad a)] : List Value).toArray below meth c H locs 0 0 (MQ below (va_Qi (fun (q : Int32) (_ : Unit) => q = y.2) (fun _ t => kE D ct ad G A y.1 t) A) ([.ref (ad a)] : List Value).toArray s 0 0 A) (F0 m 39 ls []) := by
    intro H locs ls hP hD hS hl
    refine lv_iload_n hx hb dX7_shorts_39 rfl (lv_at hl 1 rfl) ?_
    obtain rfl := Option.some.inj hF
    exact W.iret (v := y1.1) hx hb hr (fun t ht hW => ⟨⟨_, (), rfl, rfl, ⟨by rw [ht]; exact hP, va_K.moved hW.alike hK, hD⟩⟩, hS.F ht⟩) hS.2.2 dX7_shorts_40
  clear hF
  refine itr_rule (fun (s2 : Int32 × Int32) => ∀ (H : Heap) (locs : List Loc) (ls : Array Slot), va_P D classes (wld ct ad G M) H → va_D A (wld ct ad G M) → va_S A s.heap H locs → lv_has ls 3 [(2, .int s2.2), (1, .int s2.1), (0, .ref (ad a))] → W p l e (headSpec wsX7_shorts ({ frames := 0, cells := 0, slots := 0, locals := 0 })).room s m ([.ref (ad a)] : List Value).toArray below meth c H locs 0 0 (MQ below (va_Qi (fun (q : Int32) (_ : Unit) => q = y.2) (fun _ t => kE D ct ad G A y.1 t) A) ([.ref (ad a)] : List Value).toArray s 0 0 A) (F0 m 4 ls [])) ?_ _ _ hy1 _ _ _ hP hD hS (lv_sub hl [0, 1, 2] rfl)
  rintro s2 ⟨z4, hF, hwz4⟩ H locs ls hP hD hS hl
  try dsimp only at hF
  refine lv_iload_n hx hb dX7_shorts_4 rfl (lv_at hl 0 rfl) ?_
  refine lv_aload_n hx hb dX7_shorts_5 rfl (lv_at hl 2 rfl) ?_
  refine va_get (D := D) (ci := 7) (v := .int (M.1 a 3)) (C := RX7) (T := TX7) (N := 17) hx hb hts (by decide +kernel) hown hK hP a (wld_o ct ad G M hc hk (by decide)) rfl 3 (by decide) (hts (.fieldLink RX7 29 "VideoSuite$Store" "count" "I") (by decide +kernel)) (fun _ h9 => h9) rfl dX7_shorts_6 ?_
  obtain ⟨x5, ex5, hF⟩ := ltt_some hF
  refine lv_topi (fun zx5 ezx5 => ?_)
  obtain rfl : x5 = zx5 := ex5.trans ezx5.symm
  refine lv_icmp_ge (tgt := 39) hx hb dX7_shorts_9 (by decide) (fun c6 => ?_) (fun c6 => ?_)
  · rw [if_pos c6] at hF
    obtain rfl := Option.some.inj hF
    subst hwz4
    exact K1 _ _ _ hP hD hS (lv_sub hl [0, 1, 2] rfl)
  · rw [if_neg c6] at hF
    refine lv_iload_n hx hb dX7_shorts_12 rfl (lv_at hl 1 rfl) ?_
    refine lv_aload_n hx hb dX7_shorts_13 rfl (lv_at hl 2 rfl) ?_
    refine va_get (D := D) (ci := 7) (v := va_re ad (M.2 a 2)) (C := RX7) (T := TX7) (N := 17) hx hb hts (by decide +kernel) hown hK hP a (wld_o ct ad G M hc hk (by decide)) rfl 2 (by decide) (hts (.fieldLink RX7 17 "VideoSuite$Store" "kept" "[LVideoSuite$Picture;") (by decide +kernel)) (fun _ h9 => h9) rfl dX7_shorts_14 ?_
    refine lv_iload_n hx hb dX7_shorts_17 rfl (lv_at hl 0 rfl) ?_
    obtain ⟨b7, ho7, hc7, hk7, hF⟩ := dr_some hF
    refine W_st (st' := [.int s2.2, .ref (ad b7), .int s2.1]) (by rw [va_some ho7]) ?_
    obtain ⟨hvc, hF⟩ := chk_some hF
    refine ld_q hx hb hK hP hc7 hk7 hvc dX7_shorts_18 ?_
    obtain ⟨b8, ho8, hc8, hk8, hF⟩ := dr_some hF
    refine W_st (st' := [.ref (ad b8), .int s2.1]) (by rw [va_some ho8]) ?_
    refine va_get (D := D) (ci := 4) (v := .int (M.1 b8 10)) (C := RX4) (T := TX4) (N := 18) hx hb hts (by decide +kernel) hown hK hP b8 (wld_o ct ad G M hc8 hk8 (by decide)) rfl 10 (by decide) (hts (.fieldLink RX7 123 "VideoSuite$Picture" "use" "I") (by decide +kernel)) (fun _ h9 => h9) rfl dX7_shorts_19 ?_
    obtain ⟨x9, ex9, hF⟩ := ltt_some hF
    refine lv_topi (fun zx9 ezx9 => ?_)
    obtain rfl : x9 = zx9 := ex9.trans ezx9.symm
    refine lv_iconst (v := (1 : Int32)) hx hb dX7_shorts_22 (by decide) ?_
    obtain ⟨y10, hy10, hF⟩ := bnd_some hF
    have J10 : ∀ (H : Heap) (locs : List Loc) (ls : Array Slot), va_P D classes (wld ct ad G M) H → va_D A (wld ct ad G M) → va_S A s.heap H locs → lv_has ls 3 [(2, .int s2.2), (1, .int s2.1), (0, .ref (ad a))] → W p l e (headSpec wsX7_shorts ({ frames := 0, cells := 0, slots := 0, locals := 0 })).room s m ([.ref (ad a)] : List Value).toArray below meth c H locs 0 0 (MQ below (va_Qi (fun (q : Int32) (_ : Unit) => q = y.2) (fun _ t => kE D ct ad G A y.1 t) A) ([.ref (ad a)] : List Value).toArray s 0 0 A) (F0 m 31 ls [.int y10, .int s2.1]) := by
      intro H locs ls hP hD hS hl
      refine lv_iadd hx hb dX7_shorts_31 ?_
      obtain ⟨x11, ex11, hF⟩ := ltt_some hF
      refine lv_topi (fun zx11 ezx11 => ?_)
      obtain rfl : x11 = zx11 := ex11.trans ezx11.symm
      refine lv_istore_n (lv' := [(1, .int x11), (2, .int s2.2), (0, .ref (ad a))]) hx hb dX7_shorts_32 rfl hl (by decide) rfl (fun ls hl => ?_)
      obtain ⟨x12, ex12, hF⟩ := ltt_some hF
      refine lv_iinc (v := x12) (lv' := [(2, .int x12), (1, .int x11), (0, .ref (ad a))]) hx hb dX7_shorts_33 hl (k := 1) rfl (by rw [ex12]; rfl) (by decide) rfl (fun ls hl => ?_)
      refine lv_goto (tgt := 4) hx hb dX7_shorts_36 (by decide) ?_
      obtain rfl := Option.some.inj hF
      exact hwz4 _ _ _ hP hD hS (lv_sub hl [0, 1, 2] rfl)
    clear hF
    have hF := hy10
    clear hy10
    refine lv_icmp_ne (tgt := 30) hx hb dX7_shorts_23 (by decide) (fun c13 => ?_) (fun c13 => ?_)
    · rw [if_neg c13] at hF
      refine lv_iconst (v := (0 : Int32)) hx hb dX7_shorts_30 (by decide) ?_
      obtain rfl := Option.some.inj hF
      exact J10 _ _ _ hP hD hS (lv_sub hl [0, 1, 2] rfl)
    · rw [if_pos c13] at hF
      refine lv_iconst (v := (1 : Int32)) hx hb dX7_shorts_26 (by decide) ?_
      refine lv_goto (tgt := 31) hx hb dX7_shorts_27 (by decide) ?_
      obtain rfl := Option.some.inj hF
      exact J10 _ _ _ hP hD hS (lv_sub hl [0, 1, 2] rfl)
theorem ggX7_slide_X7_leastShort : GoodIn wsX7_slide wsX7_leastShort := goodIn_r _ [5, 6, 7, 8, 9, 10, 4, 11, 12, 21, 22, 23, 24, 25, 26, 27, 28, 29, 30, 31, 32, 33, 34, 35, 36, 37, 38, 39, 40, 41, 42, 43, 44, 45, 46, 47, 48, 49, 50, 51, 52, 53, 54, 55] (by decide +kernel) (by decide +kernel)
set_option maxRecDepth 20000 in
theorem gX7_slide_X7_leastShort : GoodIn wsX7_slide (wsV RX7 156 RX7 yX7_leastShort wsX7_leastShort) := goodIn_app (goodIn_of _ (by decide +kernel)) ggX7_slide_X7_leastShort
set_option maxRecDepth 20000 in
theorem ggX7_slide_X7_references : GoodIn wsX7_slide wsX7_references := goodIn_r _ [16, 6, 7, 8, 21, 22, 23, 24, 25, 26, 27, 28, 29, 30, 31, 32, 33, 34, 35, 36, 37, 38, 39, 40, 41, 42, 43, 44, 45, 46, 47, 48, 49, 50, 51, 52, 53, 54, 55] (by decide +kernel) (by decide +kernel)
set_option maxRecDepth 20000 in
theorem gX7_slide_X7_references : GoodIn wsX7_slide (wsV RX7 160 RX7 yX7_references wsX7_references) := goodIn_app (goodIn_of _ (by decide +kernel)) ggX7_slide_X7_references
set_option maxRecDepth 20000 in
theorem ggX7_slide_X7_release : GoodIn wsX7_slide wsX7_release := goodIn_r _ [19, 8, 20, 38, 39, 40, 41, 42, 43, 44, 45, 46, 47, 48, 49, 50, 51, 52, 53, 54, 55] (by decide +kernel) (by decide +kernel)
set_option maxRecDepth 20000 in
theorem gX7_slide_X7_release : GoodIn wsX7_slide (va_wsS RX7 152 yX7_release wsX7_release) := goodIn_app (goodIn_of _ (by decide +kernel)) ggX7_slide_X7_release
theorem dX7_slide_0 : decode cX7_slide 0 = .ok (.aload_n 0, 1) := by decide +kernel
theorem dX7_slide_1 : decode cX7_slide 1 = .ok (.iload_n 1, 1) := by decide +kernel
theorem dX7_slide_2 : decode cX7_slide 2 = .ok (.iload_n 2, 1) := by decide +kernel
theorem dX7_slide_3 : decode cX7_slide 3 = .ok (.invokevirtual 156, 3) := by decide +kernel
theorem dX7_slide_6 : decode cX7_slide 6 = .ok (.astore 4, 2) := by decide +kernel
theorem dX7_slide_8 : decode cX7_slide 8 = .ok (.aload_n 0, 1) := by decide +kernel
theorem dX7_slide_9 : decode cX7_slide 9 = .ok (.invokevirtual 160, 3) := by decide +kernel
theorem dX7_slide_12 : decode cX7_slide 12 = .ok (.iload_n 3, 1) := by decide +kernel
theorem dX7_slide_13 : decode cX7_slide 13 = .ok (.if_icmp .lt 13, 3) := by decide +kernel
theorem dX7_slide_16 : decode cX7_slide 16 = .ok (.aload 4, 2) := by decide +kernel
theorem dX7_slide_18 : decode cX7_slide 18 = .ok (.ifnull 8, 3) := by decide +kernel
theorem dX7_slide_21 : decode cX7_slide 21 = .ok (.aload 4, 2) := by decide +kernel
theorem dX7_slide_23 : decode cX7_slide 23 = .ok (.invokestatic 152, 3) := by decide +kernel
theorem dX7_slide_26 : decode cX7_slide 26 = .ok (.return_, 1) := by decide +kernel
def FX7_slide (G : GG) (M : DD) (a : Nat) (p0 : Int32) (p1 : Int32) (p2 : Int32) : Option (DD) :=
  bnd (FX7_leastShort G M a p0 p1) fun y1 =>
  bnd (FX7_references G y1.1 a) fun y2 =>
  bnd (if y2.2 < p2 then (some (y2.1)) else
  (bnd (if y1.2 = none then (some (y2.1)) else
  (bnd (FX7_release G y2.1 y1.2) fun y7 =>
  some (y7))) fun (y5 : DD) =>
  some (y5))) fun (y3 : DD) =>
  some y3
set_option maxHeartbeats 4000000 in
set_option maxRecDepth 100000 in
theorem kX7_slide (l : Launch) (D : va_G) (ct : CT) (ad : Nat → Nat) (Z : Nat → Nat) (G : GG) (M : DD) (sz : Nat) (a : Nat) (p0 : Int32) (p1 : Int32) (p2 : Int32) (y : DD) (hc : a < G.1) (hk : G.2.1 a = 7) (hF : FX7_slide G M a p0 p1 p2 = some y) : Met l yX7_slide wsX7_slide ({ frames := 2, cells := 0, slots := 0, locals := 47 }) (va_Pc [.ref (ad a), .int p0, .int p1, .int p2] (kB D ct ad Z G M sz)) (va_Qv (fun (_ : Unit) => True) (fun _ t => kE D ct ad G (wA ad G sz) y t) (wA ad G sz)) 0 0 (wA ad G sz) := by
  refine Met.ofW (cc := cX7_slide) (maxL := 5) (ret := none) (by decide) rfl ?_
  intro p e s m args below meth c s₁ B hml hv
  obtain ⟨rfl, hsz, hP, hK, hD0, hZ, hN⟩ := hv
  have hx := B.exec
  have hb := B.bytes
  have hr := B.returns
  have hts := atoms_spec (ws := wsX7_slide) B.pre
  have hown : s.vm.findClass RX7 = some m.cls := findClass_of_methodNamed B.named
  have hlocks := B.notSynchronized
  subst hsz
  have hD := wD_self (sz := s.heap.size) hD0
  have hA9 : ∀ q, s.heap.size ≤ q → wA ad G s.heap.size q := fun q h => Or.inr h
  generalize hAe : wA ad G s.heap.size = A at hD hA9 hZ ⊢
  have hS : va_S A s.heap s.heap [] := va_S.rf
  have hl := lv_entry ([.ref (ad a), .int p0, .int p1, .int p2]) (n := 5) (Nat.le_of_ble_eq_true rfl)
  rw [lg_entry_eq]
  generalize (lg_sl ([.ref (ad a), .int p0, .int p1, .int p2]) ++ List.replicate (5 - (lg_sl ([.ref (ad a), .int p0, .int p1, .int p2])).length) Slot.unset).toArray = ls at hl ⊢
  have hl : lv_has ls 5 [(0, .ref (ad a)), (1, .int p0), (2, .int p1), (3, .int p2)] := hl
  unfold FX7_slide at hF
  refine lv_aload_n hx hb dX7_slide_0 rfl (lv_at hl 0 rfl) ?_
  refine lv_iload_n hx hb dX7_slide_1 rfl (lv_at hl 1 rfl) ?_
  refine lv_iload_n hx hb dX7_slide_2 rfl (lv_at hl 2 rfl) ?_
  obtain ⟨y1, hy1, hF⟩ := bnd_some hF
  have hf9 := wA_in hD hA9 hS
  refine va_calle (va_runV (As := [.int p0, .int p1]) (rest := []) ⟨hx, hb, hml, hown, hts⟩ (kX7_leastShort l D ct ad Z G M s.heap.size a p0 p1 y1 hc hk hy1) (cwV 2 hts gX7_slide_X7_leastShort rfl rfl rfl (by decide +kernel) ⟨Nat.le_of_ble_eq_true rfl, Nat.le_of_ble_eq_true rfl⟩) ⟨fun a U g mk q => by obtain ⟨q0, q1, qP, qK, qD, qZ, qN⟩ := q; exact ⟨q0, q1, qP, va_K.moved (u := U) (U := U.calling g mk a) (Vm.Alike.refl U.vm) qK, qD, sF.moved (u := U) (U := U.calling g mk a) (Vm.Alike.refl U.vm) qZ, nF.same rfl qN⟩, va_recv hK hP (ci := 7) (q0 := a) rfl (wld_o ct ad G M hc hk (by decide)), fun U hU hW => ⟨rfl, by rw [hU], by rw [hU]; exact hP, va_K.moved hW.alike hK, hD.weaken (fun _ _ _ _ => trivial), by rw [hU]; exact ((hZ.kept hS.2.1).narrow hf9).moved hW.alike, hN.warm hW⟩⟩ rfl rfl hl.1 rfl (lv_room (Nat.le_of_ble_eq_true rfl)) dX7_slide_3 ⟨(Nat.zero_le _), (Nat.zero_le _)⟩) hS (fun q _ h => hf9 q h) hf9 (fun r u t H locs ht hvm hw hB hz1 hk1 hS => ?_)
  obtain ⟨hP, hK9, hD9⟩ := hB
  rw [ht] at hP
  try dsimp only at hw
  subst hw
  have hD := hD9.weaken (fun _ q _ h => hf9 q.1 h)
  refine lv_astoreq (lv' := [(4, va_re ad y1.2), (0, .ref (ad a)), (1, .int p0), (2, .int p1), (3, .int p2)]) hx hb dX7_slide_6 hl (by decide) rfl (fun ls hl => ?_)
  refine lv_aload_n hx hb dX7_slide_8 rfl (lv_at hl 1 rfl) ?_
  obtain ⟨y2, hy2, hF⟩ := bnd_some hF
  have hf9 := wA_in hD hA9 hS
  refine va_calli (va_runV (As := []) (rest := []) ⟨hx, hb, hml, hown, hts⟩ (kX7_references l D ct ad Z G y1.1 H.size a y2 hc hk hy2) (cwV 0 hts gX7_slide_X7_references rfl rfl rfl (by decide +kernel) ⟨Nat.le_of_ble_eq_true rfl, Nat.le_of_ble_eq_true rfl⟩) ⟨fun a U g mk q => by obtain ⟨q0, q1, qP, qK, qD, qZ, qN⟩ := q; exact ⟨q0, q1, qP, va_K.moved (u := U) (U := U.calling g mk a) (Vm.Alike.refl U.vm) qK, qD, sF.moved (u := U) (U := U.calling g mk a) (Vm.Alike.refl U.vm) qZ, nF.same rfl qN⟩, va_recv hK hP (ci := 7) (q0 := a) rfl (wld_o ct ad G y1.1 hc hk (by decide)), fun U hU hW => ⟨rfl, by rw [hU], by rw [hU]; exact hP, va_K.moved hW.alike hK, hD.weaken (fun _ _ _ _ => trivial), by rw [hU]; exact ((hZ.kept hS.2.1).narrow hf9).moved hW.alike, hN.warm hW⟩⟩ rfl rfl hl.1 rfl (lv_room (Nat.le_of_ble_eq_true rfl)) dX7_slide_9 ⟨(Nat.zero_le _), (Nat.zero_le _)⟩) hS (fun q _ h => hf9 q h) hf9 (fun r u t H locs ht hvm hw hB hz1 hk1 hS => ?_)
  obtain ⟨hP, hK9, hD9⟩ := hB
  rw [ht] at hP
  try dsimp only at hw
  subst hw
  have hD := hD9.weaken (fun _ q _ h => hf9 q.1 h)
  refine lv_iload_n hx hb dX7_slide_12 rfl (lv_at hl 4 rfl) ?_
  obtain ⟨y3, hy3, hF⟩ := bnd_some hF
  have J3 : ∀ (H : Heap) (locs : List Loc) (ls : Array Slot), va_P D classes (wld ct ad G y3) H → va_D A (wld ct ad G y3) → va_S A s.heap H locs → lv_has ls 5 [(4, va_re ad y1.2), (0, .ref (ad a)), (1, .int p0), (2, .int p1), (3, .int p2)] → W p l e (headSpec wsX7_slide ({ frames := 2, cells := 0, slots := 0, locals := 47 })).room s m ([.ref (ad a), .int p0, .int p1, .int p2] : List Value).toArray below meth c H locs 0 0 (MQ below (va_Qv (fun (_ : Unit) => True) (fun _ t => kE D ct ad G A y t) A) ([.ref (ad a), .int p0, .int p1, .int p2] : List Value).toArray s 0 0 A) (F0 m 26 ls []) := by
    intro H locs ls hP hD hS hl
    obtain rfl := Option.some.inj hF
    exact W.vret hx hb hr (fun t ht hW => ⟨⟨(), rfl, trivial, ⟨by rw [ht]; exact hP, va_K.moved hW.alike hK, hD⟩⟩, hS.F ht⟩) hS.2.2 dX7_slide_26
  clear hF
  have hF := hy3
  clear hy3
  refine lv_icmp_lt (tgt := 26) hx hb dX7_slide_13 (by decide) (fun c4 => ?_) (fun c4 => ?_)
  · rw [if_pos c4] at hF
    obtain rfl := Option.some.inj hF
    exact J3 _ _ _ hP hD hS (lv_sub hl [0, 1, 2, 3, 4] rfl)
  · rw [if_neg c4] at hF
    refine lv_aloadq hx hb dX7_slide_16 (lv_at hl 0 rfl) ?_
    obtain ⟨y5, hy5, hF⟩ := bnd_some hF
    have J5 : ∀ (H : Heap) (locs : List Loc) (ls : Array Slot), va_P D classes (wld ct ad G y5) H → va_D A (wld ct ad G y5) → va_S A s.heap H locs → lv_has ls 5 [(4, va_re ad y1.2), (0, .ref (ad a)), (1, .int p0), (2, .int p1), (3, .int p2)] → W p l e (headSpec wsX7_slide ({ frames := 2, cells := 0, slots := 0, locals := 47 })).room s m ([.ref (ad a), .int p0, .int p1, .int p2] : List Value).toArray below meth c H locs 0 0 (MQ below (va_Qv (fun (_ : Unit) => True) (fun _ t => kE D ct ad G A y t) A) ([.ref (ad a), .int p0, .int p1, .int p2] : List Value).toArray s 0 0 A) (F0 m 26 ls []) := by
      intro H locs ls hP hD hS hl
      obtain rfl := Option.some.inj hF
      exact J3 _ _ _ hP hD hS (lv_sub hl [0, 1, 2, 3, 4] rfl)
    clear hF
    have hF := hy5
    clear hy5
    refine lv_ifnullq (tgt := 26) hx hb dX7_slide_18 (by decide) (fun c6 => ?_) (fun c6 => ?_)
    · rw [if_pos c6] at hF
      obtain rfl := Option.some.inj hF
      exact J5 _ _ _ hP hD hS (lv_sub hl [0, 1, 2, 3, 4] rfl)
    · rw [if_neg c6] at hF
      refine lv_aloadq hx hb dX7_slide_21 (lv_at hl 0 rfl) ?_
      obtain ⟨y7, hy7, hF⟩ := bnd_some hF
      have hf9 := wA_in hD hA9 hS
      refine va_callv (va_runS (As := [va_re ad y1.2]) (rest := []) ⟨hx, hb, hml, hown, hts⟩ (kX7_release l D ct ad Z G y2.1 H.size y1.2 y7 hy7) (va_cwS 1 hts gX7_slide_X7_release rfl rfl rfl (by decide +kernel) ⟨Nat.le_of_ble_eq_true rfl, Nat.le_of_ble_eq_true rfl⟩) ⟨fun a U g mk q => by obtain ⟨q0, q1, qP, qK, qD, qZ, qN⟩ := q; exact ⟨q0, q1, qP, va_K.moved (u := U) (U := U.calling g mk a) (Vm.Alike.refl U.vm) qK, qD, sF.moved (u := U) (U := U.calling g mk a) (Vm.Alike.refl U.vm) qZ, nF.same rfl qN⟩, fun U hU hW => ⟨rfl, by rw [hU], by rw [hU]; exact hP, va_K.moved hW.alike hK, hD.weaken (fun _ _ _ _ => trivial), by rw [hU]; exact ((hZ.kept hS.2.1).narrow hf9).moved hW.alike, hN.warm hW⟩⟩ rfl rfl hl.1 rfl (lv_room (Nat.le_of_ble_eq_true rfl)) dX7_slide_23 ⟨(Nat.zero_le _), (Nat.zero_le _)⟩) hS (fun q _ h => hf9 q h) hf9 (fun u t H locs ht hvm hw hB hz1 hk1 hS => ?_)
      obtain ⟨hP, hK9, hD9⟩ := hB
      rw [ht] at hP
      have hD := hD9.weaken (fun _ q _ h => hf9 q.1 h)
      obtain rfl := Option.some.inj hF
      exact J5 _ _ _ hP hD hS (lv_sub hl [0, 1, 2, 3, 4] rfl)
theorem dX7_sweep_0 : decode cX7_sweep 0 = .ok (.iconst 0, 1) := by decide +kernel
theorem dX7_sweep_1 : decode cX7_sweep 1 = .ok (.istore_n 1, 1) := by decide +kernel
theorem dX7_sweep_2 : decode cX7_sweep 2 = .ok (.iconst 0, 1) := by decide +kernel
theorem dX7_sweep_3 : decode cX7_sweep 3 = .ok (.istore_n 2, 1) := by decide +kernel
theorem dX7_sweep_4 : decode cX7_sweep 4 = .ok (.iload_n 2, 1) := by decide +kernel
theorem dX7_sweep_5 : decode cX7_sweep 5 = .ok (.aload_n 0, 1) := by decide +kernel
theorem dX7_sweep_6 : decode cX7_sweep 6 = .ok (.getfield 29, 3) := by decide +kernel
theorem dX7_sweep_9 : decode cX7_sweep 9 = .ok (.if_icmp .ge 40, 3) := by decide +kernel
theorem dX7_sweep_12 : decode cX7_sweep 12 = .ok (.aload_n 0, 1) := by decide +kernel
theorem dX7_sweep_13 : decode cX7_sweep 13 = .ok (.getfield 17, 3) := by decide +kernel
theorem dX7_sweep_16 : decode cX7_sweep 16 = .ok (.iload_n 2, 1) := by decide +kernel
theorem dX7_sweep_17 : decode cX7_sweep 17 = .ok (.aaload, 1) := by decide +kernel
theorem dX7_sweep_18 : decode cX7_sweep 18 = .ok (.astore_n 3, 1) := by decide +kernel
theorem dX7_sweep_19 : decode cX7_sweep 19 = .ok (.aload_n 3, 1) := by decide +kernel
theorem dX7_sweep_20 : decode cX7_sweep 20 = .ok (.getfield 123, 3) := by decide +kernel
theorem dX7_sweep_23 : decode cX7_sweep 23 = .ok (.ifCond .ne 10, 3) := by decide +kernel
theorem dX7_sweep_26 : decode cX7_sweep 26 = .ok (.aload_n 3, 1) := by decide +kernel
theorem dX7_sweep_27 : decode cX7_sweep 27 = .ok (.getfield 164, 3) := by decide +kernel
theorem dX7_sweep_30 : decode cX7_sweep 30 = .ok (.ifCond .eq 13, 3) := by decide +kernel
theorem dX7_sweep_33 : decode cX7_sweep 33 = .ok (.aload_n 0, 1) := by decide +kernel
theorem dX7_sweep_34 : decode cX7_sweep 34 = .ok (.getfield 17, 3) := by decide +kernel
theorem dX7_sweep_37 : decode cX7_sweep 37 = .ok (.iload_n 1, 1) := by decide +kernel
theorem dX7_sweep_38 : decode cX7_sweep 38 = .ok (.aload_n 3, 1) := by decide +kernel
theorem dX7_sweep_39 : decode cX7_sweep 39 = .ok (.aastore, 1) := by decide +kernel
theorem dX7_sweep_40 : decode cX7_sweep 40 = .ok (.iinc 1 1, 3) := by decide +kernel
theorem dX7_sweep_43 : decode cX7_sweep 43 = .ok (.iinc 2 1, 3) := by decide +kernel
theorem dX7_sweep_46 : decode cX7_sweep 46 = .ok (.goto (-42), 3) := by decide +kernel
theorem dX7_sweep_49 : decode cX7_sweep 49 = .ok (.iload_n 1, 1) := by decide +kernel
theorem dX7_sweep_50 : decode cX7_sweep 50 = .ok (.istore_n 2, 1) := by decide +kernel
theorem dX7_sweep_51 : decode cX7_sweep 51 = .ok (.iload_n 2, 1) := by decide +kernel
theorem dX7_sweep_52 : decode cX7_sweep 52 = .ok (.aload_n 0, 1) := by decide +kernel
theorem dX7_sweep_53 : decode cX7_sweep 53 = .ok (.getfield 29, 3) := by decide +kernel
theorem dX7_sweep_56 : decode cX7_sweep 56 = .ok (.if_icmp .ge 16, 3) := by decide +kernel
theorem dX7_sweep_59 : decode cX7_sweep 59 = .ok (.aload_n 0, 1) := by decide +kernel
theorem dX7_sweep_60 : decode cX7_sweep 60 = .ok (.getfield 17, 3) := by decide +kernel
theorem dX7_sweep_63 : decode cX7_sweep 63 = .ok (.iload_n 2, 1) := by decide +kernel
theorem dX7_sweep_64 : decode cX7_sweep 64 = .ok (.aconst_null, 1) := by decide +kernel
theorem dX7_sweep_65 : decode cX7_sweep 65 = .ok (.aastore, 1) := by decide +kernel
theorem dX7_sweep_66 : decode cX7_sweep 66 = .ok (.iinc 2 1, 3) := by decide +kernel
theorem dX7_sweep_69 : decode cX7_sweep 69 = .ok (.goto (-18), 3) := by decide +kernel
theorem dX7_sweep_72 : decode cX7_sweep 72 = .ok (.aload_n 0, 1) := by decide +kernel
theorem dX7_sweep_73 : decode cX7_sweep 73 = .ok (.iload_n 1, 1) := by decide +kernel
theorem dX7_sweep_74 : decode cX7_sweep 74 = .ok (.putfield 29, 3) := by decide +kernel
theorem dX7_sweep_77 : decode cX7_sweep 77 = .ok (.return_, 1) := by decide +kernel
def FX7_sweep (G : GG) (M : DD) (a : Nat)  : Option (DD) :=
  bnd (itr (fun (s2 : Int32 × Int32 × DD) => ((ltt (s2.2.2.1 a 3) fun x15 =>
  if x15 ≤ s2.2.1 then (some (.inr (s2.1, s2.2.1, s2.2.2))) else
  (dr G 14 ((s2.2.2.2 a 2)) fun b17 =>
  chk (¬ (s2.2.1 < 0 ∨ G.2.2 b17 ≤ s2.2.1.toNatClampNeg)) <|
  dr G 4 ((s2.2.2.2 b17 s2.2.1.toNatClampNeg)) fun b18 =>
  ltt (s2.2.2.1 b18 10) fun x19 =>
  bnd (if x19 = ((0 : Int32)) then (ltt (s2.2.2.1 b18 12) fun x25 =>
  bnd (if x25 = ((0 : Int32)) then (some (s2.1, s2.2.2)) else
  (chk (¬ (s2.1 < 0 ∨ G.2.2 b17 ≤ s2.1.toNatClampNeg)) <|
  chk (okr G 4 ((s2.2.2.2 b17 s2.2.1.toNatClampNeg)) = true) <|
  ltt (uP s2.2.2 b17 s2.1.toNatClampNeg ((s2.2.2.2 b17 s2.2.1.toNatClampNeg))) fun M28 =>
  ltt (s2.1 + (1 : Int32)) fun x29 =>
  some (x29, M28))) fun (y26 : Int32 × DD) =>
  some (y26.1, y26.2)) else
  (chk (¬ (s2.1 < 0 ∨ G.2.2 b17 ≤ s2.1.toNatClampNeg)) <|
  chk (okr G 4 ((s2.2.2.2 b17 s2.2.1.toNatClampNeg)) = true) <|
  ltt (uP s2.2.2 b17 s2.1.toNatClampNeg ((s2.2.2.2 b17 s2.2.1.toNatClampNeg))) fun M23 =>
  ltt (s2.1 + (1 : Int32)) fun x24 =>
  some (x24, M23))) fun (y20 : Int32 × DD) =>
  ltt (s2.2.1 + (1 : Int32)) fun x21 =>
  some (.inl (y20.1, x21, y20.2)))) : Option ((Int32 × Int32 × DD) ⊕ (Int32 × Int32 × DD)))) 1000000 ((0 : Int32), (0 : Int32), M)) fun (y1 : Int32 × Int32 × DD) =>
  bnd (itr (fun (s5 : Int32 × DD) => ((ltt (s5.2.1 a 3) fun x9 =>
  if x9 ≤ s5.1 then (some (.inr (s5.1, s5.2))) else
  (dr G 14 ((s5.2.2 a 2)) fun b11 =>
  chk (¬ (s5.1 < 0 ∨ G.2.2 b11 ≤ s5.1.toNatClampNeg)) <|
  chk (okr G 4 none = true) <|
  ltt (uP s5.2 b11 s5.1.toNatClampNeg none) fun M12 =>
  ltt (s5.1 + (1 : Int32)) fun x13 =>
  some (.inl (x13, M12)))) : Option ((Int32 × DD) ⊕ (Int32 × DD)))) 1000000 (y1.1, y1.2.2)) fun (y4 : Int32 × DD) =>
  ltt (uI y4.2 a 3 y1.1) fun M7 =>
  some M7
set_option maxHeartbeats 4000000 in
set_option maxRecDepth 100000 in
theorem kX7_sweep (l : Launch) (D : va_G) (ct : CT) (ad : Nat → Nat) (Z : Nat → Nat) (G : GG) (M : DD) (sz : Nat) (a : Nat)  (y : DD) (hc : a < G.1) (hk : G.2.1 a = 7) (hF : FX7_sweep G M a  = some y) : Met l yX7_sweep wsX7_sweep ({ frames := 0, cells := 0, slots := 0, locals := 0 }) (va_Pc [.ref (ad a)] (kB D ct ad Z G M sz)) (va_Qv (fun (_ : Unit) => True) (fun _ t => kE D ct ad G (wA ad G sz) y t) (wA ad G sz)) 0 0 (wA ad G sz) := by
  refine Met.ofW (cc := cX7_sweep) (maxL := 4) (ret := none) (by decide) rfl ?_
  intro p e s m args below meth c s₁ B hml hv
  obtain ⟨rfl, hsz, hP, hK, hD0, hZ, hN⟩ := hv
  have hx := B.exec
  have hb := B.bytes
  have hr := B.returns
  have hts := atoms_spec (ws := wsX7_sweep) B.pre
  have hown : s.vm.findClass RX7 = some m.cls := findClass_of_methodNamed B.named
  have hlocks := B.notSynchronized
  subst hsz
  have hD := wD_self (sz := s.heap.size) hD0
  have hA9 : ∀ q, s.heap.size ≤ q → wA ad G s.heap.size q := fun q h => Or.inr h
  generalize hAe : wA ad G s.heap.size = A at hD hA9 hZ ⊢
  have hS : va_S A s.heap s.heap [] := va_S.rf
  have hl := lv_entry ([.ref (ad a)]) (n := 4) (Nat.le_of_ble_eq_true rfl)
  rw [lg_entry_eq]
  generalize (lg_sl ([.ref (ad a)]) ++ List.replicate (4 - (lg_sl ([.ref (ad a)])).length) Slot.unset).toArray = ls at hl ⊢
  have hl : lv_has ls 4 [(0, .ref (ad a))] := hl
  unfold FX7_sweep at hF
  refine lv_iconst (v := (0 : Int32)) hx hb dX7_sweep_0 (by decide) ?_
  refine lv_istore_n (lv' := [(1, .int (0 : Int32)), (0, .ref (ad a))]) hx hb dX7_sweep_1 rfl hl (by decide) rfl (fun ls hl => ?_)
  refine lv_iconst (v := (0 : Int32)) hx hb dX7_sweep_2 (by decide) ?_
  refine lv_istore_n (lv' := [(2, .int (0 : Int32)), (1, .int (0 : Int32)), (0, .ref (ad a))]) hx hb dX7_sweep_3 rfl hl (by decide) rfl (fun ls hl => ?_)
  obtain ⟨y1, hy1, hF⟩ := bnd_some hF
  have K1 : ∀ (H : Heap) (locs : List Loc) (ls : Array Slot), va_P D classes (wld ct ad G y1.2.2) H → va_D A (wld ct ad G y1.2.2) → va_S A s.heap H locs → lv_has ls 4 [(2, .int y1.2.1), (1, .int y1.1), (0, .ref (ad a))] → W p l e (headSpec wsX7_sweep ({ frames := 0, cells := 0, slots := 0, locals := 0 })).room s m ([.ref (ad a)] : List Value).toArray below meth c H locs 0 0 (MQ below (va_Qv (fun (_ : Unit) => True) (fun _ t => kE D ct ad G A y t) A) ([.ref (ad a)] : List Value).toArray s 0 0 A) (F0 m 49 ls []) := by
    intro H locs ls hP hD hS hl
    refine lv_iload_n hx hb dX7_sweep_49 rfl (lv_at hl 1 rfl) ?_
    refine lv_istore_n (lv' := [(2, .int y1.1), (1, .int y1.1), (0, .ref (ad a))]) hx hb dX7_sweep_50 rfl hl (by decide) rfl (fun ls hl => ?_)
    obtain ⟨y4, hy4, hF⟩ := bnd_some hF
    have K4 : ∀ (H : Heap) (locs : List Loc) (ls : Array Slot), va_P D classes (wld ct ad G y4.2) H → va_D A (wld ct ad G y4.2) → va_S A s.heap H locs → lv_has ls 4 [(2, .int y4.1), (1, .int y1.1), (0, .ref (ad a))] → W p l e (headSpec wsX7_sweep ({ frames := 0, cells := 0, slots := 0, locals := 0 })).room s m ([.ref (ad a)] : List Value).toArray below meth c H locs 0 0 (MQ below (va_Qv (fun (_ : Unit) => True) (fun _ t => kE D ct ad G A y t) A) ([.ref (ad a)] : List Value).toArray s 0 0 A) (F0 m 72 ls []) := by
      intro H locs ls hP hD hS hl
      refine lv_aload_n hx hb dX7_sweep_72 rfl (lv_at hl 2 rfl) ?_
      refine lv_iload_n hx hb dX7_sweep_73 rfl (lv_at hl 1 rfl) ?_
      refine va_put (D := D) (ci := 7) (v := .int y1.1) (ty := .int) (C := RX7) (T := TX7) (N := 17) hx hb hts (by decide +kernel) tyX7 tyX7_ok nmX7 hown hK hP hD hS a (wld_o ct ad G y4.2 hc hk (by decide)) rfl 3 (by decide) (hts (.fieldLink RX7 29 "VideoSuite$Store" "count" "I") (by decide +kernel)) (fun _ h9 => h9) rfl (by decide +kernel) rfl rfl (Nat.le_of_ble_eq_true rfl) dX7_sweep_74 (fun H locs hP hD hS => ?_)
      obtain ⟨M7, eM7, hF⟩ := ltt_some hF
      rw [set_oI ct ad G y4.2 hc hk (by decide) (by rfl), ← eM7] at hP hD
      obtain rfl := Option.some.inj hF
      exact W.vret hx hb hr (fun t ht hW => ⟨⟨(), rfl, trivial, ⟨by rw [ht]; exact hP, va_K.moved hW.alike hK, hD⟩⟩, hS.F ht⟩) hS.2.2 dX7_sweep_77
    clear hF
    refine itr_rule (fun (s5 : Int32 × DD) => ∀ (H : Heap) (locs : List Loc) (ls : Array Slot), va_P D classes (wld ct ad G s5.2) H → va_D A (wld ct ad G s5.2) → va_S A s.heap H locs → lv_has ls 4 [(2, .int s5.1), (1, .int y1.1), (0, .ref (ad a))] → W p l e (headSpec wsX7_sweep ({ frames := 0, cells := 0, slots := 0, locals := 0 })).room s m ([.ref (ad a)] : List Value).toArray below meth c H locs 0 0 (MQ below (va_Qv (fun (_ : Unit) => True) (fun _ t => kE D ct ad G A y t) A) ([.ref (ad a)] : List Value).toArray s 0 0 A) (F0 m 51 ls [])) ?_ _ _ hy4 _ _ _ hP hD hS (lv_sub hl [0, 1, 2] rfl)
    rintro s5 ⟨z8, hF, hwz8⟩ H locs ls hP hD hS hl
    try dsimp only at hF
    refine lv_iload_n hx hb dX7_sweep_51 rfl (lv_at hl 0 rfl) ?_
    refine lv_aload_n hx hb dX7_sweep_52 rfl (lv_at hl 2 rfl) ?_
    refine va_get (D := D) (ci := 7) (v := .int (s5.2.1 a 3)) (C := RX7) (T := TX7) (N := 17) hx hb hts (by decide +kernel) hown hK hP a (wld_o ct ad G s5.2 hc hk (by decide)) rfl 3 (by decide) (hts (.fieldLink RX7 29 "VideoSuite$Store" "count" "I") (by decide +kernel)) (fun _ h9 => h9) rfl dX7_sweep_53 ?_
    obtain ⟨x9, ex9, hF⟩ := ltt_some hF
    refine lv_topi (fun zx9 ezx9 => ?_)
    obtain rfl : x9 = zx9 := ex9.trans ezx9.symm
    refine lv_icmp_ge (tgt := 72) hx hb dX7_sweep_56 (by decide) (fun c10 => ?_) (fun c10 => ?_)
    · rw [if_pos c10] at hF
      obtain rfl := Option.some.inj hF
      subst hwz8
      exact K4 _ _ _ hP hD hS (lv_sub hl [0, 1, 2] rfl)
    · rw [if_neg c10] at hF
      refine lv_aload_n hx hb dX7_sweep_59 rfl (lv_at hl 2 rfl) ?_
      refine va_get (D := D) (ci := 7) (v := va_re ad (s5.2.2 a 2)) (C := RX7) (T := TX7) (N := 17) hx hb hts (by decide +kernel) hown hK hP a (wld_o ct ad G s5.2 hc hk (by decide)) rfl 2 (by decide) (hts (.fieldLink RX7 17 "VideoSuite$Store" "kept" "[LVideoSuite$Picture;") (by decide +kernel)) (fun _ h9 => h9) rfl dX7_sweep_60 ?_
      refine lv_iload_n hx hb dX7_sweep_63 rfl (lv_at hl 0 rfl) ?_
      refine lv_nullq (ad := ad) hx hb dX7_sweep_64 ?_
      obtain ⟨b11, ho11, hc11, hk11, hF⟩ := dr_some hF
      refine W_st (st' := [va_re ad none, .int s5.1, .ref (ad b11)]) (by rw [va_some ho11]) ?_
      obtain ⟨hvc, hF⟩ := chk_some hF
      obtain ⟨ho9, hF⟩ := chk_some hF
      refine st_q (o := none) hx hb hK hP hD hS hc11 hk11 ho9 hvc dX7_sweep_65 (fun H locs hP hD hS => ?_)
      obtain ⟨M12, eM12, hF⟩ := ltt_some hF
      rw [← eM12] at hP hD
      obtain ⟨x13, ex13, hF⟩ := ltt_some hF
      refine lv_iinc (v := x13) (lv' := [(2, .int x13), (1, .int y1.1), (0, .ref (ad a))]) hx hb dX7_sweep_66 hl (k := 0) rfl (by rw [ex13]; rfl) (by decide) rfl (fun ls hl => ?_)
      refine lv_goto (tgt := 51) hx hb dX7_sweep_69 (by decide) ?_
      obtain rfl := Option.some.inj hF
      exact hwz8 _ _ _ hP hD hS (lv_sub hl [0, 1, 2] rfl)
  clear hF
  refine itr_rule (fun (s2 : Int32 × Int32 × DD) => ∀ (H : Heap) (locs : List Loc) (ls : Array Slot), va_P D classes (wld ct ad G s2.2.2) H → va_D A (wld ct ad G s2.2.2) → va_S A s.heap H locs → lv_has ls 4 [(2, .int s2.2.1), (1, .int s2.1), (0, .ref (ad a))] → W p l e (headSpec wsX7_sweep ({ frames := 0, cells := 0, slots := 0, locals := 0 })).room s m ([.ref (ad a)] : List Value).toArray below meth c H locs 0 0 (MQ below (va_Qv (fun (_ : Unit) => True) (fun _ t => kE D ct ad G A y t) A) ([.ref (ad a)] : List Value).toArray s 0 0 A) (F0 m 4 ls [])) ?_ _ _ hy1 _ _ _ hP hD hS (lv_sub hl [0, 1, 2] rfl)
  rintro s2 ⟨z14, hF, hwz14⟩ H locs ls hP hD hS hl
  try dsimp only at hF
  refine lv_iload_n hx hb dX7_sweep_4 rfl (lv_at hl 0 rfl) ?_
  refine lv_aload_n hx hb dX7_sweep_5 rfl (lv_at hl 2 rfl) ?_
  refine va_get (D := D) (ci := 7) (v := .int (s2.2.2.1 a 3)) (C := RX7) (T := TX7) (N := 17) hx hb hts (by decide +kernel) hown hK hP a (wld_o ct ad G s2.2.2 hc hk (by decide)) rfl 3 (by decide) (hts (.fieldLink RX7 29 "VideoSuite$Store" "count" "I") (by decide +kernel)) (fun _ h9 => h9) rfl dX7_sweep_6 ?_
  obtain ⟨x15, ex15, hF⟩ := ltt_some hF
  refine lv_topi (fun zx15 ezx15 => ?_)
  obtain rfl : x15 = zx15 := ex15.trans ezx15.symm
  refine lv_icmp_ge (tgt := 49) hx hb dX7_sweep_9 (by decide) (fun c16 => ?_) (fun c16 => ?_)
  · rw [if_pos c16] at hF
    obtain rfl := Option.some.inj hF
    subst hwz14
    exact K1 _ _ _ hP hD hS (lv_sub hl [0, 1, 2] rfl)
  · rw [if_neg c16] at hF
    refine lv_aload_n hx hb dX7_sweep_12 rfl (lv_at hl 2 rfl) ?_
    refine va_get (D := D) (ci := 7) (v := va_re ad (s2.2.2.2 a 2)) (C := RX7) (T := TX7) (N := 17) hx hb hts (by decide +kernel) hown hK hP a (wld_o ct ad G s2.2.2 hc hk (by decide)) rfl 2 (by decide) (hts (.fieldLink RX7 17 "VideoSuite$Store" "kept" "[LVideoSuite$Picture;") (by decide +kernel)) (fun _ h9 => h9) rfl dX7_sweep_13 ?_
    refine lv_iload_n hx hb dX7_sweep_16 rfl (lv_at hl 0 rfl) ?_
    obtain ⟨b17, ho17, hc17, hk17, hF⟩ := dr_some hF
    refine W_st (st' := [.int s2.2.1, .ref (ad b17)]) (by rw [va_some ho17]) ?_
    obtain ⟨hvc, hF⟩ := chk_some hF
    refine ld_q hx hb hK hP hc17 hk17 hvc dX7_sweep_17 ?_
    refine lv_astoreq_n (lv' := [(3, va_re ad (s2.2.2.2 b17 s2.2.1.toNatClampNeg)), (2, .int s2.2.1), (1, .int s2.1), (0, .ref (ad a))]) hx hb dX7_sweep_18 rfl hl (by decide) rfl (fun ls hl => ?_)
    refine lv_aloadq_n hx hb dX7_sweep_19 rfl (lv_at hl 0 rfl) ?_
    obtain ⟨b18, ho18, hc18, hk18, hF⟩ := dr_some hF
    refine W_st (st' := [.ref (ad b18)]) (by rw [va_some ho18]) ?_
    refine va_get (D := D) (ci := 4) (v := .int (s2.2.2.1 b18 10)) (C := RX4) (T := TX4) (N := 18) hx hb hts (by decide +kernel) hown hK hP b18 (wld_o ct ad G s2.2.2 hc18 hk18 (by decide)) rfl 10 (by decide) (hts (.fieldLink RX7 123 "VideoSuite$Picture" "use" "I") (by decide +kernel)) (fun _ h9 => h9) rfl dX7_sweep_20 ?_
    obtain ⟨x19, ex19, hF⟩ := ltt_some hF
    refine lv_topi (fun zx19 ezx19 => ?_)
    obtain rfl : x19 = zx19 := ex19.trans ezx19.symm
    obtain ⟨y20, hy20, hF⟩ := bnd_some hF
    have J20 : ∀ (H : Heap) (locs : List Loc) (ls : Array Slot), va_P D classes (wld ct ad G y20.2) H → va_D A (wld ct ad G y20.2) → va_S A s.heap H locs → lv_has ls 4 [(3, va_re ad (s2.2.2.2 b17 s2.2.1.toNatClampNeg)), (2, .int s2.2.1), (1, .int y20.1), (0, .ref (ad a))] → W p l e (headSpec wsX7_sweep ({ frames := 0, cells := 0, slots := 0, locals := 0 })).room s m ([.ref (ad a)] : List Value).toArray below meth c H locs 0 0 (MQ below (va_Qv (fun (_ : Unit) => True) (fun _ t => kE D ct ad G A y t) A) ([.ref (ad a)] : List Value).toArray s 0 0 A) (F0 m 43 ls []) := by
      intro H locs ls hP hD hS hl
      obtain ⟨x21, ex21, hF⟩ := ltt_some hF
      refine lv_iinc (v := x21) (lv' := [(2, .int x21), (3, va_re ad (s2.2.2.2 b17 s2.2.1.toNatClampNeg)), (1, .int y20.1), (0, .ref (ad a))]) hx hb dX7_sweep_43 hl (k := 1) rfl (by rw [ex21]; rfl) (by decide) rfl (fun ls hl => ?_)
      refine lv_goto (tgt := 4) hx hb dX7_sweep_46 (by decide) ?_
      obtain rfl := Option.some.inj hF
      exact hwz14 _ _ _ hP hD hS (lv_sub hl [0, 2, 3] rfl)
    clear hF
    have hF := hy20
    clear hy20
    refine lv_if_ne (tgt := 33) hx hb dX7_sweep_23 (by decide) (fun c22 => ?_) (fun c22 => ?_)
    · rw [if_neg c22] at hF
      refine lv_aload_n hx hb dX7_sweep_33 rfl (lv_at hl 3 rfl) ?_
      refine va_get (D := D) (ci := 7) (v := va_re ad (s2.2.2.2 a 2)) (C := RX7) (T := TX7) (N := 17) hx hb hts (by decide +kernel) hown hK hP a (wld_o ct ad G s2.2.2 hc hk (by decide)) rfl 2 (by decide) (hts (.fieldLink RX7 17 "VideoSuite$Store" "kept" "[LVideoSuite$Picture;") (by decide +kernel)) (fun _ h9 => h9) rfl dX7_sweep_34 ?_
      refine lv_iload_n hx hb dX7_sweep_37 rfl (lv_at hl 2 rfl) ?_
      refine lv_aloadq_n hx hb dX7_sweep_38 rfl (lv_at hl 0 rfl) ?_
      refine W_st (st' := [va_re ad (s2.2.2.2 b17 s2.2.1.toNatClampNeg), .int s2.1, .ref (ad b17)]) (by rw [va_some ho17]) ?_
      obtain ⟨hvc, hF⟩ := chk_some hF
      obtain ⟨ho9, hF⟩ := chk_some hF
      refine st_q (o := ((s2.2.2.2 b17 s2.2.1.toNatClampNeg))) hx hb hK hP hD hS hc17 hk17 ho9 hvc dX7_sweep_39 (fun H locs hP hD hS => ?_)
      obtain ⟨M23, eM23, hF⟩ := ltt_some hF
      rw [← eM23] at hP hD
      obtain ⟨x24, ex24, hF⟩ := ltt_some hF
      refine lv_iinc (v := x24) (lv' := [(1, .int x24), (3, va_re ad (s2.2.2.2 b17 s2.2.1.toNatClampNeg)), (2, .int s2.2.1), (0, .ref (ad a))]) hx hb dX7_sweep_40 hl (k := 2) rfl (by rw [ex24]; rfl) (by decide) rfl (fun ls hl => ?_)
      obtain rfl := Option.some.inj hF
      exact J20 _ _ _ hP hD hS (lv_sub hl [1, 2, 0, 3] rfl)
    · rw [if_pos c22] at hF
      refine lv_aloadq_n hx hb dX7_sweep_26 rfl (lv_at hl 0 rfl) ?_
      refine W_st (st' := [.ref (ad b18)]) (by rw [va_some ho18]) ?_
      refine va_get (D := D) (ci := 4) (v := .int (s2.2.2.1 b18 12)) (C := RX4) (T := TX4) (N := 18) hx hb hts (by decide +kernel) hown hK hP b18 (wld_o ct ad G s2.2.2 hc18 hk18 (by decide)) rfl 12 (by decide) (hts (.fieldLink RX7 164 "VideoSuite$Picture" "isWaiting" "Z") (by decide +kernel)) (fun _ h9 => h9) rfl dX7_sweep_27 ?_
      obtain ⟨x25, ex25, hF⟩ := ltt_some hF
      refine lv_topi (fun zx25 ezx25 => ?_)
      obtain rfl : x25 = zx25 := ex25.trans ezx25.symm
      obtain ⟨y26, hy26, hF⟩ := bnd_some hF
      have J26 : ∀ (H : Heap) (locs : List Loc) (ls : Array Slot), va_P D classes (wld ct ad G y26.2) H → va_D A (wld ct ad G y26.2) → va_S A s.heap H locs → lv_has ls 4 [(3, va_re ad (s2.2.2.2 b17 s2.2.1.toNatClampNeg)), (2, .int s2.2.1), (1, .int y26.1), (0, .ref (ad a))] → W p l e (headSpec wsX7_sweep ({ frames := 0, cells := 0, slots := 0, locals := 0 })).room s m ([.ref (ad a)] : List Value).toArray below meth c H locs 0 0 (MQ below (va_Qv (fun (_ : Unit) => True) (fun _ t => kE D ct ad G A y t) A) ([.ref (ad a)] : List Value).toArray s 0 0 A) (F0 m 43 ls []) := by
        intro H locs ls hP hD hS hl
        obtain rfl := Option.some.inj hF
        exact J20 _ _ _ hP hD hS (lv_sub hl [0, 1, 2, 3] rfl)
      clear hF
      have hF := hy26
      clear hy26
      refine lv_if_eq (tgt := 43) hx hb dX7_sweep_30 (by decide) (fun c27 => ?_) (fun c27 => ?_)
      · rw [if_pos c27] at hF
        obtain rfl := Option.some.inj hF
        exact J26 _ _ _ hP hD hS (lv_sub hl [0, 1, 2, 3] rfl)
      · rw [if_neg c27] at hF
        refine lv_aload_n hx hb dX7_sweep_33 rfl (lv_at hl 3 rfl) ?_
        refine va_get (D := D) (ci := 7) (v := va_re ad (s2.2.2.2 a 2)) (C := RX7) (T := TX7) (N := 17) hx hb hts (by decide +kernel) hown hK hP a (wld_o ct ad G s2.2.2 hc hk (by decide)) rfl 2 (by decide) (hts (.fieldLink RX7 17 "VideoSuite$Store" "kept" "[LVideoSuite$Picture;") (by decide +kernel)) (fun _ h9 => h9) rfl dX7_sweep_34 ?_
        refine lv_iload_n hx hb dX7_sweep_37 rfl (lv_at hl 2 rfl) ?_
        refine lv_aloadq_n hx hb dX7_sweep_38 rfl (lv_at hl 0 rfl) ?_
        refine W_st (st' := [va_re ad (s2.2.2.2 b17 s2.2.1.toNatClampNeg), .int s2.1, .ref (ad b17)]) (by rw [va_some ho17]) ?_
        obtain ⟨hvc, hF⟩ := chk_some hF
        obtain ⟨ho9, hF⟩ := chk_some hF
        refine st_q (o := ((s2.2.2.2 b17 s2.2.1.toNatClampNeg))) hx hb hK hP hD hS hc17 hk17 ho9 hvc dX7_sweep_39 (fun H locs hP hD hS => ?_)
        obtain ⟨M28, eM28, hF⟩ := ltt_some hF
        rw [← eM28] at hP hD
        obtain ⟨x29, ex29, hF⟩ := ltt_some hF
        refine lv_iinc (v := x29) (lv' := [(1, .int x29), (3, va_re ad (s2.2.2.2 b17 s2.2.1.toNatClampNeg)), (2, .int s2.2.1), (0, .ref (ad a))]) hx hb dX7_sweep_40 hl (k := 2) rfl (by rw [ex29]; rfl) (by decide) rfl (fun ls hl => ?_)
        obtain rfl := Option.some.inj hF
        exact J26 _ _ _ hP hD hS (lv_sub hl [1, 2, 0, 3] rfl)
theorem dX7_tellApart_0 : decode cX7_tellApart 0 = .ok (.iconst 0, 1) := by decide +kernel
theorem dX7_tellApart_1 : decode cX7_tellApart 1 = .ok (.istore_n 2, 1) := by decide +kernel
theorem dX7_tellApart_2 : decode cX7_tellApart 2 = .ok (.iload_n 2, 1) := by decide +kernel
theorem dX7_tellApart_3 : decode cX7_tellApart 3 = .ok (.iload_n 1, 1) := by decide +kernel
theorem dX7_tellApart_4 : decode cX7_tellApart 4 = .ok (.if_icmp .ge 28, 3) := by decide +kernel
theorem dX7_tellApart_7 : decode cX7_tellApart 7 = .ok (.iload_n 2, 1) := by decide +kernel
theorem dX7_tellApart_8 : decode cX7_tellApart 8 = .ok (.bipush 9, 2) := by decide +kernel
theorem dX7_tellApart_10 : decode cX7_tellApart 10 = .ok (.if_icmp .ge 22, 3) := by decide +kernel
theorem dX7_tellApart_13 : decode cX7_tellApart 13 = .ok (.aload_n 0, 1) := by decide +kernel
theorem dX7_tellApart_14 : decode cX7_tellApart 14 = .ok (.iload_n 2, 1) := by decide +kernel
theorem dX7_tellApart_15 : decode cX7_tellApart 15 = .ok (.aaload, 1) := by decide +kernel
theorem dX7_tellApart_16 : decode cX7_tellApart 16 = .ok (.aload_n 0, 1) := by decide +kernel
theorem dX7_tellApart_17 : decode cX7_tellApart 17 = .ok (.bipush 9, 2) := by decide +kernel
theorem dX7_tellApart_19 : decode cX7_tellApart 19 = .ok (.iload_n 2, 1) := by decide +kernel
theorem dX7_tellApart_20 : decode cX7_tellApart 20 = .ok (.iadd, 1) := by decide +kernel
theorem dX7_tellApart_21 : decode cX7_tellApart 21 = .ok (.aaload, 1) := by decide +kernel
theorem dX7_tellApart_22 : decode cX7_tellApart 22 = .ok (.if_acmp .eq 4, 3) := by decide +kernel
theorem dX7_tellApart_25 : decode cX7_tellApart 25 = .ok (.return_, 1) := by decide +kernel
theorem dX7_tellApart_26 : decode cX7_tellApart 26 = .ok (.iinc 2 1, 3) := by decide +kernel
theorem dX7_tellApart_29 : decode cX7_tellApart 29 = .ok (.goto (-27), 3) := by decide +kernel
theorem dX7_tellApart_32 : decode cX7_tellApart 32 = .ok (.iload_n 1, 1) := by decide +kernel
theorem dX7_tellApart_33 : decode cX7_tellApart 33 = .ok (.iconst 1, 1) := by decide +kernel
theorem dX7_tellApart_34 : decode cX7_tellApart 34 = .ok (.if_icmp .le 21, 3) := by decide +kernel
theorem dX7_tellApart_37 : decode cX7_tellApart 37 = .ok (.aload_n 0, 1) := by decide +kernel
theorem dX7_tellApart_38 : decode cX7_tellApart 38 = .ok (.bipush 9, 2) := by decide +kernel
theorem dX7_tellApart_40 : decode cX7_tellApart 40 = .ok (.aaload, 1) := by decide +kernel
theorem dX7_tellApart_41 : decode cX7_tellApart 41 = .ok (.astore_n 2, 1) := by decide +kernel
theorem dX7_tellApart_42 : decode cX7_tellApart 42 = .ok (.aload_n 0, 1) := by decide +kernel
theorem dX7_tellApart_43 : decode cX7_tellApart 43 = .ok (.bipush 9, 2) := by decide +kernel
theorem dX7_tellApart_45 : decode cX7_tellApart 45 = .ok (.aload_n 0, 1) := by decide +kernel
theorem dX7_tellApart_46 : decode cX7_tellApart 46 = .ok (.bipush 10, 2) := by decide +kernel
theorem dX7_tellApart_48 : decode cX7_tellApart 48 = .ok (.aaload, 1) := by decide +kernel
theorem dX7_tellApart_49 : decode cX7_tellApart 49 = .ok (.aastore, 1) := by decide +kernel
theorem dX7_tellApart_50 : decode cX7_tellApart 50 = .ok (.aload_n 0, 1) := by decide +kernel
theorem dX7_tellApart_51 : decode cX7_tellApart 51 = .ok (.bipush 10, 2) := by decide +kernel
theorem dX7_tellApart_53 : decode cX7_tellApart 53 = .ok (.aload_n 2, 1) := by decide +kernel
theorem dX7_tellApart_54 : decode cX7_tellApart 54 = .ok (.aastore, 1) := by decide +kernel
theorem dX7_tellApart_55 : decode cX7_tellApart 55 = .ok (.return_, 1) := by decide +kernel
def FX7_tellApart (G : GG) (M : DD) (p0 : Option Nat) (p1 : Int32) : Option (DD) :=
  bnd (itr (fun (s2 : Int32) => ((if p1 ≤ s2 then (some (.inr (.inl (s2)))) else
  (if ((9 : Int32)) ≤ s2 then (some (.inr (.inl (s2)))) else
  (dr G 14 p0 fun b12 =>
  chk (¬ (s2 < 0 ∨ G.2.2 b12 ≤ s2.toNatClampNeg)) <|
  ltt ((((9 : Int32)) + s2)) fun x13 =>
  chk (¬ (x13 < 0 ∨ G.2.2 b12 ≤ x13.toNatClampNeg)) <|
  chk (okd G ((M.2 b12 s2.toNatClampNeg)) = true ∧ okd G ((M.2 b12 x13.toNatClampNeg)) = true) <|
  if ((M.2 b12 s2.toNatClampNeg)) = ((M.2 b12 x13.toNatClampNeg)) then (ltt (s2 + (1 : Int32)) fun x15 =>
  some (.inl (x15))) else
  (some (.inr (.inr M)))))) : Option ((Int32) ⊕ ((Int32) ⊕ (DD))))) 1000000 ((0 : Int32))) fun (y1 : (Int32) ⊕ (DD)) =>
  sel y1 (fun (z1k : Int32) =>
  bnd (if p1 ≤ ((1 : Int32)) then (some (M)) else
  (dr G 14 p0 fun b6 =>
  chk (¬ (((9 : Int32)) < 0 ∨ G.2.2 b6 ≤ ((9 : Int32)).toNatClampNeg)) <|
  chk (¬ (((10 : Int32)) < 0 ∨ G.2.2 b6 ≤ ((10 : Int32)).toNatClampNeg)) <|
  chk (¬ (((9 : Int32)) < 0 ∨ G.2.2 b6 ≤ ((9 : Int32)).toNatClampNeg)) <|
  chk (okr G 4 ((M.2 b6 ((10 : Int32)).toNatClampNeg)) = true) <|
  ltt (uP M b6 ((9 : Int32)).toNatClampNeg ((M.2 b6 ((10 : Int32)).toNatClampNeg))) fun M7 =>
  chk (¬ (((10 : Int32)) < 0 ∨ G.2.2 b6 ≤ ((10 : Int32)).toNatClampNeg)) <|
  chk (okr G 4 ((M.2 b6 ((9 : Int32)).toNatClampNeg)) = true) <|
  ltt (uP M7 b6 ((10 : Int32)).toNatClampNeg ((M.2 b6 ((9 : Int32)).toNatClampNeg))) fun M8 =>
  some (M8))) fun (y4 : DD) =>
  some y4) fun r9 => some r9
set_option maxHeartbeats 4000000 in
set_option maxRecDepth 100000 in
theorem kX7_tellApart (l : Launch) (D : va_G) (ct : CT) (ad : Nat → Nat) (Z : Nat → Nat) (G : GG) (M : DD) (sz : Nat) (p0 : Option Nat) (p1 : Int32) (y : DD) (hF : FX7_tellApart G M p0 p1 = some y) : Met l yX7_tellApart wsX7_tellApart ({ frames := 0, cells := 0, slots := 0, locals := 0 }) (va_Pc [va_re ad p0, .int p1] (kB D ct ad Z G M sz)) (va_Qv (fun (_ : Unit) => True) (fun _ t => kE D ct ad G (wA ad G sz) y t) (wA ad G sz)) 0 0 (wA ad G sz) := by
  refine Met.ofW (cc := cX7_tellApart) (maxL := 3) (ret := none) (by decide) rfl ?_
  intro p e s m args below meth c s₁ B hml hv
  obtain ⟨rfl, hsz, hP, hK, hD0, hZ, hN⟩ := hv
  have hx := B.exec
  have hb := B.bytes
  have hr := B.returns
  have hts := atoms_spec (ws := wsX7_tellApart) B.pre
  have hown : s.vm.findClass RX7 = some m.cls := findClass_of_methodNamed B.named
  have hlocks := B.notSynchronized
  subst hsz
  have hD := wD_self (sz := s.heap.size) hD0
  have hA9 : ∀ q, s.heap.size ≤ q → wA ad G s.heap.size q := fun q h => Or.inr h
  generalize hAe : wA ad G s.heap.size = A at hD hA9 hZ ⊢
  have hS : va_S A s.heap s.heap [] := va_S.rf
  have hl := lv_entry ([va_re ad p0, .int p1]) (n := 3) (by cases p0 <;> exact Nat.le_of_ble_eq_true rfl)
  rw [lg_entry_eq]
  generalize (lg_sl ([va_re ad p0, .int p1]) ++ List.replicate (3 - (lg_sl ([va_re ad p0, .int p1])).length) Slot.unset).toArray = ls at hl ⊢
  have hl : lv_has ls 3 [(0, va_re ad p0), (1, .int p1)] := by have e9 : lv_args 0 [va_re ad p0, .int p1] = [(0, va_re ad p0), (1, .int p1)] := (by cases p0 <;> rfl); rw [e9] at hl; exact hl
  unfold FX7_tellApart at hF
  refine lv_iconst (v := (0 : Int32)) hx hb dX7_tellApart_0 (by decide) ?_
  refine lv_istore_n (lv' := [(2, .int (0 : Int32)), (0, va_re ad p0), (1, .int p1)]) hx hb dX7_tellApart_1 rfl hl (by decide) rfl (fun ls hl => ?_)
  obtain ⟨y1, hy1, hF⟩ := bnd_some hF
  have K1 : ∀ z1k : Int32, y1 = .inl z1k → ∀ (H : Heap) (locs : List Loc) (ls : Array Slot), va_P D classes (wld ct ad G M) H → va_D A (wld ct ad G M) → va_S A s.heap H locs → lv_has ls 3 [(2, .int z1k), (0, va_re ad p0), (1, .int p1)] → W p l e (headSpec wsX7_tellApart ({ frames := 0, cells := 0, slots := 0, locals := 0 })).room s m ([va_re ad p0, .int p1] : List Value).toArray below meth c H locs 0 0 (MQ below (va_Qv (fun (_ : Unit) => True) (fun _ t => kE D ct ad G A y t) A) ([va_re ad p0, .int p1] : List Value).toArray s 0 0 A) (F0 m 32 ls []) := by
    intro z1k hz1 H locs ls hP hD hS hl
    have hF := sel_inl (hz1 ▸ hF)
    refine lv_iload_n hx hb dX7_tellApart_32 rfl (lv_at hl 2 rfl) ?_
    refine lv_iconst (v := (1 : Int32)) hx hb dX7_tellApart_33 (by decide) ?_
    obtain ⟨y4, hy4, hF⟩ := bnd_some hF
    have J4 : ∀ (H : Heap) (locs : List Loc) (ls : Array Slot), va_P D classes (wld ct ad G y4) H → va_D A (wld ct ad G y4) → va_S A s.heap H locs → lv_has ls 3 [(0, va_re ad p0), (1, .int p1)] → W p l e (headSpec wsX7_tellApart ({ frames := 0, cells := 0, slots := 0, locals := 0 })).room s m ([va_re ad p0, .int p1] : List Value).toArray below meth c H locs 0 0 (MQ below (va_Qv (fun (_ : Unit) => True) (fun _ t => kE D ct ad G A y t) A) ([va_re ad p0, .int p1] : List Value).toArray s 0 0 A) (F0 m 55 ls []) := by
      intro H locs ls hP hD hS hl
      obtain rfl := Option.some.inj hF
      exact W.vret hx hb hr (fun t ht hW => ⟨⟨(), rfl, trivial, ⟨by rw [ht]; exact hP, va_K.moved hW.alike hK, hD⟩⟩, hS.F ht⟩) hS.2.2 dX7_tellApart_55
    clear hF
    have hF := hy4
    clear hy4
    refine lv_icmp_le (tgt := 55) hx hb dX7_tellApart_34 (by decide) (fun c5 => ?_) (fun c5 => ?_)
    · rw [if_pos c5] at hF
      obtain rfl := Option.some.inj hF
      exact J4 _ _ _ hP hD hS (lv_sub hl [1, 2] rfl)
    · rw [if_neg c5] at hF
      refine lv_aloadq_n hx hb dX7_tellApart_37 rfl (lv_at hl 1 rfl) ?_
      refine lv_bipush (v := (9 : Int32)) hx hb dX7_tellApart_38 (by decide) ?_
      obtain ⟨b6, ho6, hc6, hk6, hF⟩ := dr_some hF
      refine W_st (st' := [.int (9 : Int32), .ref (ad b6)]) (by rw [va_some ho6]) ?_
      obtain ⟨hvc, hF⟩ := chk_some hF
      refine ld_q hx hb hK hP hc6 hk6 hvc dX7_tellApart_40 ?_
      refine lv_astoreq_n (lv' := [(2, va_re ad (M.2 b6 ((9 : Int32)).toNatClampNeg)), (0, va_re ad p0), (1, .int p1)]) hx hb dX7_tellApart_41 rfl hl (by decide) rfl (fun ls hl => ?_)
      refine lv_aloadq_n hx hb dX7_tellApart_42 rfl (lv_at hl 1 rfl) ?_
      refine lv_bipush (v := (9 : Int32)) hx hb dX7_tellApart_43 (by decide) ?_
      refine lv_aloadq_n hx hb dX7_tellApart_45 rfl (lv_at hl 1 rfl) ?_
      refine lv_bipush (v := (10 : Int32)) hx hb dX7_tellApart_46 (by decide) ?_
      refine W_st (st' := [.int (10 : Int32), .ref (ad b6), .int (9 : Int32), .ref (ad b6)]) (by rw [va_some ho6]) ?_
      obtain ⟨hvc, hF⟩ := chk_some hF
      refine ld_q hx hb hK hP hc6 hk6 hvc dX7_tellApart_48 ?_
      obtain ⟨hvc, hF⟩ := chk_some hF
      obtain ⟨ho9, hF⟩ := chk_some hF
      refine st_q (o := ((M.2 b6 ((10 : Int32)).toNatClampNeg))) hx hb hK hP hD hS hc6 hk6 ho9 hvc dX7_tellApart_49 (fun H locs hP hD hS => ?_)
      obtain ⟨M7, eM7, hF⟩ := ltt_some hF
      rw [← eM7] at hP hD
      refine lv_aloadq_n hx hb dX7_tellApart_50 rfl (lv_at hl 1 rfl) ?_
      refine lv_bipush (v := (10 : Int32)) hx hb dX7_tellApart_51 (by decide) ?_
      refine lv_aloadq_n hx hb dX7_tellApart_53 rfl (lv_at hl 0 rfl) ?_
      refine W_st (st' := [va_re ad (M.2 b6 ((9 : Int32)).toNatClampNeg), .int (10 : Int32), .ref (ad b6)]) (by rw [va_some ho6]) ?_
      obtain ⟨hvc, hF⟩ := chk_some hF
      obtain ⟨ho9, hF⟩ := chk_some hF
      refine st_q (o := ((M.2 b6 ((9 : Int32)).toNatClampNeg))) hx hb hK hP hD hS hc6 hk6 ho9 hvc dX7_tellApart_54 (fun H locs hP hD hS => ?_)
      obtain ⟨M8, eM8, hF⟩ := ltt_some hF
      rw [← eM8] at hP hD
      obtain rfl := Option.some.inj hF
      exact J4 _ _ _ hP hD hS (lv_sub hl [1, 2] rfl)
  have hR1 := hF
  clear hF
  refine itr_rule (fun (s2 : Int32) => ∀ (H : Heap) (locs : List Loc) (ls : Array Slot), va_P D classes (wld ct ad G M) H → va_D A (wld ct ad G M) → va_S A s.heap H locs → lv_has ls 3 [(2, .int s2), (0, va_re ad p0), (1, .int p1)] → W p l e (headSpec wsX7_tellApart ({ frames := 0, cells := 0, slots := 0, locals := 0 })).room s m ([va_re ad p0, .int p1] : List Value).toArray below meth c H locs 0 0 (MQ below (va_Qv (fun (_ : Unit) => True) (fun _ t => kE D ct ad G A y t) A) ([va_re ad p0, .int p1] : List Value).toArray s 0 0 A) (F0 m 2 ls [])) ?_ _ _ hy1 _ _ _ hP hD hS (lv_sub hl [0, 1, 2] rfl)
  rintro s2 ⟨z9, hF, hwz9⟩ H locs ls hP hD hS hl
  try dsimp only at hF
  refine lv_iload_n hx hb dX7_tellApart_2 rfl (lv_at hl 0 rfl) ?_
  refine lv_iload_n hx hb dX7_tellApart_3 rfl (lv_at hl 2 rfl) ?_
  refine lv_icmp_ge (tgt := 32) hx hb dX7_tellApart_4 (by decide) (fun c10 => ?_) (fun c10 => ?_)
  · rw [if_pos c10] at hF
    obtain rfl := Option.some.inj hF
    exact K1 _ hwz9.symm _ _ _ hP hD hS (lv_sub hl [0, 1, 2] rfl)
  · rw [if_neg c10] at hF
    refine lv_iload_n hx hb dX7_tellApart_7 rfl (lv_at hl 0 rfl) ?_
    refine lv_bipush (v := (9 : Int32)) hx hb dX7_tellApart_8 (by decide) ?_
    refine lv_icmp_ge (tgt := 32) hx hb dX7_tellApart_10 (by decide) (fun c11 => ?_) (fun c11 => ?_)
    · rw [if_pos c11] at hF
      obtain rfl := Option.some.inj hF
      exact K1 _ hwz9.symm _ _ _ hP hD hS (lv_sub hl [0, 1, 2] rfl)
    · rw [if_neg c11] at hF
      refine lv_aloadq_n hx hb dX7_tellApart_13 rfl (lv_at hl 1 rfl) ?_
      refine lv_iload_n hx hb dX7_tellApart_14 rfl (lv_at hl 0 rfl) ?_
      obtain ⟨b12, ho12, hc12, hk12, hF⟩ := dr_some hF
      refine W_st (st' := [.int s2, .ref (ad b12)]) (by rw [va_some ho12]) ?_
      obtain ⟨hvc, hF⟩ := chk_some hF
      refine ld_q hx hb hK hP hc12 hk12 hvc dX7_tellApart_15 ?_
      refine lv_aloadq_n hx hb dX7_tellApart_16 rfl (lv_at hl 1 rfl) ?_
      refine lv_bipush (v := (9 : Int32)) hx hb dX7_tellApart_17 (by decide) ?_
      refine lv_iload_n hx hb dX7_tellApart_19 rfl (lv_at hl 0 rfl) ?_
      refine lv_iadd hx hb dX7_tellApart_20 ?_
      obtain ⟨x13, ex13, hF⟩ := ltt_some hF
      refine lv_topi (fun zx13 ezx13 => ?_)
      obtain rfl : x13 = zx13 := ex13.trans ezx13.symm
      refine W_st (st' := [.int x13, .ref (ad b12), va_re ad (M.2 b12 s2.toNatClampNeg)]) (by rw [va_some ho12]) ?_
      obtain ⟨hvc, hF⟩ := chk_some hF
      refine ld_q hx hb hK hP hc12 hk12 hvc dX7_tellApart_21 ?_
      refine lv_acmpq_eq (x := ((M.2 b12 s2.toNatClampNeg))) (y := ((M.2 b12 x13.toNatClampNeg))) (tgt := 26) hx hb hD (chk_some hF).1.1 (chk_some hF).1.2 dX7_tellApart_22 (by decide) (fun c14 => ?_) (fun c14 => ?_)
      all_goals (replace hF := (chk_some hF).2)
      · rw [if_pos c14] at hF
        obtain ⟨x15, ex15, hF⟩ := ltt_some hF
        refine lv_iinc (v := x15) (lv' := [(2, .int x15), (0, va_re ad p0), (1, .int p1)]) hx hb dX7_tellApart_26 hl (k := 0) rfl (by rw [ex15]; rfl) (by decide) rfl (fun ls hl => ?_)
        refine lv_goto (tgt := 2) hx hb dX7_tellApart_29 (by decide) ?_
        obtain rfl := Option.some.inj hF
        exact hwz9 _ _ _ hP hD hS (lv_sub hl [0, 1, 2] rfl)
      · rw [if_neg c14] at hF
        obtain rfl := Option.some.inj hF
        have hF := sel_inr (hwz9 ▸ hR1)
        obtain rfl := Option.some.inj hF
        exact W.vret hx hb hr (fun t ht hW => ⟨⟨(), rfl, trivial, ⟨by rw [ht]; exact hP, va_K.moved hW.alike hK, hD⟩⟩, hS.F ht⟩) hS.2.2 dX7_tellApart_25
theorem dX7_wide_0 : decode cX7_wide 0 = .ok (.iload_n 2, 1) := by decide +kernel
theorem dX7_wide_1 : decode cX7_wide 1 = .ok (.ifCond .ne 15, 3) := by decide +kernel
theorem dX7_wide_4 : decode cX7_wide 4 = .ok (.aload_n 0, 1) := by decide +kernel
theorem dX7_wide_5 : decode cX7_wide 5 = .ok (.getfield 25, 3) := by decide +kernel
theorem dX7_wide_8 : decode cX7_wide 8 = .ok (.bipush 7, 2) := by decide +kernel
theorem dX7_wide_10 : decode cX7_wide 10 = .ok (.iload_n 1, 1) := by decide +kernel
theorem dX7_wide_11 : decode cX7_wide 11 = .ok (.imul, 1) := by decide +kernel
theorem dX7_wide_12 : decode cX7_wide 12 = .ok (.iaload, 1) := by decide +kernel
theorem dX7_wide_13 : decode cX7_wide 13 = .ok (.goto 14, 3) := by decide +kernel
theorem dX7_wide_16 : decode cX7_wide 16 = .ok (.aload_n 0, 1) := by decide +kernel
theorem dX7_wide_17 : decode cX7_wide 17 = .ok (.getfield 25, 3) := by decide +kernel
theorem dX7_wide_20 : decode cX7_wide 20 = .ok (.bipush 7, 2) := by decide +kernel
theorem dX7_wide_22 : decode cX7_wide 22 = .ok (.iload_n 1, 1) := by decide +kernel
theorem dX7_wide_23 : decode cX7_wide 23 = .ok (.imul, 1) := by decide +kernel
theorem dX7_wide_24 : decode cX7_wide 24 = .ok (.iaload, 1) := by decide +kernel
theorem dX7_wide_25 : decode cX7_wide 25 = .ok (.iconst 2, 1) := by decide +kernel
theorem dX7_wide_26 : decode cX7_wide 26 = .ok (.idiv, 1) := by decide +kernel
theorem dX7_wide_27 : decode cX7_wide 27 = .ok (.ireturn, 1) := by decide +kernel
def FX7_wide (G : GG) (M : DD) (a : Nat) (p0 : Int32) (p1 : Int32) : Option (DD × Int32) :=
  bnd (if p1 = ((0 : Int32)) then (ltt ((((7 : Int32)) * p0)) fun x7 =>
  dr G 13 ((M.2 a 16)) fun b8 =>
  chk (¬ (x7 < 0 ∨ G.2.2 b8 ≤ x7.toNatClampNeg)) <|
  ltt (M.1 b8 x7.toNatClampNeg) fun x9 =>
  some (x9)) else
  (ltt ((((7 : Int32)) * p0)) fun x3 =>
  dr G 13 ((M.2 a 16)) fun b4 =>
  chk (¬ (x3 < 0 ∨ G.2.2 b4 ≤ x3.toNatClampNeg)) <|
  ltt (M.1 b4 x3.toNatClampNeg) fun x5 =>
  ltt (x5 / ((2 : Int32))) fun x6 =>
  some (x6))) fun (y1 : Int32) =>
  some (M, y1)
set_option maxHeartbeats 4000000 in
set_option maxRecDepth 100000 in
theorem kX7_wide (l : Launch) (D : va_G) (ct : CT) (ad : Nat → Nat) (Z : Nat → Nat) (G : GG) (M : DD) (sz : Nat) (a : Nat) (p0 : Int32) (p1 : Int32) (y : DD × Int32) (hc : a < G.1) (hk : G.2.1 a = 7) (hF : FX7_wide G M a p0 p1 = some y) : Met l yX7_wide wsX7_wide ({ frames := 0, cells := 0, slots := 0, locals := 0 }) (va_Pc [.ref (ad a), .int p0, .int p1] (kB D ct ad Z G M sz)) (va_Qi (fun (q : Int32) (_ : Unit) => q = y.2) (fun _ t => kE D ct ad G (wA ad G sz) y.1 t) (wA ad G sz)) 0 0 (wA ad G sz) := by
  refine Met.ofW (cc := cX7_wide) (maxL := 3) (ret := (some .int)) (by decide) rfl ?_
  intro p e s m args below meth c s₁ B hml hv
  obtain ⟨rfl, hsz, hP, hK, hD0, hZ, hN⟩ := hv
  have hx := B.exec
  have hb := B.bytes
  have hr := B.returns
  have hts := atoms_spec (ws := wsX7_wide) B.pre
  have hown : s.vm.findClass RX7 = some m.cls := findClass_of_methodNamed B.named
  have hlocks := B.notSynchronized
  subst hsz
  have hD := wD_self (sz := s.heap.size) hD0
  have hA9 : ∀ q, s.heap.size ≤ q → wA ad G s.heap.size q := fun q h => Or.inr h
  generalize hAe : wA ad G s.heap.size = A at hD hA9 hZ ⊢
  have hS : va_S A s.heap s.heap [] := va_S.rf
  have hl := lv_entry ([.ref (ad a), .int p0, .int p1]) (n := 3) (Nat.le_of_ble_eq_true rfl)
  rw [lg_entry_eq]
  generalize (lg_sl ([.ref (ad a), .int p0, .int p1]) ++ List.replicate (3 - (lg_sl ([.ref (ad a), .int p0, .int p1])).length) Slot.unset).toArray = ls at hl ⊢
  have hl : lv_has ls 3 [(0, .ref (ad a)), (1, .int p0), (2, .int p1)] := hl
  unfold FX7_wide at hF
  refine lv_iload_n hx hb dX7_wide_0 rfl (lv_at hl 2 rfl) ?_
  obtain ⟨y1, hy1, hF⟩ := bnd_some hF
  have J1 : ∀ (H : Heap) (locs : List Loc) (ls : Array Slot), va_P D classes (wld ct ad G M) H → va_D A (wld ct ad G M) → va_S A s.heap H locs → lv_has ls 3 [(0, .ref (ad a)), (1, .int p0), (2, .int p1)] → W p l e (headSpec wsX7_wide ({ frames := 0, cells := 0, slots := 0, locals := 0 })).room s m ([.ref (ad a), .int p0, .int p1] : List Value).toArray below meth c H locs 0 0 (MQ below (va_Qi (fun (q : Int32) (_ : Unit) => q = y.2) (fun _ t => kE D ct ad G A y.1 t) A) ([.ref (ad a), .int p0, .int p1] : List Value).toArray s 0 0 A) (F0 m 27 ls [.int y1]) := by
    intro H locs ls hP hD hS hl
    obtain rfl := Option.some.inj hF
    exact W.iret (v := y1) hx hb hr (fun t ht hW => ⟨⟨_, (), rfl, rfl, ⟨by rw [ht]; exact hP, va_K.moved hW.alike hK, hD⟩⟩, hS.F ht⟩) hS.2.2 dX7_wide_27
  clear hF
  have hF := hy1
  clear hy1
  refine lv_if_ne (tgt := 16) hx hb dX7_wide_1 (by decide) (fun c2 => ?_) (fun c2 => ?_)
  · rw [if_neg c2] at hF
    refine lv_aload_n hx hb dX7_wide_16 rfl (lv_at hl 0 rfl) ?_
    refine va_get (D := D) (ci := 7) (v := va_re ad (M.2 a 16)) (C := RX7) (T := TX7) (N := 17) hx hb hts (by decide +kernel) hown hK hP a (wld_o ct ad G M hc hk (by decide)) rfl 16 (by decide) (hts (.fieldLink RX7 25 "VideoSuite$Store" "outFact" "[I") (by decide +kernel)) (fun _ h9 => h9) rfl dX7_wide_17 ?_
    refine lv_bipush (v := (7 : Int32)) hx hb dX7_wide_20 (by decide) ?_
    refine lv_iload_n hx hb dX7_wide_22 rfl (lv_at hl 1 rfl) ?_
    refine lv_imul hx hb dX7_wide_23 ?_
    obtain ⟨x3, ex3, hF⟩ := ltt_some hF
    refine lv_topi (fun zx3 ezx3 => ?_)
    obtain rfl : x3 = zx3 := ex3.trans ezx3.symm
    obtain ⟨b4, ho4, hc4, hk4, hF⟩ := dr_some hF
    refine W_st (st' := [.int x3, .ref (ad b4)]) (by rw [va_some ho4]) ?_
    obtain ⟨hvc, hF⟩ := chk_some hF
    refine va_iald hx hb hK hP b4 1 (wld_i ct ad G M hc4 hk4) rfl hvc dX7_wide_24 ?_
    obtain ⟨x5, ex5, hF⟩ := ltt_some hF
    refine lv_topi (fun zx5 ezx5 => ?_)
    obtain rfl : x5 = zx5 := ex5.trans ezx5.symm
    refine lv_iconst (v := (2 : Int32)) hx hb dX7_wide_25 (by decide) ?_
    refine lv_idiv hx hb dX7_wide_26 (by decide) ?_
    obtain ⟨x6, ex6, hF⟩ := ltt_some hF
    refine lv_topi (fun zx6 ezx6 => ?_)
    obtain rfl : x6 = zx6 := ex6.trans ezx6.symm
    obtain rfl := Option.some.inj hF
    exact J1 _ _ _ hP hD hS (lv_sub hl [0, 1, 2] rfl)
  · rw [if_pos c2] at hF
    refine lv_aload_n hx hb dX7_wide_4 rfl (lv_at hl 0 rfl) ?_
    refine va_get (D := D) (ci := 7) (v := va_re ad (M.2 a 16)) (C := RX7) (T := TX7) (N := 17) hx hb hts (by decide +kernel) hown hK hP a (wld_o ct ad G M hc hk (by decide)) rfl 16 (by decide) (hts (.fieldLink RX7 25 "VideoSuite$Store" "outFact" "[I") (by decide +kernel)) (fun _ h9 => h9) rfl dX7_wide_5 ?_
    refine lv_bipush (v := (7 : Int32)) hx hb dX7_wide_8 (by decide) ?_
    refine lv_iload_n hx hb dX7_wide_10 rfl (lv_at hl 1 rfl) ?_
    refine lv_imul hx hb dX7_wide_11 ?_
    obtain ⟨x7, ex7, hF⟩ := ltt_some hF
    refine lv_topi (fun zx7 ezx7 => ?_)
    obtain rfl : x7 = zx7 := ex7.trans ezx7.symm
    obtain ⟨b8, ho8, hc8, hk8, hF⟩ := dr_some hF
    refine W_st (st' := [.int x7, .ref (ad b8)]) (by rw [va_some ho8]) ?_
    obtain ⟨hvc, hF⟩ := chk_some hF
    refine va_iald hx hb hK hP b8 1 (wld_i ct ad G M hc8 hk8) rfl hvc dX7_wide_12 ?_
    obtain ⟨x9, ex9, hF⟩ := ltt_some hF
    refine lv_topi (fun zx9 ezx9 => ?_)
    obtain rfl : x9 = zx9 := ex9.trans ezx9.symm
    refine lv_goto (tgt := 27) hx hb dX7_wide_13 (by decide) ?_
    obtain rfl := Option.some.inj hF
    exact J1 _ _ _ hP hD hS (lv_sub hl [0, 1, 2] rfl)
theorem dX8_byteAt_0 : decode cX8_byteAt 0 = .ok (.aload_n 0, 1) := by decide +kernel
theorem dX8_byteAt_1 : decode cX8_byteAt 1 = .ok (.getfield 10, 3) := by decide +kernel
theorem dX8_byteAt_4 : decode cX8_byteAt 4 = .ok (.aload_n 0, 1) := by decide +kernel
theorem dX8_byteAt_5 : decode cX8_byteAt 5 = .ok (.getfield 16, 3) := by decide +kernel
theorem dX8_byteAt_8 : decode cX8_byteAt 8 = .ok (.iload_n 1, 1) := by decide +kernel
theorem dX8_byteAt_9 : decode cX8_byteAt 9 = .ok (.iaload, 1) := by decide +kernel
theorem dX8_byteAt_10 : decode cX8_byteAt 10 = .ok (.iload_n 2, 1) := by decide +kernel
theorem dX8_byteAt_11 : decode cX8_byteAt 11 = .ok (.iadd, 1) := by decide +kernel
theorem dX8_byteAt_12 : decode cX8_byteAt 12 = .ok (.baload, 1) := by decide +kernel
theorem dX8_byteAt_13 : decode cX8_byteAt 13 = .ok (.sipush 255, 3) := by decide +kernel
theorem dX8_byteAt_16 : decode cX8_byteAt 16 = .ok (.iand, 1) := by decide +kernel
theorem dX8_byteAt_17 : decode cX8_byteAt 17 = .ok (.ireturn, 1) := by decide +kernel
def FX8_byteAt (G : GG) (M : DD) (a : Nat) (p0 : Int32) (p1 : Int32) : Option (DD × Int32) :=
  dr G 13 ((M.2 a 1)) fun b1 =>
  chk (¬ (p0 < 0 ∨ G.2.2 b1 ≤ p0.toNatClampNeg)) <|
  ltt (M.1 b1 p0.toNatClampNeg) fun x2 =>
  ltt ((x2 + p1)) fun x3 =>
  dr G 12 ((M.2 a 0)) fun b4 =>
  chk (¬ (x3 < 0 ∨ G.2.2 b4 ≤ x3.toNatClampNeg)) <|
  ltt (M.1 b4 x3.toNatClampNeg) fun x5 =>
  ltt ((x5 &&& ((255 : Int32)))) fun x6 =>
  some (M, x6)
set_option maxHeartbeats 4000000 in
set_option maxRecDepth 100000 in
theorem kX8_byteAt (l : Launch) (D : va_G) (ct : CT) (ad : Nat → Nat) (Z : Nat → Nat) (G : GG) (M : DD) (sz : Nat) (a : Nat) (p0 : Int32) (p1 : Int32) (y : DD × Int32) (hc : a < G.1) (hk : G.2.1 a = 8) (hF : FX8_byteAt G M a p0 p1 = some y) : Met l yX8_byteAt wsX8_byteAt ({ frames := 0, cells := 0, slots := 0, locals := 0 }) (va_Pc [.ref (ad a), .int p0, .int p1] (kB D ct ad Z G M sz)) (va_Qi (fun (q : Int32) (_ : Unit) => q = y.2) (fun _ t => kE D ct ad G (wA ad G sz) y.1 t) (wA ad G sz)) 0 0 (wA ad G sz) := by
  refine Met.ofW (cc := cX8_byteAt) (maxL := 3) (ret := (some .int)) (by decide) rfl ?_
  intro p e s m args below meth c s₁ B hml hv
  obtain ⟨rfl, hsz, hP, hK, hD0, hZ, hN⟩ := hv
  have hx := B.exec
  have hb := B.bytes
  have hr := B.returns
  have hts := atoms_spec (ws := wsX8_byteAt) B.pre
  have hown : s.vm.findClass RX8 = some m.cls := findClass_of_methodNamed B.named
  have hlocks := B.notSynchronized
  subst hsz
  have hD := wD_self (sz := s.heap.size) hD0
  have hA9 : ∀ q, s.heap.size ≤ q → wA ad G s.heap.size q := fun q h => Or.inr h
  generalize hAe : wA ad G s.heap.size = A at hD hA9 hZ ⊢
  have hS : va_S A s.heap s.heap [] := va_S.rf
  have hl := lv_entry ([.ref (ad a), .int p0, .int p1]) (n := 3) (Nat.le_of_ble_eq_true rfl)
  rw [lg_entry_eq]
  generalize (lg_sl ([.ref (ad a), .int p0, .int p1]) ++ List.replicate (3 - (lg_sl ([.ref (ad a), .int p0, .int p1])).length) Slot.unset).toArray = ls at hl ⊢
  have hl : lv_has ls 3 [(0, .ref (ad a)), (1, .int p0), (2, .int p1)] := hl
  unfold FX8_byteAt at hF
  refine lv_aload_n hx hb dX8_byteAt_0 rfl (lv_at hl 0 rfl) ?_
  refine va_get (D := D) (ci := 8) (v := va_re ad (M.2 a 0)) (C := RX8) (T := TX8) (N := 15) hx hb hts (by decide +kernel) hown hK hP a (wld_o ct ad G M hc hk (by decide)) rfl 0 (by decide) (hts (.fieldLink RX8 10 "VideoSuite$Units" "bytes" "[B") (by decide +kernel)) (fun _ h9 => h9) rfl dX8_byteAt_1 ?_
  refine lv_aload_n hx hb dX8_byteAt_4 rfl (lv_at hl 0 rfl) ?_
  refine va_get (D := D) (ci := 8) (v := va_re ad (M.2 a 1)) (C := RX8) (T := TX8) (N := 15) hx hb hts (by decide +kernel) hown hK hP a (wld_o ct ad G M hc hk (by decide)) rfl 1 (by decide) (hts (.fieldLink RX8 16 "VideoSuite$Units" "start" "[I") (by decide +kernel)) (fun _ h9 => h9) rfl dX8_byteAt_5 ?_
  refine lv_iload_n hx hb dX8_byteAt_8 rfl (lv_at hl 1 rfl) ?_
  obtain ⟨b1, ho1, hc1, hk1, hF⟩ := dr_some hF
  refine W_st (st' := [.int p0, .ref (ad b1), va_re ad (M.2 a 0)]) (by rw [va_some ho1]) ?_
  obtain ⟨hvc, hF⟩ := chk_some hF
  refine va_iald hx hb hK hP b1 1 (wld_i ct ad G M hc1 hk1) rfl hvc dX8_byteAt_9 ?_
  obtain ⟨x2, ex2, hF⟩ := ltt_some hF
  refine lv_topi (fun zx2 ezx2 => ?_)
  obtain rfl : x2 = zx2 := ex2.trans ezx2.symm
  refine lv_iload_n hx hb dX8_byteAt_10 rfl (lv_at hl 2 rfl) ?_
  refine lv_iadd hx hb dX8_byteAt_11 ?_
  obtain ⟨x3, ex3, hF⟩ := ltt_some hF
  refine lv_topi (fun zx3 ezx3 => ?_)
  obtain rfl : x3 = zx3 := ex3.trans ezx3.symm
  obtain ⟨b4, ho4, hc4, hk4, hF⟩ := dr_some hF
  refine W_st (st' := [.int x3, .ref (ad b4)]) (by rw [va_some ho4]) ?_
  obtain ⟨hvc, hF⟩ := chk_some hF
  refine va_bald hx hb hK hP b4 0 (wld_b ct ad G M hc4 hk4) rfl hvc dX8_byteAt_12 ?_
  obtain ⟨x5, ex5, hF⟩ := ltt_some hF
  refine lv_topi (fun zx5 ezx5 => ?_)
  obtain rfl : x5 = zx5 := ex5.trans ezx5.symm
  refine lv_sipush (v := (255 : Int32)) hx hb dX8_byteAt_13 (by decide) ?_
  refine lv_iand hx hb dX8_byteAt_16 ?_
  obtain ⟨x6, ex6, hF⟩ := ltt_some hF
  refine lv_topi (fun zx6 ezx6 => ?_)
  obtain rfl : x6 = zx6 := ex6.trans ezx6.symm
  obtain rfl := Option.some.inj hF
  exact W.iret (v := x6) hx hb hr (fun t ht hW => ⟨⟨_, (), rfl, rfl, ⟨by rw [ht]; exact hP, va_K.moved hW.alike hK, hD⟩⟩, hS.F ht⟩) hS.2.2 dX8_byteAt_17
theorem dX8_contentLength_0 : decode cX8_contentLength 0 = .ok (.iconst 0, 1) := by decide +kernel
theorem dX8_contentLength_1 : decode cX8_contentLength 1 = .ok (.istore_n 1, 1) := by decide +kernel
theorem dX8_contentLength_2 : decode cX8_contentLength 2 = .ok (.iconst 0, 1) := by decide +kernel
theorem dX8_contentLength_3 : decode cX8_contentLength 3 = .ok (.istore_n 2, 1) := by decide +kernel
theorem dX8_contentLength_4 : decode cX8_contentLength 4 = .ok (.iload_n 2, 1) := by decide +kernel
theorem dX8_contentLength_5 : decode cX8_contentLength 5 = .ok (.aload_n 0, 1) := by decide +kernel
theorem dX8_contentLength_6 : decode cX8_contentLength 6 = .ok (.getfield 41, 3) := by decide +kernel
theorem dX8_contentLength_9 : decode cX8_contentLength 9 = .ok (.if_icmp .ge 20, 3) := by decide +kernel
theorem dX8_contentLength_12 : decode cX8_contentLength 12 = .ok (.iload_n 1, 1) := by decide +kernel
theorem dX8_contentLength_13 : decode cX8_contentLength 13 = .ok (.iconst 4, 1) := by decide +kernel
theorem dX8_contentLength_14 : decode cX8_contentLength 14 = .ok (.aload_n 0, 1) := by decide +kernel
theorem dX8_contentLength_15 : decode cX8_contentLength 15 = .ok (.getfield 20, 3) := by decide +kernel
theorem dX8_contentLength_18 : decode cX8_contentLength 18 = .ok (.iload_n 2, 1) := by decide +kernel
theorem dX8_contentLength_19 : decode cX8_contentLength 19 = .ok (.iaload, 1) := by decide +kernel
theorem dX8_contentLength_20 : decode cX8_contentLength 20 = .ok (.iadd, 1) := by decide +kernel
theorem dX8_contentLength_21 : decode cX8_contentLength 21 = .ok (.iadd, 1) := by decide +kernel
theorem dX8_contentLength_22 : decode cX8_contentLength 22 = .ok (.istore_n 1, 1) := by decide +kernel
theorem dX8_contentLength_23 : decode cX8_contentLength 23 = .ok (.iinc 2 1, 3) := by decide +kernel
theorem dX8_contentLength_26 : decode cX8_contentLength 26 = .ok (.goto (-22), 3) := by decide +kernel
theorem dX8_contentLength_29 : decode cX8_contentLength 29 = .ok (.iload_n 1, 1) := by decide +kernel
theorem dX8_contentLength_30 : decode cX8_contentLength 30 = .ok (.ireturn, 1) := by decide +kernel
def FX8_contentLength (G : GG) (M : DD) (a : Nat)  : Option (DD × Int32) :=
  bnd (itr (fun (s2 : Int32 × Int32) => ((ltt (M.1 a 3) fun x5 =>
  if x5 ≤ s2.2 then (some (.inr (s2.1, s2.2))) else
  (dr G 13 ((M.2 a 2)) fun b7 =>
  chk (¬ (s2.2 < 0 ∨ G.2.2 b7 ≤ s2.2.toNatClampNeg)) <|
  ltt (M.1 b7 s2.2.toNatClampNeg) fun x8 =>
  ltt ((((4 : Int32)) + x8)) fun x9 =>
  ltt ((s2.1 + x9)) fun x10 =>
  ltt (s2.2 + (1 : Int32)) fun x11 =>
  some (.inl (x10, x11)))) : Option ((Int32 × Int32) ⊕ (Int32 × Int32)))) 1000000 ((0 : Int32), (0 : Int32))) fun (y1 : Int32 × Int32) =>
  some (M, y1.1)
set_option maxHeartbeats 4000000 in
set_option maxRecDepth 100000 in
theorem kX8_contentLength (l : Launch) (D : va_G) (ct : CT) (ad : Nat → Nat) (Z : Nat → Nat) (G : GG) (M : DD) (sz : Nat) (a : Nat)  (y : DD × Int32) (hc : a < G.1) (hk : G.2.1 a = 8) (hF : FX8_contentLength G M a  = some y) : Met l yX8_contentLength wsX8_contentLength ({ frames := 0, cells := 0, slots := 0, locals := 0 }) (va_Pc [.ref (ad a)] (kB D ct ad Z G M sz)) (va_Qi (fun (q : Int32) (_ : Unit) => q = y.2) (fun _ t => kE D ct ad G (wA ad G sz) y.1 t) (wA ad G sz)) 0 0 (wA ad G sz) := by
  refine Met.ofW (cc := cX8_contentLength) (maxL := 3) (ret := (some .int)) (by decide) rfl ?_
  intro p e s m args below meth c s₁ B hml hv
  obtain ⟨rfl, hsz, hP, hK, hD0, hZ, hN⟩ := hv
  have hx := B.exec
  have hb := B.bytes
  have hr := B.returns
  have hts := atoms_spec (ws := wsX8_contentLength) B.pre
  have hown : s.vm.findClass RX8 = some m.cls := findClass_of_methodNamed B.named
  have hlocks := B.notSynchronized
  subst hsz
  have hD := wD_self (sz := s.heap.size) hD0
  have hA9 : ∀ q, s.heap.size ≤ q → wA ad G s.heap.size q := fun q h => Or.inr h
  generalize hAe : wA ad G s.heap.size = A at hD hA9 hZ ⊢
  have hS : va_S A s.heap s.heap [] := va_S.rf
  have hl := lv_entry ([.ref (ad a)]) (n := 3) (Nat.le_of_ble_eq_true rfl)
  rw [lg_entry_eq]
  generalize (lg_sl ([.ref (ad a)]) ++ List.replicate (3 - (lg_sl ([.ref (ad a)])).length) Slot.unset).toArray = ls at hl ⊢
  have hl : lv_has ls 3 [(0, .ref (ad a))] := hl
  unfold FX8_contentLength at hF
  refine lv_iconst (v := (0 : Int32)) hx hb dX8_contentLength_0 (by decide) ?_
  refine lv_istore_n (lv' := [(1, .int (0 : Int32)), (0, .ref (ad a))]) hx hb dX8_contentLength_1 rfl hl (by decide) rfl (fun ls hl => ?_)
  refine lv_iconst (v := (0 : Int32)) hx hb dX8_contentLength_2 (by decide) ?_
  refine lv_istore_n (lv' := [(2, .int (0 : Int32)), (1, .int (0 : Int32)), (0, .ref (ad a))]) hx hb dX8_contentLength_3 rfl hl (by decide) rfl (fun ls hl => ?_)
  obtain ⟨y1, hy1, hF⟩ := bnd_some hF
  have K1 : ∀ (H : Heap) (locs : List Loc) (ls : Array Slot), va_P D classes (wld ct ad G M) H → va_D A (wld ct ad G M) → va_S A s.heap H locs → lv_has ls 3 [(2, .int y1.2), (1, .int y1.1), (0, .ref (ad a))] → W p l e (headSpec wsX8_contentLength ({ frames := 0, cells := 0, slots := 0, locals := 0 })).room s m ([.ref (ad a)] : List Value).toArray below meth c H locs 0 0 (MQ below (va_Qi (fun (q : Int32) (_ : Unit) => q = y.2) (fun _ t => kE D ct ad G A y.1 t) A) ([.ref (ad a)] : List Value).toArray s 0 0 A) (F0 m 29 ls []) := by
    intro H locs ls hP hD hS hl
    refine lv_iload_n hx hb dX8_contentLength_29 rfl (lv_at hl 1 rfl) ?_
    obtain rfl := Option.some.inj hF
    exact W.iret (v := y1.1) hx hb hr (fun t ht hW => ⟨⟨_, (), rfl, rfl, ⟨by rw [ht]; exact hP, va_K.moved hW.alike hK, hD⟩⟩, hS.F ht⟩) hS.2.2 dX8_contentLength_30
  clear hF
  refine itr_rule (fun (s2 : Int32 × Int32) => ∀ (H : Heap) (locs : List Loc) (ls : Array Slot), va_P D classes (wld ct ad G M) H → va_D A (wld ct ad G M) → va_S A s.heap H locs → lv_has ls 3 [(2, .int s2.2), (1, .int s2.1), (0, .ref (ad a))] → W p l e (headSpec wsX8_contentLength ({ frames := 0, cells := 0, slots := 0, locals := 0 })).room s m ([.ref (ad a)] : List Value).toArray below meth c H locs 0 0 (MQ below (va_Qi (fun (q : Int32) (_ : Unit) => q = y.2) (fun _ t => kE D ct ad G A y.1 t) A) ([.ref (ad a)] : List Value).toArray s 0 0 A) (F0 m 4 ls [])) ?_ _ _ hy1 _ _ _ hP hD hS (lv_sub hl [0, 1, 2] rfl)
  rintro s2 ⟨z4, hF, hwz4⟩ H locs ls hP hD hS hl
  try dsimp only at hF
  refine lv_iload_n hx hb dX8_contentLength_4 rfl (lv_at hl 0 rfl) ?_
  refine lv_aload_n hx hb dX8_contentLength_5 rfl (lv_at hl 2 rfl) ?_
  refine va_get (D := D) (ci := 8) (v := .int (M.1 a 3)) (C := RX8) (T := TX8) (N := 15) hx hb hts (by decide +kernel) hown hK hP a (wld_o ct ad G M hc hk (by decide)) rfl 3 (by decide) (hts (.fieldLink RX8 41 "VideoSuite$Units" "count" "I") (by decide +kernel)) (fun _ h9 => h9) rfl dX8_contentLength_6 ?_
  obtain ⟨x5, ex5, hF⟩ := ltt_some hF
  refine lv_topi (fun zx5 ezx5 => ?_)
  obtain rfl : x5 = zx5 := ex5.trans ezx5.symm
  refine lv_icmp_ge (tgt := 29) hx hb dX8_contentLength_9 (by decide) (fun c6 => ?_) (fun c6 => ?_)
  · rw [if_pos c6] at hF
    obtain rfl := Option.some.inj hF
    subst hwz4
    exact K1 _ _ _ hP hD hS (lv_sub hl [0, 1, 2] rfl)
  · rw [if_neg c6] at hF
    refine lv_iload_n hx hb dX8_contentLength_12 rfl (lv_at hl 1 rfl) ?_
    refine lv_iconst (v := (4 : Int32)) hx hb dX8_contentLength_13 (by decide) ?_
    refine lv_aload_n hx hb dX8_contentLength_14 rfl (lv_at hl 2 rfl) ?_
    refine va_get (D := D) (ci := 8) (v := va_re ad (M.2 a 2)) (C := RX8) (T := TX8) (N := 15) hx hb hts (by decide +kernel) hown hK hP a (wld_o ct ad G M hc hk (by decide)) rfl 2 (by decide) (hts (.fieldLink RX8 20 "VideoSuite$Units" "size" "[I") (by decide +kernel)) (fun _ h9 => h9) rfl dX8_contentLength_15 ?_
    refine lv_iload_n hx hb dX8_contentLength_18 rfl (lv_at hl 0 rfl) ?_
    obtain ⟨b7, ho7, hc7, hk7, hF⟩ := dr_some hF
    refine W_st (st' := [.int s2.2, .ref (ad b7), .int (4 : Int32), .int s2.1]) (by rw [va_some ho7]) ?_
    obtain ⟨hvc, hF⟩ := chk_some hF
    refine va_iald hx hb hK hP b7 1 (wld_i ct ad G M hc7 hk7) rfl hvc dX8_contentLength_19 ?_
    obtain ⟨x8, ex8, hF⟩ := ltt_some hF
    refine lv_topi (fun zx8 ezx8 => ?_)
    obtain rfl : x8 = zx8 := ex8.trans ezx8.symm
    refine lv_iadd hx hb dX8_contentLength_20 ?_
    obtain ⟨x9, ex9, hF⟩ := ltt_some hF
    refine lv_topi (fun zx9 ezx9 => ?_)
    obtain rfl : x9 = zx9 := ex9.trans ezx9.symm
    refine lv_iadd hx hb dX8_contentLength_21 ?_
    obtain ⟨x10, ex10, hF⟩ := ltt_some hF
    refine lv_topi (fun zx10 ezx10 => ?_)
    obtain rfl : x10 = zx10 := ex10.trans ezx10.symm
    refine lv_istore_n (lv' := [(1, .int x10), (2, .int s2.2), (0, .ref (ad a))]) hx hb dX8_contentLength_22 rfl hl (by decide) rfl (fun ls hl => ?_)
    obtain ⟨x11, ex11, hF⟩ := ltt_some hF
    refine lv_iinc (v := x11) (lv' := [(2, .int x11), (1, .int x10), (0, .ref (ad a))]) hx hb dX8_contentLength_23 hl (k := 1) rfl (by rw [ex11]; rfl) (by decide) rfl (fun ls hl => ?_)
    refine lv_goto (tgt := 4) hx hb dX8_contentLength_26 (by decide) ?_
    obtain rfl := Option.some.inj hF
    exact hwz4 _ _ _ hP hD hS (lv_sub hl [0, 1, 2] rfl)
theorem dX8_endsUnit_0 : decode cX8_endsUnit 0 = .ok (.iload_n 1, 1) := by decide +kernel
theorem dX8_endsUnit_1 : decode cX8_endsUnit 1 = .ok (.iconst 2, 1) := by decide +kernel
theorem dX8_endsUnit_2 : decode cX8_endsUnit 2 = .ok (.iadd, 1) := by decide +kernel
theorem dX8_endsUnit_3 : decode cX8_endsUnit 3 = .ok (.iload_n 2, 1) := by decide +kernel
theorem dX8_endsUnit_4 : decode cX8_endsUnit 4 = .ok (.if_icmp .ge 38, 3) := by decide +kernel
theorem dX8_endsUnit_7 : decode cX8_endsUnit 7 = .ok (.aload_n 0, 1) := by decide +kernel
theorem dX8_endsUnit_8 : decode cX8_endsUnit 8 = .ok (.iload_n 1, 1) := by decide +kernel
theorem dX8_endsUnit_9 : decode cX8_endsUnit 9 = .ok (.baload, 1) := by decide +kernel
theorem dX8_endsUnit_10 : decode cX8_endsUnit 10 = .ok (.ifCond .ne 32, 3) := by decide +kernel
theorem dX8_endsUnit_13 : decode cX8_endsUnit 13 = .ok (.aload_n 0, 1) := by decide +kernel
theorem dX8_endsUnit_14 : decode cX8_endsUnit 14 = .ok (.iload_n 1, 1) := by decide +kernel
theorem dX8_endsUnit_15 : decode cX8_endsUnit 15 = .ok (.iconst 1, 1) := by decide +kernel
theorem dX8_endsUnit_16 : decode cX8_endsUnit 16 = .ok (.iadd, 1) := by decide +kernel
theorem dX8_endsUnit_17 : decode cX8_endsUnit 17 = .ok (.baload, 1) := by decide +kernel
theorem dX8_endsUnit_18 : decode cX8_endsUnit 18 = .ok (.ifCond .ne 24, 3) := by decide +kernel
theorem dX8_endsUnit_21 : decode cX8_endsUnit 21 = .ok (.aload_n 0, 1) := by decide +kernel
theorem dX8_endsUnit_22 : decode cX8_endsUnit 22 = .ok (.iload_n 1, 1) := by decide +kernel
theorem dX8_endsUnit_23 : decode cX8_endsUnit 23 = .ok (.iconst 2, 1) := by decide +kernel
theorem dX8_endsUnit_24 : decode cX8_endsUnit 24 = .ok (.iadd, 1) := by decide +kernel
theorem dX8_endsUnit_25 : decode cX8_endsUnit 25 = .ok (.baload, 1) := by decide +kernel
theorem dX8_endsUnit_26 : decode cX8_endsUnit 26 = .ok (.ifCond .eq 12, 3) := by decide +kernel
theorem dX8_endsUnit_29 : decode cX8_endsUnit 29 = .ok (.aload_n 0, 1) := by decide +kernel
theorem dX8_endsUnit_30 : decode cX8_endsUnit 30 = .ok (.iload_n 1, 1) := by decide +kernel
theorem dX8_endsUnit_31 : decode cX8_endsUnit 31 = .ok (.iconst 2, 1) := by decide +kernel
theorem dX8_endsUnit_32 : decode cX8_endsUnit 32 = .ok (.iadd, 1) := by decide +kernel
theorem dX8_endsUnit_33 : decode cX8_endsUnit 33 = .ok (.baload, 1) := by decide +kernel
theorem dX8_endsUnit_34 : decode cX8_endsUnit 34 = .ok (.iconst 1, 1) := by decide +kernel
theorem dX8_endsUnit_35 : decode cX8_endsUnit 35 = .ok (.if_icmp .ne 7, 3) := by decide +kernel
theorem dX8_endsUnit_38 : decode cX8_endsUnit 38 = .ok (.iconst 1, 1) := by decide +kernel
theorem dX8_endsUnit_39 : decode cX8_endsUnit 39 = .ok (.goto 4, 3) := by decide +kernel
theorem dX8_endsUnit_42 : decode cX8_endsUnit 42 = .ok (.iconst 0, 1) := by decide +kernel
theorem dX8_endsUnit_43 : decode cX8_endsUnit 43 = .ok (.ireturn, 1) := by decide +kernel
def FX8_endsUnit (G : GG) (M : DD) (p0 : Option Nat) (p1 : Int32) (p2 : Int32) : Option (DD × Int32) :=
  ltt ((p1 + ((2 : Int32)))) fun x1 =>
  bnd (if p2 ≤ x1 then (some ((0 : Int32))) else
  (dr G 12 p0 fun b4 =>
  chk (¬ (p1 < 0 ∨ G.2.2 b4 ≤ p1.toNatClampNeg)) <|
  ltt (M.1 b4 p1.toNatClampNeg) fun x5 =>
  bnd (if x5 = ((0 : Int32)) then (ltt ((p1 + ((1 : Int32)))) fun x8 =>
  chk (¬ (x8 < 0 ∨ G.2.2 b4 ≤ x8.toNatClampNeg)) <|
  ltt (M.1 b4 x8.toNatClampNeg) fun x9 =>
  bnd (if x9 = ((0 : Int32)) then (ltt ((p1 + ((2 : Int32)))) fun x12 =>
  chk (¬ (x12 < 0 ∨ G.2.2 b4 ≤ x12.toNatClampNeg)) <|
  ltt (M.1 b4 x12.toNatClampNeg) fun x13 =>
  bnd (if x13 = ((0 : Int32)) then (some ((1 : Int32))) else
  (ltt ((p1 + ((2 : Int32)))) fun x16 =>
  chk (¬ (x16 < 0 ∨ G.2.2 b4 ≤ x16.toNatClampNeg)) <|
  ltt (M.1 b4 x16.toNatClampNeg) fun x17 =>
  bnd (if x17 = ((1 : Int32)) then (some ((1 : Int32))) else
  (some ((0 : Int32)))) fun (y18 : Int32) =>
  some (y18))) fun (y14 : Int32) =>
  some (y14)) else
  (some ((0 : Int32)))) fun (y10 : Int32) =>
  some (y10)) else
  (some ((0 : Int32)))) fun (y6 : Int32) =>
  some (y6))) fun (y2 : Int32) =>
  chk (y2 = 0 ∨ y2 = 1) <|
  some (M, y2)
set_option maxHeartbeats 4000000 in
set_option maxRecDepth 100000 in
theorem kX8_endsUnit (l : Launch) (D : va_G) (ct : CT) (ad : Nat → Nat) (Z : Nat → Nat) (G : GG) (M : DD) (sz : Nat) (p0 : Option Nat) (p1 : Int32) (p2 : Int32) (y : DD × Int32) (hF : FX8_endsUnit G M p0 p1 p2 = some y) : Met l yX8_endsUnit wsX8_endsUnit ({ frames := 0, cells := 0, slots := 0, locals := 0 }) (va_Pc [va_re ad p0, .int p1, .int p2] (kB D ct ad Z G M sz)) (va_Qi (fun (q : Int32) (_ : Unit) => q = y.2) (fun _ t => kE D ct ad G (wA ad G sz) y.1 t) (wA ad G sz)) 0 0 (wA ad G sz) := by
  refine Met.ofW (cc := cX8_endsUnit) (maxL := 3) (ret := (some .boolean)) (by decide) rfl ?_
  intro p e s m args below meth c s₁ B hml hv
  obtain ⟨rfl, hsz, hP, hK, hD0, hZ, hN⟩ := hv
  have hx := B.exec
  have hb := B.bytes
  have hr := B.returns
  have hts := atoms_spec (ws := wsX8_endsUnit) B.pre
  have hown : s.vm.findClass RX8 = some m.cls := findClass_of_methodNamed B.named
  have hlocks := B.notSynchronized
  subst hsz
  have hD := wD_self (sz := s.heap.size) hD0
  have hA9 : ∀ q, s.heap.size ≤ q → wA ad G s.heap.size q := fun q h => Or.inr h
  generalize hAe : wA ad G s.heap.size = A at hD hA9 hZ ⊢
  have hS : va_S A s.heap s.heap [] := va_S.rf
  have hl := lv_entry ([va_re ad p0, .int p1, .int p2]) (n := 3) (by cases p0 <;> exact Nat.le_of_ble_eq_true rfl)
  rw [lg_entry_eq]
  generalize (lg_sl ([va_re ad p0, .int p1, .int p2]) ++ List.replicate (3 - (lg_sl ([va_re ad p0, .int p1, .int p2])).length) Slot.unset).toArray = ls at hl ⊢
  have hl : lv_has ls 3 [(0, va_re ad p0), (1, .int p1), (2, .int p2)] := by have e9 : lv_args 0 [va_re ad p0, .int p1, .int p2] = [(0, va_re ad p0), (1, .int p1), (2, .int p2)] := (by cases p0 <;> rfl); rw [e9] at hl; exact hl
  unfold FX8_endsUnit at hF
  refine lv_iload_n hx hb dX8_endsUnit_0 rfl (lv_at hl 1 rfl) ?_
  refine lv_iconst (v := (2 : Int32)) hx hb dX8_endsUnit_1 (by decide) ?_
  refine lv_iadd hx hb dX8_endsUnit_2 ?_
  obtain ⟨x1, ex1, hF⟩ := ltt_some hF
  refine lv_topi (fun zx1 ezx1 => ?_)
  obtain rfl : x1 = zx1 := ex1.trans ezx1.symm
  refine lv_iload_n hx hb dX8_endsUnit_3 rfl (lv_at hl 2 rfl) ?_
  obtain ⟨y2, hy2, hF⟩ := bnd_some hF
  have J2 : ∀ (H : Heap) (locs : List Loc) (ls : Array Slot), va_P D classes (wld ct ad G M) H → va_D A (wld ct ad G M) → va_S A s.heap H locs → lv_has ls 3 [(0, va_re ad p0), (1, .int p1), (2, .int p2)] → W p l e (headSpec wsX8_endsUnit ({ frames := 0, cells := 0, slots := 0, locals := 0 })).room s m ([va_re ad p0, .int p1, .int p2] : List Value).toArray below meth c H locs 0 0 (MQ below (va_Qi (fun (q : Int32) (_ : Unit) => q = y.2) (fun _ t => kE D ct ad G A y.1 t) A) ([va_re ad p0, .int p1, .int p2] : List Value).toArray s 0 0 A) (F0 m 43 ls [.int y2]) := by
    intro H locs ls hP hD hS hl
    obtain ⟨hz9, hF⟩ := chk_some hF
    obtain rfl := Option.some.inj hF
    exact W.zret (v := y2) (ty := .boolean) hx hb hr (nar_z hz9).1 (fun t ht hW => ⟨⟨_, (), rfl, rfl, ⟨by rw [ht]; exact hP, va_K.moved hW.alike hK, hD⟩⟩, hS.F ht⟩) hS.2.2 dX8_endsUnit_43
  clear hF
  have hF := hy2
  clear hy2
  refine lv_icmp_ge (tgt := 42) hx hb dX8_endsUnit_4 (by decide) (fun c3 => ?_) (fun c3 => ?_)
  · rw [if_pos c3] at hF
    refine lv_iconst (v := (0 : Int32)) hx hb dX8_endsUnit_42 (by decide) ?_
    obtain rfl := Option.some.inj hF
    exact J2 _ _ _ hP hD hS (lv_sub hl [0, 1, 2] rfl)
  · rw [if_neg c3] at hF
    refine lv_aloadq_n hx hb dX8_endsUnit_7 rfl (lv_at hl 0 rfl) ?_
    refine lv_iload_n hx hb dX8_endsUnit_8 rfl (lv_at hl 1 rfl) ?_
    obtain ⟨b4, ho4, hc4, hk4, hF⟩ := dr_some hF
    refine W_st (st' := [.int p1, .ref (ad b4)]) (by rw [va_some ho4]) ?_
    obtain ⟨hvc, hF⟩ := chk_some hF
    refine va_bald hx hb hK hP b4 0 (wld_b ct ad G M hc4 hk4) rfl hvc dX8_endsUnit_9 ?_
    obtain ⟨x5, ex5, hF⟩ := ltt_some hF
    refine lv_topi (fun zx5 ezx5 => ?_)
    obtain rfl : x5 = zx5 := ex5.trans ezx5.symm
    obtain ⟨y6, hy6, hF⟩ := bnd_some hF
    have J6 : ∀ (H : Heap) (locs : List Loc) (ls : Array Slot), va_P D classes (wld ct ad G M) H → va_D A (wld ct ad G M) → va_S A s.heap H locs → lv_has ls 3 [(0, va_re ad p0), (1, .int p1), (2, .int p2)] → W p l e (headSpec wsX8_endsUnit ({ frames := 0, cells := 0, slots := 0, locals := 0 })).room s m ([va_re ad p0, .int p1, .int p2] : List Value).toArray below meth c H locs 0 0 (MQ below (va_Qi (fun (q : Int32) (_ : Unit) => q = y.2) (fun _ t => kE D ct ad G A y.1 t) A) ([va_re ad p0, .int p1, .int p2] : List Value).toArray s 0 0 A) (F0 m 43 ls [.int y6]) := by
      intro H locs ls hP hD hS hl
      obtain rfl := Option.some.inj hF
      exact J2 _ _ _ hP hD hS (lv_sub hl [0, 1, 2] rfl)
    clear hF
    have hF := hy6
    clear hy6
    refine lv_if_ne (tgt := 42) hx hb dX8_endsUnit_10 (by decide) (fun c7 => ?_) (fun c7 => ?_)
    · rw [if_neg c7] at hF
      refine lv_iconst (v := (0 : Int32)) hx hb dX8_endsUnit_42 (by decide) ?_
      obtain rfl := Option.some.inj hF
      exact J6 _ _ _ hP hD hS (lv_sub hl [0, 1, 2] rfl)
    · rw [if_pos c7] at hF
      refine lv_aloadq_n hx hb dX8_endsUnit_13 rfl (lv_at hl 0 rfl) ?_
      refine lv_iload_n hx hb dX8_endsUnit_14 rfl (lv_at hl 1 rfl) ?_
      refine lv_iconst (v := (1 : Int32)) hx hb dX8_endsUnit_15 (by decide) ?_
      refine lv_iadd hx hb dX8_endsUnit_16 ?_
      obtain ⟨x8, ex8, hF⟩ := ltt_some hF
      refine lv_topi (fun zx8 ezx8 => ?_)
      obtain rfl : x8 = zx8 := ex8.trans ezx8.symm
      refine W_st (st' := [.int x8, .ref (ad b4)]) (by rw [va_some ho4]) ?_
      obtain ⟨hvc, hF⟩ := chk_some hF
      refine va_bald hx hb hK hP b4 0 (wld_b ct ad G M hc4 hk4) rfl hvc dX8_endsUnit_17 ?_
      obtain ⟨x9, ex9, hF⟩ := ltt_some hF
      refine lv_topi (fun zx9 ezx9 => ?_)
      obtain rfl : x9 = zx9 := ex9.trans ezx9.symm
      obtain ⟨y10, hy10, hF⟩ := bnd_some hF
      have J10 : ∀ (H : Heap) (locs : List Loc) (ls : Array Slot), va_P D classes (wld ct ad G M) H → va_D A (wld ct ad G M) → va_S A s.heap H locs → lv_has ls 3 [(0, va_re ad p0), (1, .int p1), (2, .int p2)] → W p l e (headSpec wsX8_endsUnit ({ frames := 0, cells := 0, slots := 0, locals := 0 })).room s m ([va_re ad p0, .int p1, .int p2] : List Value).toArray below meth c H locs 0 0 (MQ below (va_Qi (fun (q : Int32) (_ : Unit) => q = y.2) (fun _ t => kE D ct ad G A y.1 t) A) ([va_re ad p0, .int p1, .int p2] : List Value).toArray s 0 0 A) (F0 m 43 ls [.int y10]) := by
        intro H locs ls hP hD hS hl
        obtain rfl := Option.some.inj hF
        exact J6 _ _ _ hP hD hS (lv_sub hl [0, 1, 2] rfl)
      clear hF
      have hF := hy10
      clear hy10
      refine lv_if_ne (tgt := 42) hx hb dX8_endsUnit_18 (by decide) (fun c11 => ?_) (fun c11 => ?_)
      · rw [if_neg c11] at hF
        refine lv_iconst (v := (0 : Int32)) hx hb dX8_endsUnit_42 (by decide) ?_
        obtain rfl := Option.some.inj hF
        exact J10 _ _ _ hP hD hS (lv_sub hl [0, 1, 2] rfl)
      · rw [if_pos c11] at hF
        refine lv_aloadq_n hx hb dX8_endsUnit_21 rfl (lv_at hl 0 rfl) ?_
        refine lv_iload_n hx hb dX8_endsUnit_22 rfl (lv_at hl 1 rfl) ?_
        refine lv_iconst (v := (2 : Int32)) hx hb dX8_endsUnit_23 (by decide) ?_
        refine lv_iadd hx hb dX8_endsUnit_24 ?_
        obtain ⟨x12, ex12, hF⟩ := ltt_some hF
        refine lv_topi (fun zx12 ezx12 => ?_)
        obtain rfl : x12 = zx12 := ex12.trans ezx12.symm
        refine W_st (st' := [.int x12, .ref (ad b4)]) (by rw [va_some ho4]) ?_
        obtain ⟨hvc, hF⟩ := chk_some hF
        refine va_bald hx hb hK hP b4 0 (wld_b ct ad G M hc4 hk4) rfl hvc dX8_endsUnit_25 ?_
        obtain ⟨x13, ex13, hF⟩ := ltt_some hF
        refine lv_topi (fun zx13 ezx13 => ?_)
        obtain rfl : x13 = zx13 := ex13.trans ezx13.symm
        obtain ⟨y14, hy14, hF⟩ := bnd_some hF
        have J14 : ∀ (H : Heap) (locs : List Loc) (ls : Array Slot), va_P D classes (wld ct ad G M) H → va_D A (wld ct ad G M) → va_S A s.heap H locs → lv_has ls 3 [(0, va_re ad p0), (1, .int p1), (2, .int p2)] → W p l e (headSpec wsX8_endsUnit ({ frames := 0, cells := 0, slots := 0, locals := 0 })).room s m ([va_re ad p0, .int p1, .int p2] : List Value).toArray below meth c H locs 0 0 (MQ below (va_Qi (fun (q : Int32) (_ : Unit) => q = y.2) (fun _ t => kE D ct ad G A y.1 t) A) ([va_re ad p0, .int p1, .int p2] : List Value).toArray s 0 0 A) (F0 m 43 ls [.int y14]) := by
          intro H locs ls hP hD hS hl
          obtain rfl := Option.some.inj hF
          exact J10 _ _ _ hP hD hS (lv_sub hl [0, 1, 2] rfl)
        clear hF
        have hF := hy14
        clear hy14
        refine lv_if_eq (tgt := 38) hx hb dX8_endsUnit_26 (by decide) (fun c15 => ?_) (fun c15 => ?_)
        · rw [if_pos c15] at hF
          refine lv_iconst (v := (1 : Int32)) hx hb dX8_endsUnit_38 (by decide) ?_
          refine lv_goto (tgt := 43) hx hb dX8_endsUnit_39 (by decide) ?_
          obtain rfl := Option.some.inj hF
          exact J14 _ _ _ hP hD hS (lv_sub hl [0, 1, 2] rfl)
        · rw [if_neg c15] at hF
          refine lv_aloadq_n hx hb dX8_endsUnit_29 rfl (lv_at hl 0 rfl) ?_
          refine lv_iload_n hx hb dX8_endsUnit_30 rfl (lv_at hl 1 rfl) ?_
          refine lv_iconst (v := (2 : Int32)) hx hb dX8_endsUnit_31 (by decide) ?_
          refine lv_iadd hx hb dX8_endsUnit_32 ?_
          obtain ⟨x16, ex16, hF⟩ := ltt_some hF
          refine lv_topi (fun zx16 ezx16 => ?_)
          obtain rfl : x16 = zx16 := ex16.trans ezx16.symm
          refine W_st (st' := [.int x16, .ref (ad b4)]) (by rw [va_some ho4]) ?_
          obtain ⟨hvc, hF⟩ := chk_some hF
          refine va_bald hx hb hK hP b4 0 (wld_b ct ad G M hc4 hk4) rfl hvc dX8_endsUnit_33 ?_
          obtain ⟨x17, ex17, hF⟩ := ltt_some hF
          refine lv_topi (fun zx17 ezx17 => ?_)
          obtain rfl : x17 = zx17 := ex17.trans ezx17.symm
          refine lv_iconst (v := (1 : Int32)) hx hb dX8_endsUnit_34 (by decide) ?_
          obtain ⟨y18, hy18, hF⟩ := bnd_some hF
          have J18 : ∀ (H : Heap) (locs : List Loc) (ls : Array Slot), va_P D classes (wld ct ad G M) H → va_D A (wld ct ad G M) → va_S A s.heap H locs → lv_has ls 3 [(0, va_re ad p0), (1, .int p1), (2, .int p2)] → W p l e (headSpec wsX8_endsUnit ({ frames := 0, cells := 0, slots := 0, locals := 0 })).room s m ([va_re ad p0, .int p1, .int p2] : List Value).toArray below meth c H locs 0 0 (MQ below (va_Qi (fun (q : Int32) (_ : Unit) => q = y.2) (fun _ t => kE D ct ad G A y.1 t) A) ([va_re ad p0, .int p1, .int p2] : List Value).toArray s 0 0 A) (F0 m 43 ls [.int y18]) := by
            intro H locs ls hP hD hS hl
            obtain rfl := Option.some.inj hF
            exact J14 _ _ _ hP hD hS (lv_sub hl [0, 1, 2] rfl)
          clear hF
          have hF := hy18
          clear hy18
          refine lv_icmp_ne (tgt := 42) hx hb dX8_endsUnit_35 (by decide) (fun c19 => ?_) (fun c19 => ?_)
          · rw [if_neg c19] at hF
            refine lv_iconst (v := (0 : Int32)) hx hb dX8_endsUnit_42 (by decide) ?_
            obtain rfl := Option.some.inj hF
            exact J18 _ _ _ hP hD hS (lv_sub hl [0, 1, 2] rfl)
          · rw [if_pos c19] at hF
            refine lv_iconst (v := (1 : Int32)) hx hb dX8_endsUnit_38 (by decide) ?_
            refine lv_goto (tgt := 43) hx hb dX8_endsUnit_39 (by decide) ?_
            obtain rfl := Option.some.inj hF
            exact J18 _ _ _ hP hD hS (lv_sub hl [0, 1, 2] rfl)
theorem dX8_init_0 : decode cX8_init 0 = .ok (.aload_n 0, 1) := by decide +kernel
theorem dX8_init_1 : decode cX8_init 1 = .ok (.invokespecial 3, 3) := by decide +kernel
theorem dX8_init_4 : decode cX8_init 4 = .ok (.aload_n 0, 1) := by decide +kernel
theorem dX8_init_5 : decode cX8_init 5 = .ok (.ldc 9, 2) := by decide +kernel
theorem dX8_init_7 : decode cX8_init 7 = .ok (.newarray .byte, 2) := by decide +kernel
theorem dX8_init_9 : decode cX8_init 9 = .ok (.putfield 10, 3) := by decide +kernel
theorem dX8_init_12 : decode cX8_init 12 = .ok (.aload_n 0, 1) := by decide +kernel
theorem dX8_init_13 : decode cX8_init 13 = .ok (.sipush 400, 3) := by decide +kernel
theorem dX8_init_16 : decode cX8_init 16 = .ok (.newarray .int, 2) := by decide +kernel
theorem dX8_init_18 : decode cX8_init 18 = .ok (.putfield 16, 3) := by decide +kernel
theorem dX8_init_21 : decode cX8_init 21 = .ok (.aload_n 0, 1) := by decide +kernel
theorem dX8_init_22 : decode cX8_init 22 = .ok (.sipush 400, 3) := by decide +kernel
theorem dX8_init_25 : decode cX8_init 25 = .ok (.newarray .int, 2) := by decide +kernel
theorem dX8_init_27 : decode cX8_init 27 = .ok (.putfield 20, 3) := by decide +kernel
theorem dX8_init_30 : decode cX8_init 30 = .ok (.aload_n 0, 1) := by decide +kernel
theorem dX8_init_31 : decode cX8_init 31 = .ok (.sipush 400, 3) := by decide +kernel
theorem dX8_init_34 : decode cX8_init 34 = .ok (.newarray .int, 2) := by decide +kernel
theorem dX8_init_36 : decode cX8_init 36 = .ok (.putfield 23, 3) := by decide +kernel
theorem dX8_init_39 : decode cX8_init 39 = .ok (.aload_n 0, 1) := by decide +kernel
theorem dX8_init_40 : decode cX8_init 40 = .ok (.sipush 400, 3) := by decide +kernel
theorem dX8_init_43 : decode cX8_init 43 = .ok (.newarray .int, 2) := by decide +kernel
theorem dX8_init_45 : decode cX8_init 45 = .ok (.putfield 26, 3) := by decide +kernel
theorem dX8_init_48 : decode cX8_init 48 = .ok (.aload_n 0, 1) := by decide +kernel
theorem dX8_init_49 : decode cX8_init 49 = .ok (.ldc 9, 2) := by decide +kernel
theorem dX8_init_51 : decode cX8_init 51 = .ok (.newarray .byte, 2) := by decide +kernel
theorem dX8_init_53 : decode cX8_init 53 = .ok (.putfield 29, 3) := by decide +kernel
theorem dX8_init_56 : decode cX8_init 56 = .ok (.aload_n 0, 1) := by decide +kernel
theorem dX8_init_57 : decode cX8_init 57 = .ok (.sipush 240, 3) := by decide +kernel
theorem dX8_init_60 : decode cX8_init 60 = .ok (.newarray .int, 2) := by decide +kernel
theorem dX8_init_62 : decode cX8_init 62 = .ok (.putfield 32, 3) := by decide +kernel
theorem dX8_init_65 : decode cX8_init 65 = .ok (.aload_n 0, 1) := by decide +kernel
theorem dX8_init_66 : decode cX8_init 66 = .ok (.iconst 4, 1) := by decide +kernel
theorem dX8_init_67 : decode cX8_init 67 = .ok (.newarray .int, 2) := by decide +kernel
theorem dX8_init_69 : decode cX8_init 69 = .ok (.putfield 35, 3) := by decide +kernel
theorem dX8_init_72 : decode cX8_init 72 = .ok (.aload_n 0, 1) := by decide +kernel
theorem dX8_init_73 : decode cX8_init 73 = .ok (.bipush 6, 2) := by decide +kernel
theorem dX8_init_75 : decode cX8_init 75 = .ok (.newarray .int, 2) := by decide +kernel
theorem dX8_init_77 : decode cX8_init 77 = .ok (.putfield 38, 3) := by decide +kernel
theorem dX8_init_80 : decode cX8_init 80 = .ok (.return_, 1) := by decide +kernel
noncomputable def FX8_init (G : GG) (M : DD) (a : Nat)  : Option (NN × DD) :=
  chkP (Clo (xt G []) M) <|
  chk (¬ ((65536 : Int32)) < 0 ∧ ((65536 : Int32)).toNatClampNeg * 4 ≤ 536870912) <|
  ltt ((xt G []).1) fun c2 =>
  app [(12, ((65536 : Int32)).toNatClampNeg)] <|
  ltt ([] ++ [(12, ((65536 : Int32)).toNatClampNeg)]) fun L4 =>
  ltt (rO M c2) fun M5 =>
  ltt (uP M5 a 0 (some c2)) fun M8 =>
  chkP (Clo (xt G L4) M8) <|
  chk (¬ ((400 : Int32)) < 0 ∧ ((400 : Int32)).toNatClampNeg * 4 ≤ 536870912) <|
  ltt ((xt G L4).1) fun c10 =>
  app [(13, ((400 : Int32)).toNatClampNeg)] <|
  ltt (L4 ++ [(13, ((400 : Int32)).toNatClampNeg)]) fun L12 =>
  ltt (rO M8 c10) fun M13 =>
  ltt (uP M13 a 1 (some c10)) fun M16 =>
  chkP (Clo (xt G L12) M16) <|
  chk (¬ ((400 : Int32)) < 0 ∧ ((400 : Int32)).toNatClampNeg * 4 ≤ 536870912) <|
  ltt ((xt G L12).1) fun c18 =>
  app [(13, ((400 : Int32)).toNatClampNeg)] <|
  ltt (L12 ++ [(13, ((400 : Int32)).toNatClampNeg)]) fun L20 =>
  ltt (rO M16 c18) fun M21 =>
  ltt (uP M21 a 2 (some c18)) fun M24 =>
  chkP (Clo (xt G L20) M24) <|
  chk (¬ ((400 : Int32)) < 0 ∧ ((400 : Int32)).toNatClampNeg * 4 ≤ 536870912) <|
  ltt ((xt G L20).1) fun c26 =>
  app [(13, ((400 : Int32)).toNatClampNeg)] <|
  ltt (L20 ++ [(13, ((400 : Int32)).toNatClampNeg)]) fun L28 =>
  ltt (rO M24 c26) fun M29 =>
  ltt (uP M29 a 5 (some c26)) fun M32 =>
  chkP (Clo (xt G L28) M32) <|
  chk (¬ ((400 : Int32)) < 0 ∧ ((400 : Int32)).toNatClampNeg * 4 ≤ 536870912) <|
  ltt ((xt G L28).1) fun c34 =>
  app [(13, ((400 : Int32)).toNatClampNeg)] <|
  ltt (L28 ++ [(13, ((400 : Int32)).toNatClampNeg)]) fun L36 =>
  ltt (rO M32 c34) fun M37 =>
  ltt (uP M37 a 6 (some c34)) fun M40 =>
  chkP (Clo (xt G L36) M40) <|
  chk (¬ ((65536 : Int32)) < 0 ∧ ((65536 : Int32)).toNatClampNeg * 4 ≤ 536870912) <|
  ltt ((xt G L36).1) fun c42 =>
  app [(12, ((65536 : Int32)).toNatClampNeg)] <|
  ltt (L36 ++ [(12, ((65536 : Int32)).toNatClampNeg)]) fun L44 =>
  ltt (rO M40 c42) fun M45 =>
  ltt (uP M45 a 8 (some c42)) fun M48 =>
  chkP (Clo (xt G L44) M48) <|
  chk (¬ ((240 : Int32)) < 0 ∧ ((240 : Int32)).toNatClampNeg * 4 ≤ 536870912) <|
  ltt ((xt G L44).1) fun c50 =>
  app [(13, ((240 : Int32)).toNatClampNeg)] <|
  ltt (L44 ++ [(13, ((240 : Int32)).toNatClampNeg)]) fun L52 =>
  ltt (rO M48 c50) fun M53 =>
  ltt (uP M53 a 10 (some c50)) fun M56 =>
  chkP (Clo (xt G L52) M56) <|
  chk (¬ ((4 : Int32)) < 0 ∧ ((4 : Int32)).toNatClampNeg * 4 ≤ 536870912) <|
  ltt ((xt G L52).1) fun c58 =>
  app [(13, ((4 : Int32)).toNatClampNeg)] <|
  ltt (L52 ++ [(13, ((4 : Int32)).toNatClampNeg)]) fun L60 =>
  ltt (rO M56 c58) fun M61 =>
  ltt (uP M61 a 12 (some c58)) fun M64 =>
  chkP (Clo (xt G L60) M64) <|
  chk (¬ ((6 : Int32)) < 0 ∧ ((6 : Int32)).toNatClampNeg * 4 ≤ 536870912) <|
  ltt ((xt G L60).1) fun c66 =>
  app [(13, ((6 : Int32)).toNatClampNeg)] <|
  ltt (L60 ++ [(13, ((6 : Int32)).toNatClampNeg)]) fun L68 =>
  ltt (rO M64 c66) fun M69 =>
  ltt (uP M69 a 13 (some c66)) fun M72 =>
  some ([], M72)
set_option maxHeartbeats 4000000 in
set_option maxRecDepth 100000 in
theorem kX8_init (l : Launch) (D : va_G) (ct : CT) (ad : Nat → Nat) (Z : Nat → Nat) (G : GG) (M : DD) (sz : Nat) (a : Nat)  (y : NN × DD) (hc : a < G.1) (hk : G.2.1 a = 8) (hF : FX8_init G M a  = some y) : Met l yX8_init wsX8_init ({ frames := 1, cells := y.1.length, slots := wt y.1, locals := 20 }) (va_Pc [.ref (ad a)] (kB D ct ad Z G M sz)) (va_Qv (fun (u : Nat → Nat) => agr G.1 ad u) (fun u t => kE D ct u (xt G y.1) (wA ad G sz) y.2 t) (wA ad G sz)) y.1.length (wt y.1) (wA ad G sz) := by
  refine Met.ofW (cc := cX8_init) (maxL := 1) (ret := none) (by decide) rfl ?_
  intro p e s m args below meth c s₁ B hml hv
  obtain ⟨rfl, hsz, hP, hK, hD0, hZ, hN⟩ := hv
  have hx := B.exec
  have hb := B.bytes
  have hr := B.returns
  have hts := atoms_spec (ws := wsX8_init) B.pre
  have hown : s.vm.findClass RX8 = some m.cls := findClass_of_methodNamed B.named
  have hlocks := B.notSynchronized
  have hin : meth.name = "<init>" := (name_of_methodNamed B.named B.method).1
  subst hsz
  have hD := wD_self (sz := s.heap.size) hD0
  have hA9 : ∀ q, s.heap.size ≤ q → wA ad G s.heap.size q := fun q h => Or.inr h
  generalize hAe : wA ad G s.heap.size = A at hD hA9 hZ ⊢
  have hS : va_S A s.heap s.heap [] := va_S.rf
  have hl := lv_entry ([.ref (ad a)]) (n := 1) (Nat.le_of_ble_eq_true rfl)
  rw [lg_entry_eq]
  generalize (lg_sl ([.ref (ad a)]) ++ List.replicate (1 - (lg_sl ([.ref (ad a)])).length) Slot.unset).toArray = ls at hl ⊢
  have hl : lv_has ls 1 [(0, .ref (ad a))] := hl
  unfold FX8_init at hF
  rw [← wld_0 ct ad G M] at hP hD
  have hk := xt_k0 hc hk
  have hc := xt_l0 hc
  have hag := agr_rf G.1 ad
  obtain ⟨w0, hw0⟩ : ∃ z, z = y := ⟨_, rfl⟩
  rw [← hw0] at hF
  have hT : y.1 = [] ++ w0.1 := by rw [hw0]; rfl
  have h2 : y.2 = w0.2 := by rw [hw0]
  have hbl : y.1.length ≤ y.1.length ∧ wt y.1 ≤ wt y.1 := ⟨Nat.le_refl _, Nat.le_refl _⟩
  refine lv_aload_n hx hb dX8_init_0 rfl (lv_at hl 0 rfl) ?_
  refine W.objInit hx hb hown (hts (.methodLink RX8 3 objectInit) (by decide +kernel)) (hts (.instanceMethod objectInit) (by decide +kernel)) (hts (.code objectInit ⟨#[0xb1]⟩ 1 none) (by decide +kernel)) rfl (by rw [hml]; exact hl.1) rfl dX8_init_1 (Nat.le_of_ble_eq_true rfl) (Nat.le_of_ble_eq_true rfl) ?_
  refine W.eq (g2 := F0 m 4 ls []) rfl ?_
  refine lv_aload_n hx hb dX8_init_4 rfl (lv_at hl 0 rfl) ?_
  refine lv_ldc (v := (65536 : Int32)) hx hb hown (hts (.constant RX8 9 (65536 : Int32)) (by decide +kernel)) dX8_init_5 ?_
  obtain ⟨hC1, hF⟩ := chkP_some hF
  obtain ⟨hz9, hF⟩ := chk_some hF
  obtain ⟨c2, ec2, hF⟩ := ltt_some hF
  obtain ⟨w3, hF, ew3⟩ := app_some hF
  obtain ⟨L4, eL4, hF⟩ := ltt_some hF
  have hT4 : y.1 = ([] ++ [(12, ((65536 : Int32)).toNatClampNeg)]) ++ w3.1 := by rw [hT, ew3]; simp only [List.append_assoc]
  obtain ⟨M5, eM5, hF⟩ := ltt_some hF
  refine new_b hx hb (hts (.arrayClass .byte) (by decide +kernel)) hK hP hD hS hA9 hz9.1 hz9.2 hC1 (room_1s hT4 hbl) dX8_init_7 (fun ad6 H hn7 hP hD hS => ?_)
  rw [← ec2, ← eL4, ← eM5] at hP hD
  refine W_cs (k := L4.length) (n := wt L4) (by rw [eL4]) (by rw [eL4]) ?_
  refine W_st (st' := [.ref (ad6 c2), .ref (ad a)]) (by rw [ec2]) ?_
  have hT : y.1 = L4 ++ w3.1 := by rw [hT4, eL4]
  have h2 : y.2 = w3.2 := by rw [h2, ew3]
  have hl := lv_sub (l' := [(0, .ref (ad a))]) hl [0] rfl
  have e9 : ([(0, .ref (ad a))] : List (Nat × Value)) = [(0, .ref (ad6 a))] := (by first | rfl | simp only [hn7 a hc])
  rw [e9] at hl
  clear e9
  refine W_st (st' := [.ref (ad6 c2), .ref (ad6 a)]) (by first | rfl | simp only [hn7 a hc]) ?_
  have hk : (xt G L4).2.1 a = 8 := by rw [eL4]; exact xt_k _ hc hk
  have hc : a < (xt G L4).1 := by rw [eL4]; exact xt_l _ hc
  have hag := agr_t (xt_ge _ _) hag hn7
  have hc2 : c2 < (xt G L4).1 := by rw [ec2, eL4]; exact cnt_new _ _ _
  have hk2 : (xt G L4).2.1 c2 = 12 := by rw [ec2, eL4]; exact (kind_new _ _ _ _).1
  refine va_putF (D := D) (ci := 8) (v := va_re ad6 (some c2)) (ty := (.array .byte)) (C := RX8) (T := TX8) (N := 15) hx hb hts (by decide +kernel) tyX8 tyX8_ok nmX8 hown hK hP hD hS a (wld_o ct ad6 (xt G L4) M5 hc hk (by decide)) rfl 0 (by decide) (hts (.fieldLink RX8 10 "VideoSuite$Units" "bytes" "[B") (by decide +kernel)) (fun _ h9 => h9) rfl hin rfl (by decide +kernel) (nar_q ad6 (Or.inr ⟨_, rfl⟩) (some c2)).1 (nar_q ad6 (Or.inr ⟨_, rfl⟩) (some c2)).2 (Nat.le_of_ble_eq_true rfl) dX8_init_9 (fun H locs hP hD hS => ?_)
  obtain ⟨M8, eM8, hF⟩ := ltt_some hF
  rw [set_oP ct ad6 (xt G L4) M5 hc hk (by decide) (by rfl), ← eM8] at hP hD
  refine lv_aload_n hx hb dX8_init_12 rfl (lv_at hl 0 rfl) ?_
  refine lv_sipush (v := (400 : Int32)) hx hb dX8_init_13 (by decide) ?_
  obtain ⟨hC9, hF⟩ := chkP_some hF
  obtain ⟨hz9, hF⟩ := chk_some hF
  obtain ⟨c10, ec10, hF⟩ := ltt_some hF
  obtain ⟨w11, hF, ew11⟩ := app_some hF
  obtain ⟨L12, eL12, hF⟩ := ltt_some hF
  have hT12 : y.1 = (L4 ++ [(13, ((400 : Int32)).toNatClampNeg)]) ++ w11.1 := by rw [hT, ew11]; simp only [List.append_assoc]
  obtain ⟨M13, eM13, hF⟩ := ltt_some hF
  refine new_i hx hb (hts (.arrayClass .int) (by decide +kernel)) hK hP hD hS hA9 hz9.1 hz9.2 hC9 (room_1s hT12 hbl) dX8_init_16 (fun ad14 H hn15 hP hD hS => ?_)
  rw [← ec10, ← eL12, ← eM13] at hP hD
  refine W_cs (k := L12.length) (n := wt L12) (by rw [eL12]) (by rw [eL12]) ?_
  refine W_st (st' := [.ref (ad14 c10), .ref (ad6 a)]) (by rw [ec10]) ?_
  have hT : y.1 = L12 ++ w11.1 := by rw [hT12, eL12]
  have h2 : y.2 = w11.2 := by rw [h2, ew11]
  have hl := lv_sub (l' := [(0, .ref (ad6 a))]) hl [0] rfl
  have e9 : ([(0, .ref (ad6 a))] : List (Nat × Value)) = [(0, .ref (ad14 a))] := (by first | rfl | simp only [hn15 a hc])
  rw [e9] at hl
  clear e9
  refine W_st (st' := [.ref (ad14 c10), .ref (ad14 a)]) (by first | rfl | simp only [hn15 a hc]) ?_
  have hk : (xt G L12).2.1 a = 8 := by rw [eL12]; exact xt_k _ hc hk
  have hc : a < (xt G L12).1 := by rw [eL12]; exact xt_l _ hc
  have hk2 : (xt G L12).2.1 c2 = 12 := by rw [eL12]; exact xt_k _ hc2 hk2
  have hc2 : c2 < (xt G L12).1 := by rw [eL12]; exact xt_l _ hc2
  have hag := agr_t (xt_ge _ _) hag hn15
  have hc10 : c10 < (xt G L12).1 := by rw [ec10, eL12]; exact cnt_new _ _ _
  have hk10 : (xt G L12).2.1 c10 = 13 := by rw [ec10, eL12]; exact (kind_new _ _ _ _).1
  refine va_putF (D := D) (ci := 8) (v := va_re ad14 (some c10)) (ty := (.array .int)) (C := RX8) (T := TX8) (N := 15) hx hb hts (by decide +kernel) tyX8 tyX8_ok nmX8 hown hK hP hD hS a (wld_o ct ad14 (xt G L12) M13 hc hk (by decide)) rfl 1 (by decide) (hts (.fieldLink RX8 16 "VideoSuite$Units" "start" "[I") (by decide +kernel)) (fun _ h9 => h9) rfl hin rfl (by decide +kernel) (nar_q ad14 (Or.inr ⟨_, rfl⟩) (some c10)).1 (nar_q ad14 (Or.inr ⟨_, rfl⟩) (some c10)).2 (Nat.le_of_ble_eq_true rfl) dX8_init_18 (fun H locs hP hD hS => ?_)
  obtain ⟨M16, eM16, hF⟩ := ltt_some hF
  rw [set_oP ct ad14 (xt G L12) M13 hc hk (by decide) (by rfl), ← eM16] at hP hD
  refine lv_aload_n hx hb dX8_init_21 rfl (lv_at hl 0 rfl) ?_
  refine lv_sipush (v := (400 : Int32)) hx hb dX8_init_22 (by decide) ?_
  obtain ⟨hC17, hF⟩ := chkP_some hF
  obtain ⟨hz9, hF⟩ := chk_some hF
  obtain ⟨c18, ec18, hF⟩ := ltt_some hF
  obtain ⟨w19, hF, ew19⟩ := app_some hF
  obtain ⟨L20, eL20, hF⟩ := ltt_some hF
  have hT20 : y.1 = (L12 ++ [(13, ((400 : Int32)).toNatClampNeg)]) ++ w19.1 := by rw [hT, ew19]; simp only [List.append_assoc]
  obtain ⟨M21, eM21, hF⟩ := ltt_some hF
  refine new_i hx hb (hts (.arrayClass .int) (by decide +kernel)) hK hP hD hS hA9 hz9.1 hz9.2 hC17 (room_1s hT20 hbl) dX8_init_25 (fun ad22 H hn23 hP hD hS => ?_)
  rw [← ec18, ← eL20, ← eM21] at hP hD
  refine W_cs (k := L20.length) (n := wt L20) (by rw [eL20]) (by rw [eL20]) ?_
  refine W_st (st' := [.ref (ad22 c18), .ref (ad14 a)]) (by rw [ec18]) ?_
  have hT : y.1 = L20 ++ w19.1 := by rw [hT20, eL20]
  have h2 : y.2 = w19.2 := by rw [h2, ew19]
  have hl := lv_sub (l' := [(0, .ref (ad14 a))]) hl [0] rfl
  have e9 : ([(0, .ref (ad14 a))] : List (Nat × Value)) = [(0, .ref (ad22 a))] := (by first | rfl | simp only [hn23 a hc])
  rw [e9] at hl
  clear e9
  refine W_st (st' := [.ref (ad22 c18), .ref (ad22 a)]) (by first | rfl | simp only [hn23 a hc]) ?_
  have hk : (xt G L20).2.1 a = 8 := by rw [eL20]; exact xt_k _ hc hk
  have hc : a < (xt G L20).1 := by rw [eL20]; exact xt_l _ hc
  have hk2 : (xt G L20).2.1 c2 = 12 := by rw [eL20]; exact xt_k _ hc2 hk2
  have hc2 : c2 < (xt G L20).1 := by rw [eL20]; exact xt_l _ hc2
  have hk10 : (xt G L20).2.1 c10 = 13 := by rw [eL20]; exact xt_k _ hc10 hk10
  have hc10 : c10 < (xt G L20).1 := by rw [eL20]; exact xt_l _ hc10
  have hag := agr_t (xt_ge _ _) hag hn23
  have hc18 : c18 < (xt G L20).1 := by rw [ec18, eL20]; exact cnt_new _ _ _
  have hk18 : (xt G L20).2.1 c18 = 13 := by rw [ec18, eL20]; exact (kind_new _ _ _ _).1
  refine va_putF (D := D) (ci := 8) (v := va_re ad22 (some c18)) (ty := (.array .int)) (C := RX8) (T := TX8) (N := 15) hx hb hts (by decide +kernel) tyX8 tyX8_ok nmX8 hown hK hP hD hS a (wld_o ct ad22 (xt G L20) M21 hc hk (by decide)) rfl 2 (by decide) (hts (.fieldLink RX8 20 "VideoSuite$Units" "size" "[I") (by decide +kernel)) (fun _ h9 => h9) rfl hin rfl (by decide +kernel) (nar_q ad22 (Or.inr ⟨_, rfl⟩) (some c18)).1 (nar_q ad22 (Or.inr ⟨_, rfl⟩) (some c18)).2 (Nat.le_of_ble_eq_true rfl) dX8_init_27 (fun H locs hP hD hS => ?_)
  obtain ⟨M24, eM24, hF⟩ := ltt_some hF
  rw [set_oP ct ad22 (xt G L20) M21 hc hk (by decide) (by rfl), ← eM24] at hP hD
  refine lv_aload_n hx hb dX8_init_30 rfl (lv_at hl 0 rfl) ?_
  refine lv_sipush (v := (400 : Int32)) hx hb dX8_init_31 (by decide) ?_
  obtain ⟨hC25, hF⟩ := chkP_some hF
  obtain ⟨hz9, hF⟩ := chk_some hF
  obtain ⟨c26, ec26, hF⟩ := ltt_some hF
  obtain ⟨w27, hF, ew27⟩ := app_some hF
  obtain ⟨L28, eL28, hF⟩ := ltt_some hF
  have hT28 : y.1 = (L20 ++ [(13, ((400 : Int32)).toNatClampNeg)]) ++ w27.1 := by rw [hT, ew27]; simp only [List.append_assoc]
  obtain ⟨M29, eM29, hF⟩ := ltt_some hF
  refine new_i hx hb (hts (.arrayClass .int) (by decide +kernel)) hK hP hD hS hA9 hz9.1 hz9.2 hC25 (room_1s hT28 hbl) dX8_init_34 (fun ad30 H hn31 hP hD hS => ?_)
  rw [← ec26, ← eL28, ← eM29] at hP hD
  refine W_cs (k := L28.length) (n := wt L28) (by rw [eL28]) (by rw [eL28]) ?_
  refine W_st (st' := [.ref (ad30 c26), .ref (ad22 a)]) (by rw [ec26]) ?_
  have hT : y.1 = L28 ++ w27.1 := by rw [hT28, eL28]
  have h2 : y.2 = w27.2 := by rw [h2, ew27]
  have hl := lv_sub (l' := [(0, .ref (ad22 a))]) hl [0] rfl
  have e9 : ([(0, .ref (ad22 a))] : List (Nat × Value)) = [(0, .ref (ad30 a))] := (by first | rfl | simp only [hn31 a hc])
  rw [e9] at hl
  clear e9
  refine W_st (st' := [.ref (ad30 c26), .ref (ad30 a)]) (by first | rfl | simp only [hn31 a hc]) ?_
  have hk : (xt G L28).2.1 a = 8 := by rw [eL28]; exact xt_k _ hc hk
  have hc : a < (xt G L28).1 := by rw [eL28]; exact xt_l _ hc
  have hk2 : (xt G L28).2.1 c2 = 12 := by rw [eL28]; exact xt_k _ hc2 hk2
  have hc2 : c2 < (xt G L28).1 := by rw [eL28]; exact xt_l _ hc2
  have hk10 : (xt G L28).2.1 c10 = 13 := by rw [eL28]; exact xt_k _ hc10 hk10
  have hc10 : c10 < (xt G L28).1 := by rw [eL28]; exact xt_l _ hc10
  have hk18 : (xt G L28).2.1 c18 = 13 := by rw [eL28]; exact xt_k _ hc18 hk18
  have hc18 : c18 < (xt G L28).1 := by rw [eL28]; exact xt_l _ hc18
  have hag := agr_t (xt_ge _ _) hag hn31
  have hc26 : c26 < (xt G L28).1 := by rw [ec26, eL28]; exact cnt_new _ _ _
  have hk26 : (xt G L28).2.1 c26 = 13 := by rw [ec26, eL28]; exact (kind_new _ _ _ _).1
  refine va_putF (D := D) (ci := 8) (v := va_re ad30 (some c26)) (ty := (.array .int)) (C := RX8) (T := TX8) (N := 15) hx hb hts (by decide +kernel) tyX8 tyX8_ok nmX8 hown hK hP hD hS a (wld_o ct ad30 (xt G L28) M29 hc hk (by decide)) rfl 5 (by decide) (hts (.fieldLink RX8 23 "VideoSuite$Units" "foundStart" "[I") (by decide +kernel)) (fun _ h9 => h9) rfl hin rfl (by decide +kernel) (nar_q ad30 (Or.inr ⟨_, rfl⟩) (some c26)).1 (nar_q ad30 (Or.inr ⟨_, rfl⟩) (some c26)).2 (Nat.le_of_ble_eq_true rfl) dX8_init_36 (fun H locs hP hD hS => ?_)
  obtain ⟨M32, eM32, hF⟩ := ltt_some hF
  rw [set_oP ct ad30 (xt G L28) M29 hc hk (by decide) (by rfl), ← eM32] at hP hD
  refine lv_aload_n hx hb dX8_init_39 rfl (lv_at hl 0 rfl) ?_
  refine lv_sipush (v := (400 : Int32)) hx hb dX8_init_40 (by decide) ?_
  obtain ⟨hC33, hF⟩ := chkP_some hF
  obtain ⟨hz9, hF⟩ := chk_some hF
  obtain ⟨c34, ec34, hF⟩ := ltt_some hF
  obtain ⟨w35, hF, ew35⟩ := app_some hF
  obtain ⟨L36, eL36, hF⟩ := ltt_some hF
  have hT36 : y.1 = (L28 ++ [(13, ((400 : Int32)).toNatClampNeg)]) ++ w35.1 := by rw [hT, ew35]; simp only [List.append_assoc]
  obtain ⟨M37, eM37, hF⟩ := ltt_some hF
  refine new_i hx hb (hts (.arrayClass .int) (by decide +kernel)) hK hP hD hS hA9 hz9.1 hz9.2 hC33 (room_1s hT36 hbl) dX8_init_43 (fun ad38 H hn39 hP hD hS => ?_)
  rw [← ec34, ← eL36, ← eM37] at hP hD
  refine W_cs (k := L36.length) (n := wt L36) (by rw [eL36]) (by rw [eL36]) ?_
  refine W_st (st' := [.ref (ad38 c34), .ref (ad30 a)]) (by rw [ec34]) ?_
  have hT : y.1 = L36 ++ w35.1 := by rw [hT36, eL36]
  have h2 : y.2 = w35.2 := by rw [h2, ew35]
  have hl := lv_sub (l' := [(0, .ref (ad30 a))]) hl [0] rfl
  have e9 : ([(0, .ref (ad30 a))] : List (Nat × Value)) = [(0, .ref (ad38 a))] := (by first | rfl | simp only [hn39 a hc])
  rw [e9] at hl
  clear e9
  refine W_st (st' := [.ref (ad38 c34), .ref (ad38 a)]) (by first | rfl | simp only [hn39 a hc]) ?_
  have hk : (xt G L36).2.1 a = 8 := by rw [eL36]; exact xt_k _ hc hk
  have hc : a < (xt G L36).1 := by rw [eL36]; exact xt_l _ hc
  have hk2 : (xt G L36).2.1 c2 = 12 := by rw [eL36]; exact xt_k _ hc2 hk2
  have hc2 : c2 < (xt G L36).1 := by rw [eL36]; exact xt_l _ hc2
  have hk10 : (xt G L36).2.1 c10 = 13 := by rw [eL36]; exact xt_k _ hc10 hk10
  have hc10 : c10 < (xt G L36).1 := by rw [eL36]; exact xt_l _ hc10
  have hk18 : (xt G L36).2.1 c18 = 13 := by rw [eL36]; exact xt_k _ hc18 hk18
  have hc18 : c18 < (xt G L36).1 := by rw [eL36]; exact xt_l _ hc18
  have hk26 : (xt G L36).2.1 c26 = 13 := by rw [eL36]; exact xt_k _ hc26 hk26
  have hc26 : c26 < (xt G L36).1 := by rw [eL36]; exact xt_l _ hc26
  have hag := agr_t (xt_ge _ _) hag hn39
  have hc34 : c34 < (xt G L36).1 := by rw [ec34, eL36]; exact cnt_new _ _ _
  have hk34 : (xt G L36).2.1 c34 = 13 := by rw [ec34, eL36]; exact (kind_new _ _ _ _).1
  refine va_putF (D := D) (ci := 8) (v := va_re ad38 (some c34)) (ty := (.array .int)) (C := RX8) (T := TX8) (N := 15) hx hb hts (by decide +kernel) tyX8 tyX8_ok nmX8 hown hK hP hD hS a (wld_o ct ad38 (xt G L36) M37 hc hk (by decide)) rfl 6 (by decide) (hts (.fieldLink RX8 26 "VideoSuite$Units" "foundSize" "[I") (by decide +kernel)) (fun _ h9 => h9) rfl hin rfl (by decide +kernel) (nar_q ad38 (Or.inr ⟨_, rfl⟩) (some c34)).1 (nar_q ad38 (Or.inr ⟨_, rfl⟩) (some c34)).2 (Nat.le_of_ble_eq_true rfl) dX8_init_45 (fun H locs hP hD hS => ?_)
  obtain ⟨M40, eM40, hF⟩ := ltt_some hF
  rw [set_oP ct ad38 (xt G L36) M37 hc hk (by decide) (by rfl), ← eM40] at hP hD
  refine lv_aload_n hx hb dX8_init_48 rfl (lv_at hl 0 rfl) ?_
  refine lv_ldc (v := (65536 : Int32)) hx hb hown (hts (.constant RX8 9 (65536 : Int32)) (by decide +kernel)) dX8_init_49 ?_
  obtain ⟨hC41, hF⟩ := chkP_some hF
  obtain ⟨hz9, hF⟩ := chk_some hF
  obtain ⟨c42, ec42, hF⟩ := ltt_some hF
  obtain ⟨w43, hF, ew43⟩ := app_some hF
  obtain ⟨L44, eL44, hF⟩ := ltt_some hF
  have hT44 : y.1 = (L36 ++ [(12, ((65536 : Int32)).toNatClampNeg)]) ++ w43.1 := by rw [hT, ew43]; simp only [List.append_assoc]
  obtain ⟨M45, eM45, hF⟩ := ltt_some hF
  refine new_b hx hb (hts (.arrayClass .byte) (by decide +kernel)) hK hP hD hS hA9 hz9.1 hz9.2 hC41 (room_1s hT44 hbl) dX8_init_51 (fun ad46 H hn47 hP hD hS => ?_)
  rw [← ec42, ← eL44, ← eM45] at hP hD
  refine W_cs (k := L44.length) (n := wt L44) (by rw [eL44]) (by rw [eL44]) ?_
  refine W_st (st' := [.ref (ad46 c42), .ref (ad38 a)]) (by rw [ec42]) ?_
  have hT : y.1 = L44 ++ w43.1 := by rw [hT44, eL44]
  have h2 : y.2 = w43.2 := by rw [h2, ew43]
  have hl := lv_sub (l' := [(0, .ref (ad38 a))]) hl [0] rfl
  have e9 : ([(0, .ref (ad38 a))] : List (Nat × Value)) = [(0, .ref (ad46 a))] := (by first | rfl | simp only [hn47 a hc])
  rw [e9] at hl
  clear e9
  refine W_st (st' := [.ref (ad46 c42), .ref (ad46 a)]) (by first | rfl | simp only [hn47 a hc]) ?_
  have hk : (xt G L44).2.1 a = 8 := by rw [eL44]; exact xt_k _ hc hk
  have hc : a < (xt G L44).1 := by rw [eL44]; exact xt_l _ hc
  have hk2 : (xt G L44).2.1 c2 = 12 := by rw [eL44]; exact xt_k _ hc2 hk2
  have hc2 : c2 < (xt G L44).1 := by rw [eL44]; exact xt_l _ hc2
  have hk10 : (xt G L44).2.1 c10 = 13 := by rw [eL44]; exact xt_k _ hc10 hk10
  have hc10 : c10 < (xt G L44).1 := by rw [eL44]; exact xt_l _ hc10
  have hk18 : (xt G L44).2.1 c18 = 13 := by rw [eL44]; exact xt_k _ hc18 hk18
  have hc18 : c18 < (xt G L44).1 := by rw [eL44]; exact xt_l _ hc18
  have hk26 : (xt G L44).2.1 c26 = 13 := by rw [eL44]; exact xt_k _ hc26 hk26
  have hc26 : c26 < (xt G L44).1 := by rw [eL44]; exact xt_l _ hc26
  have hk34 : (xt G L44).2.1 c34 = 13 := by rw [eL44]; exact xt_k _ hc34 hk34
  have hc34 : c34 < (xt G L44).1 := by rw [eL44]; exact xt_l _ hc34
  have hag := agr_t (xt_ge _ _) hag hn47
  have hc42 : c42 < (xt G L44).1 := by rw [ec42, eL44]; exact cnt_new _ _ _
  have hk42 : (xt G L44).2.1 c42 = 12 := by rw [ec42, eL44]; exact (kind_new _ _ _ _).1
  refine va_putF (D := D) (ci := 8) (v := va_re ad46 (some c42)) (ty := (.array .byte)) (C := RX8) (T := TX8) (N := 15) hx hb hts (by decide +kernel) tyX8 tyX8_ok nmX8 hown hK hP hD hS a (wld_o ct ad46 (xt G L44) M45 hc hk (by decide)) rfl 8 (by decide) (hts (.fieldLink RX8 29 "VideoSuite$Units" "payload" "[B") (by decide +kernel)) (fun _ h9 => h9) rfl hin rfl (by decide +kernel) (nar_q ad46 (Or.inr ⟨_, rfl⟩) (some c42)).1 (nar_q ad46 (Or.inr ⟨_, rfl⟩) (some c42)).2 (Nat.le_of_ble_eq_true rfl) dX8_init_53 (fun H locs hP hD hS => ?_)
  obtain ⟨M48, eM48, hF⟩ := ltt_some hF
  rw [set_oP ct ad46 (xt G L44) M45 hc hk (by decide) (by rfl), ← eM48] at hP hD
  refine lv_aload_n hx hb dX8_init_56 rfl (lv_at hl 0 rfl) ?_
  refine lv_sipush (v := (240 : Int32)) hx hb dX8_init_57 (by decide) ?_
  obtain ⟨hC49, hF⟩ := chkP_some hF
  obtain ⟨hz9, hF⟩ := chk_some hF
  obtain ⟨c50, ec50, hF⟩ := ltt_some hF
  obtain ⟨w51, hF, ew51⟩ := app_some hF
  obtain ⟨L52, eL52, hF⟩ := ltt_some hF
  have hT52 : y.1 = (L44 ++ [(13, ((240 : Int32)).toNatClampNeg)]) ++ w51.1 := by rw [hT, ew51]; simp only [List.append_assoc]
  obtain ⟨M53, eM53, hF⟩ := ltt_some hF
  refine new_i hx hb (hts (.arrayClass .int) (by decide +kernel)) hK hP hD hS hA9 hz9.1 hz9.2 hC49 (room_1s hT52 hbl) dX8_init_60 (fun ad54 H hn55 hP hD hS => ?_)
  rw [← ec50, ← eL52, ← eM53] at hP hD
  refine W_cs (k := L52.length) (n := wt L52) (by rw [eL52]) (by rw [eL52]) ?_
  refine W_st (st' := [.ref (ad54 c50), .ref (ad46 a)]) (by rw [ec50]) ?_
  have hT : y.1 = L52 ++ w51.1 := by rw [hT52, eL52]
  have h2 : y.2 = w51.2 := by rw [h2, ew51]
  have hl := lv_sub (l' := [(0, .ref (ad46 a))]) hl [0] rfl
  have e9 : ([(0, .ref (ad46 a))] : List (Nat × Value)) = [(0, .ref (ad54 a))] := (by first | rfl | simp only [hn55 a hc])
  rw [e9] at hl
  clear e9
  refine W_st (st' := [.ref (ad54 c50), .ref (ad54 a)]) (by first | rfl | simp only [hn55 a hc]) ?_
  have hk : (xt G L52).2.1 a = 8 := by rw [eL52]; exact xt_k _ hc hk
  have hc : a < (xt G L52).1 := by rw [eL52]; exact xt_l _ hc
  have hk2 : (xt G L52).2.1 c2 = 12 := by rw [eL52]; exact xt_k _ hc2 hk2
  have hc2 : c2 < (xt G L52).1 := by rw [eL52]; exact xt_l _ hc2
  have hk10 : (xt G L52).2.1 c10 = 13 := by rw [eL52]; exact xt_k _ hc10 hk10
  have hc10 : c10 < (xt G L52).1 := by rw [eL52]; exact xt_l _ hc10
  have hk18 : (xt G L52).2.1 c18 = 13 := by rw [eL52]; exact xt_k _ hc18 hk18
  have hc18 : c18 < (xt G L52).1 := by rw [eL52]; exact xt_l _ hc18
  have hk26 : (xt G L52).2.1 c26 = 13 := by rw [eL52]; exact xt_k _ hc26 hk26
  have hc26 : c26 < (xt G L52).1 := by rw [eL52]; exact xt_l _ hc26
  have hk34 : (xt G L52).2.1 c34 = 13 := by rw [eL52]; exact xt_k _ hc34 hk34
  have hc34 : c34 < (xt G L52).1 := by rw [eL52]; exact xt_l _ hc34
  have hk42 : (xt G L52).2.1 c42 = 12 := by rw [eL52]; exact xt_k _ hc42 hk42
  have hc42 : c42 < (xt G L52).1 := by rw [eL52]; exact xt_l _ hc42
  have hag := agr_t (xt_ge _ _) hag hn55
  have hc50 : c50 < (xt G L52).1 := by rw [ec50, eL52]; exact cnt_new _ _ _
  have hk50 : (xt G L52).2.1 c50 = 13 := by rw [ec50, eL52]; exact (kind_new _ _ _ _).1
  refine va_putF (D := D) (ci := 8) (v := va_re ad54 (some c50)) (ty := (.array .int)) (C := RX8) (T := TX8) (N := 15) hx hb hts (by decide +kernel) tyX8 tyX8_ok nmX8 hown hK hP hD hS a (wld_o ct ad54 (xt G L52) M53 hc hk (by decide)) rfl 10 (by decide) (hts (.fieldLink RX8 32 "VideoSuite$Units" "box" "[I") (by decide +kernel)) (fun _ h9 => h9) rfl hin rfl (by decide +kernel) (nar_q ad54 (Or.inr ⟨_, rfl⟩) (some c50)).1 (nar_q ad54 (Or.inr ⟨_, rfl⟩) (some c50)).2 (Nat.le_of_ble_eq_true rfl) dX8_init_62 (fun H locs hP hD hS => ?_)
  obtain ⟨M56, eM56, hF⟩ := ltt_some hF
  rw [set_oP ct ad54 (xt G L52) M53 hc hk (by decide) (by rfl), ← eM56] at hP hD
  refine lv_aload_n hx hb dX8_init_65 rfl (lv_at hl 0 rfl) ?_
  refine lv_iconst (v := (4 : Int32)) hx hb dX8_init_66 (by decide) ?_
  obtain ⟨hC57, hF⟩ := chkP_some hF
  obtain ⟨hz9, hF⟩ := chk_some hF
  obtain ⟨c58, ec58, hF⟩ := ltt_some hF
  obtain ⟨w59, hF, ew59⟩ := app_some hF
  obtain ⟨L60, eL60, hF⟩ := ltt_some hF
  have hT60 : y.1 = (L52 ++ [(13, ((4 : Int32)).toNatClampNeg)]) ++ w59.1 := by rw [hT, ew59]; simp only [List.append_assoc]
  obtain ⟨M61, eM61, hF⟩ := ltt_some hF
  refine new_i hx hb (hts (.arrayClass .int) (by decide +kernel)) hK hP hD hS hA9 hz9.1 hz9.2 hC57 (room_1s hT60 hbl) dX8_init_67 (fun ad62 H hn63 hP hD hS => ?_)
  rw [← ec58, ← eL60, ← eM61] at hP hD
  refine W_cs (k := L60.length) (n := wt L60) (by rw [eL60]) (by rw [eL60]) ?_
  refine W_st (st' := [.ref (ad62 c58), .ref (ad54 a)]) (by rw [ec58]) ?_
  have hT : y.1 = L60 ++ w59.1 := by rw [hT60, eL60]
  have h2 : y.2 = w59.2 := by rw [h2, ew59]
  have hl := lv_sub (l' := [(0, .ref (ad54 a))]) hl [0] rfl
  have e9 : ([(0, .ref (ad54 a))] : List (Nat × Value)) = [(0, .ref (ad62 a))] := (by first | rfl | simp only [hn63 a hc])
  rw [e9] at hl
  clear e9
  refine W_st (st' := [.ref (ad62 c58), .ref (ad62 a)]) (by first | rfl | simp only [hn63 a hc]) ?_
  have hk : (xt G L60).2.1 a = 8 := by rw [eL60]; exact xt_k _ hc hk
  have hc : a < (xt G L60).1 := by rw [eL60]; exact xt_l _ hc
  have hk2 : (xt G L60).2.1 c2 = 12 := by rw [eL60]; exact xt_k _ hc2 hk2
  have hc2 : c2 < (xt G L60).1 := by rw [eL60]; exact xt_l _ hc2
  have hk10 : (xt G L60).2.1 c10 = 13 := by rw [eL60]; exact xt_k _ hc10 hk10
  have hc10 : c10 < (xt G L60).1 := by rw [eL60]; exact xt_l _ hc10
  have hk18 : (xt G L60).2.1 c18 = 13 := by rw [eL60]; exact xt_k _ hc18 hk18
  have hc18 : c18 < (xt G L60).1 := by rw [eL60]; exact xt_l _ hc18
  have hk26 : (xt G L60).2.1 c26 = 13 := by rw [eL60]; exact xt_k _ hc26 hk26
  have hc26 : c26 < (xt G L60).1 := by rw [eL60]; exact xt_l _ hc26
  have hk34 : (xt G L60).2.1 c34 = 13 := by rw [eL60]; exact xt_k _ hc34 hk34
  have hc34 : c34 < (xt G L60).1 := by rw [eL60]; exact xt_l _ hc34
  have hk42 : (xt G L60).2.1 c42 = 12 := by rw [eL60]; exact xt_k _ hc42 hk42
  have hc42 : c42 < (xt G L60).1 := by rw [eL60]; exact xt_l _ hc42
  have hk50 : (xt G L60).2.1 c50 = 13 := by rw [eL60]; exact xt_k _ hc50 hk50
  have hc50 : c50 < (xt G L60).1 := by rw [eL60]; exact xt_l _ hc50
  have hag := agr_t (xt_ge _ _) hag hn63
  have hc58 : c58 < (xt G L60).1 := by rw [ec58, eL60]; exact cnt_new _ _ _
  have hk58 : (xt G L60).2.1 c58 = 13 := by rw [ec58, eL60]; exact (kind_new _ _ _ _).1
  refine va_putF (D := D) (ci := 8) (v := va_re ad62 (some c58)) (ty := (.array .int)) (C := RX8) (T := TX8) (N := 15) hx hb hts (by decide +kernel) tyX8 tyX8_ok nmX8 hown hK hP hD hS a (wld_o ct ad62 (xt G L60) M61 hc hk (by decide)) rfl 12 (by decide) (hts (.fieldLink RX8 35 "VideoSuite$Units" "table" "[I") (by decide +kernel)) (fun _ h9 => h9) rfl hin rfl (by decide +kernel) (nar_q ad62 (Or.inr ⟨_, rfl⟩) (some c58)).1 (nar_q ad62 (Or.inr ⟨_, rfl⟩) (some c58)).2 (Nat.le_of_ble_eq_true rfl) dX8_init_69 (fun H locs hP hD hS => ?_)
  obtain ⟨M64, eM64, hF⟩ := ltt_some hF
  rw [set_oP ct ad62 (xt G L60) M61 hc hk (by decide) (by rfl), ← eM64] at hP hD
  refine lv_aload_n hx hb dX8_init_72 rfl (lv_at hl 0 rfl) ?_
  refine lv_bipush (v := (6 : Int32)) hx hb dX8_init_73 (by decide) ?_
  obtain ⟨hC65, hF⟩ := chkP_some hF
  obtain ⟨hz9, hF⟩ := chk_some hF
  obtain ⟨c66, ec66, hF⟩ := ltt_some hF
  obtain ⟨w67, hF, ew67⟩ := app_some hF
  obtain ⟨L68, eL68, hF⟩ := ltt_some hF
  have hT68 : y.1 = (L60 ++ [(13, ((6 : Int32)).toNatClampNeg)]) ++ w67.1 := by rw [hT, ew67]; simp only [List.append_assoc]
  obtain ⟨M69, eM69, hF⟩ := ltt_some hF
  refine new_i hx hb (hts (.arrayClass .int) (by decide +kernel)) hK hP hD hS hA9 hz9.1 hz9.2 hC65 (room_1s hT68 hbl) dX8_init_75 (fun ad70 H hn71 hP hD hS => ?_)
  rw [← ec66, ← eL68, ← eM69] at hP hD
  refine W_cs (k := L68.length) (n := wt L68) (by rw [eL68]) (by rw [eL68]) ?_
  refine W_st (st' := [.ref (ad70 c66), .ref (ad62 a)]) (by rw [ec66]) ?_
  have hT : y.1 = L68 ++ w67.1 := by rw [hT68, eL68]
  have h2 : y.2 = w67.2 := by rw [h2, ew67]
  have hl := lv_sub (l' := []) hl [] rfl
  refine W_st (st' := [.ref (ad70 c66), .ref (ad70 a)]) (by first | rfl | simp only [hn71 a hc]) ?_
  have hk : (xt G L68).2.1 a = 8 := by rw [eL68]; exact xt_k _ hc hk
  have hc : a < (xt G L68).1 := by rw [eL68]; exact xt_l _ hc
  have hk2 : (xt G L68).2.1 c2 = 12 := by rw [eL68]; exact xt_k _ hc2 hk2
  have hc2 : c2 < (xt G L68).1 := by rw [eL68]; exact xt_l _ hc2
  have hk10 : (xt G L68).2.1 c10 = 13 := by rw [eL68]; exact xt_k _ hc10 hk10
  have hc10 : c10 < (xt G L68).1 := by rw [eL68]; exact xt_l _ hc10
  have hk18 : (xt G L68).2.1 c18 = 13 := by rw [eL68]; exact xt_k _ hc18 hk18
  have hc18 : c18 < (xt G L68).1 := by rw [eL68]; exact xt_l _ hc18
  have hk26 : (xt G L68).2.1 c26 = 13 := by rw [eL68]; exact xt_k _ hc26 hk26
  have hc26 : c26 < (xt G L68).1 := by rw [eL68]; exact xt_l _ hc26
  have hk34 : (xt G L68).2.1 c34 = 13 := by rw [eL68]; exact xt_k _ hc34 hk34
  have hc34 : c34 < (xt G L68).1 := by rw [eL68]; exact xt_l _ hc34
  have hk42 : (xt G L68).2.1 c42 = 12 := by rw [eL68]; exact xt_k _ hc42 hk42
  have hc42 : c42 < (xt G L68).1 := by rw [eL68]; exact xt_l _ hc42
  have hk50 : (xt G L68).2.1 c50 = 13 := by rw [eL68]; exact xt_k _ hc50 hk50
  have hc50 : c50 < (xt G L68).1 := by rw [eL68]; exact xt_l _ hc50
  have hk58 : (xt G L68).2.1 c58 = 13 := by rw [eL68]; exact xt_k _ hc58 hk58
  have hc58 : c58 < (xt G L68).1 := by rw [eL68]; exact xt_l _ hc58
  have hag := agr_t (xt_ge _ _) hag hn71
  have hc66 : c66 < (xt G L68).1 := by rw [ec66, eL68]; exact cnt_new _ _ _
  have hk66 : (xt G L68).2.1 c66 = 13 := by rw [ec66, eL68]; exact (kind_new _ _ _ _).1
  refine va_putF (D := D) (ci := 8) (v := va_re ad70 (some c66)) (ty := (.array .int)) (C := RX8) (T := TX8) (N := 15) hx hb hts (by decide +kernel) tyX8 tyX8_ok nmX8 hown hK hP hD hS a (wld_o ct ad70 (xt G L68) M69 hc hk (by decide)) rfl 13 (by decide) (hts (.fieldLink RX8 38 "VideoSuite$Units" "nest" "[I") (by decide +kernel)) (fun _ h9 => h9) rfl hin rfl (by decide +kernel) (nar_q ad70 (Or.inr ⟨_, rfl⟩) (some c66)).1 (nar_q ad70 (Or.inr ⟨_, rfl⟩) (some c66)).2 (Nat.le_of_ble_eq_true rfl) dX8_init_77 (fun H locs hP hD hS => ?_)
  obtain ⟨M72, eM72, hF⟩ := ltt_some hF
  rw [set_oP ct ad70 (xt G L68) M69 hc hk (by decide) (by rfl), ← eM72] at hP hD
  obtain rfl := Option.some.inj hF
  have e1 : y.1 = L68 := by rw [hT]; exact List.append_nil _
  have e2 : y.2 = M72 := h2
  refine W.widen (k := y.1.length) (n := wt y.1) (Nat.le_of_eq (by rw [e1])) (Nat.le_of_eq (by rw [e1])) ?_
  exact W.vret hx hb hr (fun t ht hW => ⟨⟨ad70, rfl, hag, (by unfold kE; rw [e1, e2]; exact ⟨by rw [ht]; exact hP, va_K.moved hW.alike hK, hD⟩)⟩, hS.F ht⟩) hS.2.2 dX8_init_80
