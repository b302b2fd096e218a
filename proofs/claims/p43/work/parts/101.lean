theorem dX0_maySet_0 : decode cX0_maySet 0 = .ok (.iload_n 1, 1) := by decide +kernel
theorem dX0_maySet_1 : decode cX0_maySet 1 = .ok (.ifCond .lt 31, 3) := by decide +kernel
theorem dX0_maySet_4 : decode cX0_maySet 4 = .ok (.iload_n 1, 1) := by decide +kernel
theorem dX0_maySet_5 : decode cX0_maySet 5 = .ok (.bipush 24, 2) := by decide +kernel
theorem dX0_maySet_7 : decode cX0_maySet 7 = .ok (.if_icmp .ge 25, 3) := by decide +kernel
theorem dX0_maySet_10 : decode cX0_maySet 10 = .ok (.iload_n 2, 1) := by decide +kernel
theorem dX0_maySet_11 : decode cX0_maySet 11 = .ok (.getstatic 88, 3) := by decide +kernel
theorem dX0_maySet_14 : decode cX0_maySet 14 = .ok (.iload_n 1, 1) := by decide +kernel
theorem dX0_maySet_15 : decode cX0_maySet 15 = .ok (.iaload, 1) := by decide +kernel
theorem dX0_maySet_16 : decode cX0_maySet 16 = .ok (.if_icmp .lt 16, 3) := by decide +kernel
theorem dX0_maySet_19 : decode cX0_maySet 19 = .ok (.iload_n 2, 1) := by decide +kernel
theorem dX0_maySet_20 : decode cX0_maySet 20 = .ok (.getstatic 91, 3) := by decide +kernel
theorem dX0_maySet_23 : decode cX0_maySet 23 = .ok (.iload_n 1, 1) := by decide +kernel
theorem dX0_maySet_24 : decode cX0_maySet 24 = .ok (.iaload, 1) := by decide +kernel
theorem dX0_maySet_25 : decode cX0_maySet 25 = .ok (.if_icmp .gt 7, 3) := by decide +kernel
theorem dX0_maySet_28 : decode cX0_maySet 28 = .ok (.iconst 1, 1) := by decide +kernel
theorem dX0_maySet_29 : decode cX0_maySet 29 = .ok (.goto 4, 3) := by decide +kernel
theorem dX0_maySet_32 : decode cX0_maySet 32 = .ok (.iconst 0, 1) := by decide +kernel
theorem dX0_maySet_33 : decode cX0_maySet 33 = .ok (.ireturn, 1) := by decide +kernel
def FX0_maySet (G : GG) (M : DD) (a : Nat) (p0 : Int32) (p1 : Int32) : Option (DD × Int32) :=
  bnd (if p0 < ((0 : Int32)) then (some ((0 : Int32))) else
  (bnd (if ((24 : Int32)) ≤ p0 then (some ((0 : Int32))) else
  (chk (¬ (p0 < 0 ∨ 24 ≤ p0.toNatClampNeg)) <|
  ltt ((sT 1).getD p0.toNatClampNeg 0) fun x5 =>
  bnd (if p1 < x5 then (some ((0 : Int32))) else
  (chk (¬ (p0 < 0 ∨ 24 ≤ p0.toNatClampNeg)) <|
  ltt ((sT 2).getD p0.toNatClampNeg 0) fun x8 =>
  bnd (if x8 < p1 then (some ((0 : Int32))) else
  (some ((1 : Int32)))) fun (y9 : Int32) =>
  some (y9))) fun (y6 : Int32) =>
  some (y6))) fun (y3 : Int32) =>
  some (y3))) fun (y1 : Int32) =>
  chk (y1 = 0 ∨ y1 = 1) <|
  some (M, y1)
set_option maxHeartbeats 4000000 in
set_option maxRecDepth 100000 in
theorem kX0_maySet (l : Launch) (D : va_G) (ct : CT) (ad : Nat → Nat) (Z : Nat → Nat) (G : GG) (M : DD) (sz : Nat) (a : Nat) (p0 : Int32) (p1 : Int32) (y : DD × Int32) (hc : a < G.1) (hk : G.2.1 a = 0) (hF : FX0_maySet G M a p0 p1 = some y) : Met l yX0_maySet wuX0_maySet ({ frames := 0, cells := 0, slots := 0, locals := 0 }) (va_Pc [.ref (ad a), .int p0, .int p1] (kB D ct ad Z G M sz)) (va_Qi (fun (q : Int32) (_ : Unit) => q = y.2) (fun _ t => kE D ct ad G (wA ad G sz) y.1 t) (wA ad G sz)) 0 0 (wA ad G sz) := by
  refine Met.ofW (cc := cX0_maySet) (maxL := 3) (ret := (some .boolean)) (by decide) rfl ?_
  intro p e s m args below meth c s₁ B hml hv
  obtain ⟨rfl, hsz, hP, hK, hD0, hZ, hN⟩ := hv
  have hx := B.exec
  have hb := B.bytes
  have hr := B.returns
  have hts := atoms_spec (ws := wuX0_maySet) B.pre
  have hown : s.vm.findClass RX0 = some m.cls := findClass_of_methodNamed B.named
  have hlocks := B.notSynchronized
  subst hsz
  have hD := wD_self (sz := s.heap.size) hD0
  have hA9 : ∀ q, s.heap.size ≤ q → wA ad G s.heap.size q := fun q h => Or.inr h
  generalize hAe : wA ad G s.heap.size = A at hD hA9 hZ ⊢
  have hS : va_S A s.heap s.heap [] := va_S.rf
  have hl := lv_entry ([.ref (ad a), .int p0, .int p1]) (n := 3) (Nat.le_of_ble_eq_true rfl)
  rw [lg_entry_eq]
  generalize (lg_sl ([.ref (ad a), .int p0, .int p1]) ++ List.replicate (3 - (lg_sl ([.ref (ad a), .int p0, .int p1])).length) Slot.unset).toArray = ls at hl ⊢
  have hl : lv_has ls 3 [(0, .ref (ad a)), (1, .int p0), (2, .int p1)] := hl
  unfold FX0_maySet at hF
  refine lv_iload_n hx hb dX0_maySet_0 rfl (lv_at hl 1 rfl) ?_
  obtain ⟨y1, hy1, hF⟩ := bnd_some hF
  have J1 : ∀ (H : Heap) (locs : List Loc) (ls : Array Slot), va_P D classes (wld ct ad G M) H → va_D A (wld ct ad G M) → va_S A s.heap H locs → lv_has ls 3 [(0, .ref (ad a)), (1, .int p0), (2, .int p1)] → W p l e (headSpec wuX0_maySet ({ frames := 0, cells := 0, slots := 0, locals := 0 })).room s m ([.ref (ad a), .int p0, .int p1] : List Value).toArray below meth c H locs 0 0 (MQ below (va_Qi (fun (q : Int32) (_ : Unit) => q = y.2) (fun _ t => kE D ct ad G A y.1 t) A) ([.ref (ad a), .int p0, .int p1] : List Value).toArray s 0 0 A) (F0 m 33 ls [.int y1]) := by
    intro H locs ls hP hD hS hl
    obtain ⟨hz9, hF⟩ := chk_some hF
    obtain rfl := Option.some.inj hF
    exact W.zret (v := y1) (ty := .boolean) hx hb hr (nar_z hz9).1 (fun t ht hW => ⟨⟨_, (), rfl, rfl, ⟨by rw [ht]; exact hP, va_K.moved hW.alike hK, hD⟩⟩, hS.F ht⟩) hS.2.2 dX0_maySet_33
  clear hF
  have hF := hy1
  clear hy1
  refine lv_if_lt (tgt := 32) hx hb dX0_maySet_1 (by decide) (fun c2 => ?_) (fun c2 => ?_)
  · rw [if_pos c2] at hF
    refine lv_iconst (v := (0 : Int32)) hx hb dX0_maySet_32 (by decide) ?_
    obtain rfl := Option.some.inj hF
    exact J1 _ _ _ hP hD hS (lv_sub hl [0, 1, 2] rfl)
  · rw [if_neg c2] at hF
    refine lv_iload_n hx hb dX0_maySet_4 rfl (lv_at hl 1 rfl) ?_
    refine lv_bipush (v := (24 : Int32)) hx hb dX0_maySet_5 (by decide) ?_
    obtain ⟨y3, hy3, hF⟩ := bnd_some hF
    have J3 : ∀ (H : Heap) (locs : List Loc) (ls : Array Slot), va_P D classes (wld ct ad G M) H → va_D A (wld ct ad G M) → va_S A s.heap H locs → lv_has ls 3 [(0, .ref (ad a)), (1, .int p0), (2, .int p1)] → W p l e (headSpec wuX0_maySet ({ frames := 0, cells := 0, slots := 0, locals := 0 })).room s m ([.ref (ad a), .int p0, .int p1] : List Value).toArray below meth c H locs 0 0 (MQ below (va_Qi (fun (q : Int32) (_ : Unit) => q = y.2) (fun _ t => kE D ct ad G A y.1 t) A) ([.ref (ad a), .int p0, .int p1] : List Value).toArray s 0 0 A) (F0 m 33 ls [.int y3]) := by
      intro H locs ls hP hD hS hl
      obtain rfl := Option.some.inj hF
      exact J1 _ _ _ hP hD hS (lv_sub hl [0, 1, 2] rfl)
    clear hF
    have hF := hy3
    clear hy3
    refine lv_icmp_ge (tgt := 32) hx hb dX0_maySet_7 (by decide) (fun c4 => ?_) (fun c4 => ?_)
    · rw [if_pos c4] at hF
      refine lv_iconst (v := (0 : Int32)) hx hb dX0_maySet_32 (by decide) ?_
      obtain rfl := Option.some.inj hF
      exact J3 _ _ _ hP hD hS (lv_sub hl [0, 1, 2] rfl)
    · rw [if_neg c4] at hF
      refine lv_iload_n hx hb dX0_maySet_10 rfl (lv_at hl 2 rfl) ?_
      refine va_gets hx hb (hZ.1 1 (by decide)).1 hS hown (hts (.fieldLink RX0 88 "VideoSuite$Coder" "LEAST" "[I") (mu mw_2353)) (fun _ h => h) dX0_maySet_11 ?_
      refine lv_iload_n hx hb dX0_maySet_14 rfl (lv_at hl 1 rfl) ?_
      obtain ⟨hvc, hF⟩ := chk_some hF
      refine va_ti (v := .int ((sT 1).getD p0.toNatClampNeg 0)) hx hb (hZ.1 1 (by decide)).2 hS hvc rfl dX0_maySet_15 ?_
      obtain ⟨x5, ex5, hF⟩ := ltt_some hF
      refine lv_topi (fun zx5 ezx5 => ?_)
      obtain rfl : x5 = zx5 := ex5.trans ezx5.symm
      obtain ⟨y6, hy6, hF⟩ := bnd_some hF
      have J6 : ∀ (H : Heap) (locs : List Loc) (ls : Array Slot), va_P D classes (wld ct ad G M) H → va_D A (wld ct ad G M) → va_S A s.heap H locs → lv_has ls 3 [(0, .ref (ad a)), (1, .int p0), (2, .int p1)] → W p l e (headSpec wuX0_maySet ({ frames := 0, cells := 0, slots := 0, locals := 0 })).room s m ([.ref (ad a), .int p0, .int p1] : List Value).toArray below meth c H locs 0 0 (MQ below (va_Qi (fun (q : Int32) (_ : Unit) => q = y.2) (fun _ t => kE D ct ad G A y.1 t) A) ([.ref (ad a), .int p0, .int p1] : List Value).toArray s 0 0 A) (F0 m 33 ls [.int y6]) := by
        intro H locs ls hP hD hS hl
        obtain rfl := Option.some.inj hF
        exact J3 _ _ _ hP hD hS (lv_sub hl [0, 1, 2] rfl)
      clear hF
      have hF := hy6
      clear hy6
      refine lv_icmp_lt (tgt := 32) hx hb dX0_maySet_16 (by decide) (fun c7 => ?_) (fun c7 => ?_)
      · rw [if_pos c7] at hF
        refine lv_iconst (v := (0 : Int32)) hx hb dX0_maySet_32 (by decide) ?_
        obtain rfl := Option.some.inj hF
        exact J6 _ _ _ hP hD hS (lv_sub hl [0, 1, 2] rfl)
      · rw [if_neg c7] at hF
        refine lv_iload_n hx hb dX0_maySet_19 rfl (lv_at hl 2 rfl) ?_
        refine va_gets hx hb (hZ.1 2 (by decide)).1 hS hown (hts (.fieldLink RX0 91 "VideoSuite$Coder" "MOST" "[I") (mu mw_2355)) (fun _ h => h) dX0_maySet_20 ?_
        refine lv_iload_n hx hb dX0_maySet_23 rfl (lv_at hl 1 rfl) ?_
        obtain ⟨hvc, hF⟩ := chk_some hF
        refine va_ti (v := .int ((sT 2).getD p0.toNatClampNeg 0)) hx hb (hZ.1 2 (by decide)).2 hS hvc rfl dX0_maySet_24 ?_
        obtain ⟨x8, ex8, hF⟩ := ltt_some hF
        refine lv_topi (fun zx8 ezx8 => ?_)
        obtain rfl : x8 = zx8 := ex8.trans ezx8.symm
        obtain ⟨y9, hy9, hF⟩ := bnd_some hF
        have J9 : ∀ (H : Heap) (locs : List Loc) (ls : Array Slot), va_P D classes (wld ct ad G M) H → va_D A (wld ct ad G M) → va_S A s.heap H locs → lv_has ls 3 [(0, .ref (ad a)), (1, .int p0), (2, .int p1)] → W p l e (headSpec wuX0_maySet ({ frames := 0, cells := 0, slots := 0, locals := 0 })).room s m ([.ref (ad a), .int p0, .int p1] : List Value).toArray below meth c H locs 0 0 (MQ below (va_Qi (fun (q : Int32) (_ : Unit) => q = y.2) (fun _ t => kE D ct ad G A y.1 t) A) ([.ref (ad a), .int p0, .int p1] : List Value).toArray s 0 0 A) (F0 m 33 ls [.int y9]) := by
          intro H locs ls hP hD hS hl
          obtain rfl := Option.some.inj hF
          exact J6 _ _ _ hP hD hS (lv_sub hl [0, 1, 2] rfl)
        clear hF
        have hF := hy9
        clear hy9
        refine lv_icmp_gt (tgt := 32) hx hb dX0_maySet_25 (by decide) (fun c10 => ?_) (fun c10 => ?_)
        · rw [if_pos c10] at hF
          refine lv_iconst (v := (0 : Int32)) hx hb dX0_maySet_32 (by decide) ?_
          obtain rfl := Option.some.inj hF
          exact J9 _ _ _ hP hD hS (lv_sub hl [0, 1, 2] rfl)
        · rw [if_neg c10] at hF
          refine lv_iconst (v := (1 : Int32)) hx hb dX0_maySet_28 (by decide) ?_
          refine lv_goto (tgt := 33) hx hb dX0_maySet_29 (by decide) ?_
          obtain rfl := Option.some.inj hF
          exact J9 _ _ _ hP hD hS (lv_sub hl [0, 1, 2] rfl)
theorem dX0_moved_0 : decode cX0_moved 0 = .ok (.iload_n 0, 1) := by decide +kernel
theorem dX0_moved_1 : decode cX0_moved 1 = .ok (.i2l, 1) := by decide +kernel
theorem dX0_moved_2 : decode cX0_moved 2 = .ok (.iload_n 1, 1) := by decide +kernel
theorem dX0_moved_3 : decode cX0_moved 3 = .ok (.i2l, 1) := by decide +kernel
theorem dX0_moved_4 : decode cX0_moved 4 = .ok (.lsub, 1) := by decide +kernel
theorem dX0_moved_5 : decode cX0_moved 5 = .ok (.lstore_n 3, 1) := by decide +kernel
theorem dX0_moved_6 : decode cX0_moved 6 = .ok (.lload_n 3, 1) := by decide +kernel
theorem dX0_moved_7 : decode cX0_moved 7 = .ok (.lconst 0, 1) := by decide +kernel
theorem dX0_moved_8 : decode cX0_moved 8 = .ok (.lcmp, 1) := by decide +kernel
theorem dX0_moved_9 : decode cX0_moved 9 = .ok (.ifCond .ge 7, 3) := by decide +kernel
theorem dX0_moved_12 : decode cX0_moved 12 = .ok (.iconst 0, 1) := by decide +kernel
theorem dX0_moved_13 : decode cX0_moved 13 = .ok (.goto 18, 3) := by decide +kernel
theorem dX0_moved_16 : decode cX0_moved 16 = .ok (.lload_n 3, 1) := by decide +kernel
theorem dX0_moved_17 : decode cX0_moved 17 = .ok (.iload_n 2, 1) := by decide +kernel
theorem dX0_moved_18 : decode cX0_moved 18 = .ok (.i2l, 1) := by decide +kernel
theorem dX0_moved_19 : decode cX0_moved 19 = .ok (.lcmp, 1) := by decide +kernel
theorem dX0_moved_20 : decode cX0_moved 20 = .ok (.ifCond .lt 9, 3) := by decide +kernel
theorem dX0_moved_23 : decode cX0_moved 23 = .ok (.iload_n 2, 1) := by decide +kernel
theorem dX0_moved_24 : decode cX0_moved 24 = .ok (.iconst 1, 1) := by decide +kernel
theorem dX0_moved_25 : decode cX0_moved 25 = .ok (.isub, 1) := by decide +kernel
theorem dX0_moved_26 : decode cX0_moved 26 = .ok (.goto 5, 3) := by decide +kernel
theorem dX0_moved_29 : decode cX0_moved 29 = .ok (.lload_n 3, 1) := by decide +kernel
theorem dX0_moved_30 : decode cX0_moved 30 = .ok (.l2i, 1) := by decide +kernel
theorem dX0_moved_31 : decode cX0_moved 31 = .ok (.ireturn, 1) := by decide +kernel
def FX0_moved (G : GG) (M : DD) (p0 : Int32) (p1 : Int32) (p2 : Int32) : Option (DD × Int32) :=
  ltt (p0.toInt64) fun x1 =>
  ltt (p1.toInt64) fun x2 =>
  ltt (x1 - x2) fun x3 =>
  ltt (lg_cmp x3 ((0 : Int64))) fun x4 =>
  bnd (if ((0 : Int32)) ≤ x4 then (ltt (p2.toInt64) fun x7 =>
  ltt (lg_cmp x3 x7) fun x8 =>
  bnd (if x8 < ((0 : Int32)) then (ltt (x3.toInt32) fun x11 =>
  some (x11)) else
  (ltt ((p2 - ((1 : Int32)))) fun x12 =>
  some (x12))) fun (y9 : Int32) =>
  some (y9)) else
  (some ((0 : Int32)))) fun (y5 : Int32) =>
  some (M, y5)
set_option maxHeartbeats 4000000 in
set_option maxRecDepth 100000 in
theorem kX0_moved (l : Launch) (D : va_G) (ct : CT) (ad : Nat → Nat) (Z : Nat → Nat) (G : GG) (M : DD) (sz : Nat) (p0 : Int32) (p1 : Int32) (p2 : Int32) (y : DD × Int32) (hF : FX0_moved G M p0 p1 p2 = some y) : Met l yX0_moved wuX0_moved ({ frames := 0, cells := 0, slots := 0, locals := 0 }) (va_Pc [.int p0, .int p1, .int p2] (kB D ct ad Z G M sz)) (va_Qi (fun (q : Int32) (_ : Unit) => q = y.2) (fun _ t => kE D ct ad G (wA ad G sz) y.1 t) (wA ad G sz)) 0 0 (wA ad G sz) := by
  refine Met.ofW (cc := cX0_moved) (maxL := 5) (ret := (some .int)) (by decide) rfl ?_
  intro p e s m args below meth c s₁ B hml hv
  obtain ⟨rfl, hsz, hP, hK, hD0, hZ, hN⟩ := hv
  have hx := B.exec
  have hb := B.bytes
  have hr := B.returns
  have hts := atoms_spec (ws := wuX0_moved) B.pre
  have hown : s.vm.findClass RX0 = some m.cls := findClass_of_methodNamed B.named
  have hlocks := B.notSynchronized
  subst hsz
  have hD := wD_self (sz := s.heap.size) hD0
  have hA9 : ∀ q, s.heap.size ≤ q → wA ad G s.heap.size q := fun q h => Or.inr h
  generalize hAe : wA ad G s.heap.size = A at hD hA9 hZ ⊢
  have hS : va_S A s.heap s.heap [] := va_S.rf
  have hl := lv_entry ([.int p0, .int p1, .int p2]) (n := 5) (Nat.le_of_ble_eq_true rfl)
  rw [lg_entry_eq]
  generalize (lg_sl ([.int p0, .int p1, .int p2]) ++ List.replicate (5 - (lg_sl ([.int p0, .int p1, .int p2])).length) Slot.unset).toArray = ls at hl ⊢
  have hl : lv_has ls 5 [(0, .int p0), (1, .int p1), (2, .int p2)] := hl
  unfold FX0_moved at hF
  refine lv_iload_n hx hb dX0_moved_0 rfl (lv_at hl 0 rfl) ?_
  refine lv_i2l (v := p0.toInt64) hx hb dX0_moved_1 rfl ?_
  obtain ⟨x1, ex1, hF⟩ := ltt_some hF
  refine lv_topl (fun zx1 ezx1 => ?_)
  obtain rfl : x1 = zx1 := ex1.trans ezx1.symm
  refine lv_iload_n hx hb dX0_moved_2 rfl (lv_at hl 1 rfl) ?_
  refine lv_i2l (v := p1.toInt64) hx hb dX0_moved_3 rfl ?_
  obtain ⟨x2, ex2, hF⟩ := ltt_some hF
  refine lv_topl (fun zx2 ezx2 => ?_)
  obtain rfl : x2 = zx2 := ex2.trans ezx2.symm
  refine lv_lsub hx hb dX0_moved_4 ?_
  obtain ⟨x3, ex3, hF⟩ := ltt_some hF
  refine lv_topl (fun zx3 ezx3 => ?_)
  obtain rfl : x3 = zx3 := ex3.trans ezx3.symm
  refine lv_lstore_n (lv' := [(3, .long x3), (0, .int p0), (1, .int p1), (2, .int p2)]) hx hb dX0_moved_5 rfl hl (by decide) rfl (fun ls hl => ?_)
  refine lv_lload_n hx hb dX0_moved_6 rfl (lv_at hl 0 rfl) ?_
  refine lv_lconst (v := (0 : Int64)) hx hb dX0_moved_7 rfl ?_
  refine W.lcmp hx hb dX0_moved_8 ?_
  obtain ⟨x4, ex4, hF⟩ := ltt_some hF
  refine lv_topi (fun zx4 ezx4 => ?_)
  obtain rfl : x4 = zx4 := ex4.trans ezx4.symm
  obtain ⟨y5, hy5, hF⟩ := bnd_some hF
  have J5 : ∀ (H : Heap) (locs : List Loc) (ls : Array Slot), va_P D classes (wld ct ad G M) H → va_D A (wld ct ad G M) → va_S A s.heap H locs → lv_has ls 5 [(3, .long x3), (0, .int p0), (1, .int p1), (2, .int p2)] → W p l e (headSpec wuX0_moved ({ frames := 0, cells := 0, slots := 0, locals := 0 })).room s m ([.int p0, .int p1, .int p2] : List Value).toArray below meth c H locs 0 0 (MQ below (va_Qi (fun (q : Int32) (_ : Unit) => q = y.2) (fun _ t => kE D ct ad G A y.1 t) A) ([.int p0, .int p1, .int p2] : List Value).toArray s 0 0 A) (F0 m 31 ls [.int y5]) := by
    intro H locs ls hP hD hS hl
    obtain rfl := Option.some.inj hF
    exact W.iret (v := y5) hx hb hr (fun t ht hW => ⟨⟨_, (), rfl, rfl, ⟨by rw [ht]; exact hP, va_K.moved hW.alike hK, hD⟩⟩, hS.F ht⟩) hS.2.2 dX0_moved_31
  clear hF
  have hF := hy5
  clear hy5
  refine lv_if_ge (tgt := 16) hx hb dX0_moved_9 (by decide) (fun c6 => ?_) (fun c6 => ?_)
  · rw [if_pos c6] at hF
    refine lv_lload_n hx hb dX0_moved_16 rfl (lv_at hl 0 rfl) ?_
    refine lv_iload_n hx hb dX0_moved_17 rfl (lv_at hl 3 rfl) ?_
    refine lv_i2l (v := p2.toInt64) hx hb dX0_moved_18 rfl ?_
    obtain ⟨x7, ex7, hF⟩ := ltt_some hF
    refine lv_topl (fun zx7 ezx7 => ?_)
    obtain rfl : x7 = zx7 := ex7.trans ezx7.symm
    refine W.lcmp hx hb dX0_moved_19 ?_
    obtain ⟨x8, ex8, hF⟩ := ltt_some hF
    refine lv_topi (fun zx8 ezx8 => ?_)
    obtain rfl : x8 = zx8 := ex8.trans ezx8.symm
    obtain ⟨y9, hy9, hF⟩ := bnd_some hF
    have J9 : ∀ (H : Heap) (locs : List Loc) (ls : Array Slot), va_P D classes (wld ct ad G M) H → va_D A (wld ct ad G M) → va_S A s.heap H locs → lv_has ls 5 [(3, .long x3), (0, .int p0), (1, .int p1), (2, .int p2)] → W p l e (headSpec wuX0_moved ({ frames := 0, cells := 0, slots := 0, locals := 0 })).room s m ([.int p0, .int p1, .int p2] : List Value).toArray below meth c H locs 0 0 (MQ below (va_Qi (fun (q : Int32) (_ : Unit) => q = y.2) (fun _ t => kE D ct ad G A y.1 t) A) ([.int p0, .int p1, .int p2] : List Value).toArray s 0 0 A) (F0 m 31 ls [.int y9]) := by
      intro H locs ls hP hD hS hl
      obtain rfl := Option.some.inj hF
      exact J5 _ _ _ hP hD hS (lv_sub hl [0, 1, 2, 3] rfl)
    clear hF
    have hF := hy9
    clear hy9
    refine lv_if_lt (tgt := 29) hx hb dX0_moved_20 (by decide) (fun c10 => ?_) (fun c10 => ?_)
    · rw [if_pos c10] at hF
      refine lv_lload_n hx hb dX0_moved_29 rfl (lv_at hl 0 rfl) ?_
      refine lv_l2i (v := x3.toInt32) hx hb dX0_moved_30 rfl ?_
      obtain ⟨x11, ex11, hF⟩ := ltt_some hF
      refine lv_topi (fun zx11 ezx11 => ?_)
      obtain rfl : x11 = zx11 := ex11.trans ezx11.symm
      obtain rfl := Option.some.inj hF
      exact J9 _ _ _ hP hD hS (lv_sub hl [0, 1, 2, 3] rfl)
    · rw [if_neg c10] at hF
      refine lv_iload_n hx hb dX0_moved_23 rfl (lv_at hl 3 rfl) ?_
      refine lv_iconst (v := (1 : Int32)) hx hb dX0_moved_24 (by decide) ?_
      refine lv_isub hx hb dX0_moved_25 ?_
      obtain ⟨x12, ex12, hF⟩ := ltt_some hF
      refine lv_topi (fun zx12 ezx12 => ?_)
      obtain rfl : x12 = zx12 := ex12.trans ezx12.symm
      refine lv_goto (tgt := 31) hx hb dX0_moved_26 (by decide) ?_
      obtain rfl := Option.some.inj hF
      exact J9 _ _ _ hP hD hS (lv_sub hl [0, 1, 2, 3] rfl)
  · rw [if_neg c6] at hF
    refine lv_iconst (v := (0 : Int32)) hx hb dX0_moved_12 (by decide) ?_
    refine lv_goto (tgt := 31) hx hb dX0_moved_13 (by decide) ?_
    obtain rfl := Option.some.inj hF
    exact J5 _ _ _ hP hD hS (lv_sub hl [0, 1, 2, 3] rfl)
theorem dX0_offer_0 : decode cX0_offer 0 = .ok (.iload_n 1, 1) := by decide +kernel
theorem dX0_offer_1 : decode cX0_offer 1 = .ok (.aload_n 0, 1) := by decide +kernel
theorem dX0_offer_2 : decode cX0_offer 2 = .ok (.getfield 75, 3) := by decide +kernel
theorem dX0_offer_5 : decode cX0_offer 5 = .ok (.bipush 10, 2) := by decide +kernel
theorem dX0_offer_7 : decode cX0_offer 7 = .ok (.iaload, 1) := by decide +kernel
theorem dX0_offer_8 : decode cX0_offer 8 = .ok (.if_icmp .ge 27, 3) := by decide +kernel
theorem dX0_offer_11 : decode cX0_offer 11 = .ok (.aload_n 0, 1) := by decide +kernel
theorem dX0_offer_12 : decode cX0_offer 12 = .ok (.getfield 75, 3) := by decide +kernel
theorem dX0_offer_15 : decode cX0_offer 15 = .ok (.bipush 10, 2) := by decide +kernel
theorem dX0_offer_17 : decode cX0_offer 17 = .ok (.iload_n 1, 1) := by decide +kernel
theorem dX0_offer_18 : decode cX0_offer 18 = .ok (.iastore, 1) := by decide +kernel
theorem dX0_offer_19 : decode cX0_offer 19 = .ok (.aload_n 0, 1) := by decide +kernel
theorem dX0_offer_20 : decode cX0_offer 20 = .ok (.getfield 75, 3) := by decide +kernel
theorem dX0_offer_23 : decode cX0_offer 23 = .ok (.bipush 11, 2) := by decide +kernel
theorem dX0_offer_25 : decode cX0_offer 25 = .ok (.iload_n 2, 1) := by decide +kernel
theorem dX0_offer_26 : decode cX0_offer 26 = .ok (.iastore, 1) := by decide +kernel
theorem dX0_offer_27 : decode cX0_offer 27 = .ok (.aload_n 0, 1) := by decide +kernel
theorem dX0_offer_28 : decode cX0_offer 28 = .ok (.getfield 75, 3) := by decide +kernel
theorem dX0_offer_31 : decode cX0_offer 31 = .ok (.bipush 12, 2) := by decide +kernel
theorem dX0_offer_33 : decode cX0_offer 33 = .ok (.iload_n 3, 1) := by decide +kernel
theorem dX0_offer_34 : decode cX0_offer 34 = .ok (.iastore, 1) := by decide +kernel
theorem dX0_offer_35 : decode cX0_offer 35 = .ok (.return_, 1) := by decide +kernel
def FX0_offer (G : GG) (M : DD) (a : Nat) (p0 : Int32) (p1 : Int32) (p2 : Int32) : Option (DD) :=
  dr G 13 ((M.2 a 20)) fun b1 =>
  chk (¬ (((10 : Int32)) < 0 ∨ G.2.2 b1 ≤ ((10 : Int32)).toNatClampNeg)) <|
  ltt (M.1 b1 ((10 : Int32)).toNatClampNeg) fun x2 =>
  bnd (if x2 ≤ p0 then (some (M)) else
  (chk (¬ (((10 : Int32)) < 0 ∨ G.2.2 b1 ≤ ((10 : Int32)).toNatClampNeg)) <|
  ltt (uI M b1 ((10 : Int32)).toNatClampNeg p0) fun M5 =>
  dr G 13 ((M5.2 a 20)) fun b6 =>
  chk (¬ (((11 : Int32)) < 0 ∨ G.2.2 b6 ≤ ((11 : Int32)).toNatClampNeg)) <|
  ltt (uI M5 b6 ((11 : Int32)).toNatClampNeg p1) fun M7 =>
  dr G 13 ((M7.2 a 20)) fun b8 =>
  chk (¬ (((12 : Int32)) < 0 ∨ G.2.2 b8 ≤ ((12 : Int32)).toNatClampNeg)) <|
  ltt (uI M7 b8 ((12 : Int32)).toNatClampNeg p2) fun M9 =>
  some (M9))) fun (y3 : DD) =>
  some y3
set_option maxHeartbeats 4000000 in
set_option maxRecDepth 100000 in
theorem kX0_offer (l : Launch) (D : va_G) (ct : CT) (ad : Nat → Nat) (Z : Nat → Nat) (G : GG) (M : DD) (sz : Nat) (a : Nat) (p0 : Int32) (p1 : Int32) (p2 : Int32) (y : DD) (hc : a < G.1) (hk : G.2.1 a = 0) (hF : FX0_offer G M a p0 p1 p2 = some y) : Met l yX0_offer wuX0_offer ({ frames := 0, cells := 0, slots := 0, locals := 0 }) (va_Pc [.ref (ad a), .int p0, .int p1, .int p2] (kB D ct ad Z G M sz)) (va_Qv (fun (_ : Unit) => True) (fun _ t => kE D ct ad G (wA ad G sz) y t) (wA ad G sz)) 0 0 (wA ad G sz) := by
  refine Met.ofW (cc := cX0_offer) (maxL := 4) (ret := none) (by decide) rfl ?_
  intro p e s m args below meth c s₁ B hml hv
  obtain ⟨rfl, hsz, hP, hK, hD0, hZ, hN⟩ := hv
  have hx := B.exec
  have hb := B.bytes
  have hr := B.returns
  have hts := atoms_spec (ws := wuX0_offer) B.pre
  have hown : s.vm.findClass RX0 = some m.cls := findClass_of_methodNamed B.named
  have hlocks := B.notSynchronized
  subst hsz
  have hD := wD_self (sz := s.heap.size) hD0
  have hA9 : ∀ q, s.heap.size ≤ q → wA ad G s.heap.size q := fun q h => Or.inr h
  generalize hAe : wA ad G s.heap.size = A at hD hA9 hZ ⊢
  have hS : va_S A s.heap s.heap [] := va_S.rf
  have hl := lv_entry ([.ref (ad a), .int p0, .int p1, .int p2]) (n := 4) (Nat.le_of_ble_eq_true rfl)
  rw [lg_entry_eq]
  generalize (lg_sl ([.ref (ad a), .int p0, .int p1, .int p2]) ++ List.replicate (4 - (lg_sl ([.ref (ad a), .int p0, .int p1, .int p2])).length) Slot.unset).toArray = ls at hl ⊢
  have hl : lv_has ls 4 [(0, .ref (ad a)), (1, .int p0), (2, .int p1), (3, .int p2)] := hl
  unfold FX0_offer at hF
  refine lv_iload_n hx hb dX0_offer_0 rfl (lv_at hl 1 rfl) ?_
  refine lv_aload_n hx hb dX0_offer_1 rfl (lv_at hl 0 rfl) ?_
  refine va_get (D := D) (ci := 0) (v := va_re ad (M.2 a 20)) (C := RX0) (T := TX0) (N := 21) hx hb hts (mus hf_X0) hown hK hP a (wld_o ct ad G M hc hk (by decide)) rfl 20 (by decide) (hts (.fieldLink RX0 75 "VideoSuite$Coder" "choice" "[I") (mu mw_838)) (fun _ h9 => h9) rfl dX0_offer_2 ?_
  refine lv_bipush (v := (10 : Int32)) hx hb dX0_offer_5 (by decide) ?_
  obtain ⟨b1, ho1, hc1, hk1, hF⟩ := dr_some hF
  refine W_st (st' := [.int (10 : Int32), .ref (ad b1), .int p0]) (by rw [va_some ho1]) ?_
  obtain ⟨hvc, hF⟩ := chk_some hF
  refine va_iald hx hb hK hP b1 1 (wld_i ct ad G M hc1 hk1) rfl hvc dX0_offer_7 ?_
  obtain ⟨x2, ex2, hF⟩ := ltt_some hF
  refine lv_topi (fun zx2 ezx2 => ?_)
  obtain rfl : x2 = zx2 := ex2.trans ezx2.symm
  obtain ⟨y3, hy3, hF⟩ := bnd_some hF
  have J3 : ∀ (H : Heap) (locs : List Loc) (ls : Array Slot), va_P D classes (wld ct ad G y3) H → va_D A (wld ct ad G y3) → va_S A s.heap H locs → lv_has ls 4 [(0, .ref (ad a)), (1, .int p0), (2, .int p1), (3, .int p2)] → W p l e (headSpec wuX0_offer ({ frames := 0, cells := 0, slots := 0, locals := 0 })).room s m ([.ref (ad a), .int p0, .int p1, .int p2] : List Value).toArray below meth c H locs 0 0 (MQ below (va_Qv (fun (_ : Unit) => True) (fun _ t => kE D ct ad G A y t) A) ([.ref (ad a), .int p0, .int p1, .int p2] : List Value).toArray s 0 0 A) (F0 m 35 ls []) := by
    intro H locs ls hP hD hS hl
    obtain rfl := Option.some.inj hF
    exact W.vret hx hb hr (fun t ht hW => ⟨⟨(), rfl, trivial, ⟨by rw [ht]; exact hP, va_K.moved hW.alike hK, hD⟩⟩, hS.F ht⟩) hS.2.2 dX0_offer_35
  clear hF
  have hF := hy3
  clear hy3
  refine lv_icmp_ge (tgt := 35) hx hb dX0_offer_8 (by decide) (fun c4 => ?_) (fun c4 => ?_)
  · rw [if_pos c4] at hF
    obtain rfl := Option.some.inj hF
    exact J3 _ _ _ hP hD hS (lv_sub hl [0, 1, 2, 3] rfl)
  · rw [if_neg c4] at hF
    refine lv_aload_n hx hb dX0_offer_11 rfl (lv_at hl 0 rfl) ?_
    refine va_get (D := D) (ci := 0) (v := va_re ad (M.2 a 20)) (C := RX0) (T := TX0) (N := 21) hx hb hts (mus hf_X0) hown hK hP a (wld_o ct ad G M hc hk (by decide)) rfl 20 (by decide) (hts (.fieldLink RX0 75 "VideoSuite$Coder" "choice" "[I") (mu mw_838)) (fun _ h9 => h9) rfl dX0_offer_12 ?_
    refine lv_bipush (v := (10 : Int32)) hx hb dX0_offer_15 (by decide) ?_
    refine lv_iload_n hx hb dX0_offer_17 rfl (lv_at hl 1 rfl) ?_
    refine W_st (st' := [.int p0, .int (10 : Int32), .ref (ad b1)]) (by rw [va_some ho1]) ?_
    obtain ⟨hvc, hF⟩ := chk_some hF
    refine va_iast hx hb hK hP hD hS b1 1 (wld_i ct ad G M hc1 hk1) rfl hvc dX0_offer_18 (fun H locs hP hD hS => ?_)
    obtain ⟨M5, eM5, hF⟩ := ltt_some hF
    rw [set_i ct ad G M hc1 hk1, ← eM5] at hP hD
    refine lv_aload_n hx hb dX0_offer_19 rfl (lv_at hl 0 rfl) ?_
    refine va_get (D := D) (ci := 0) (v := va_re ad (M5.2 a 20)) (C := RX0) (T := TX0) (N := 21) hx hb hts (mus hf_X0) hown hK hP a (wld_o ct ad G M5 hc hk (by decide)) rfl 20 (by decide) (hts (.fieldLink RX0 75 "VideoSuite$Coder" "choice" "[I") (mu mw_838)) (fun _ h9 => h9) rfl dX0_offer_20 ?_
    refine lv_bipush (v := (11 : Int32)) hx hb dX0_offer_23 (by decide) ?_
    refine lv_iload_n hx hb dX0_offer_25 rfl (lv_at hl 2 rfl) ?_
    obtain ⟨b6, ho6, hc6, hk6, hF⟩ := dr_some hF
    refine W_st (st' := [.int p1, .int (11 : Int32), .ref (ad b6)]) (by rw [va_some ho6]) ?_
    obtain ⟨hvc, hF⟩ := chk_some hF
    refine va_iast hx hb hK hP hD hS b6 1 (wld_i ct ad G M5 hc6 hk6) rfl hvc dX0_offer_26 (fun H locs hP hD hS => ?_)
    obtain ⟨M7, eM7, hF⟩ := ltt_some hF
    rw [set_i ct ad G M5 hc6 hk6, ← eM7] at hP hD
    refine lv_aload_n hx hb dX0_offer_27 rfl (lv_at hl 0 rfl) ?_
    refine va_get (D := D) (ci := 0) (v := va_re ad (M7.2 a 20)) (C := RX0) (T := TX0) (N := 21) hx hb hts (mus hf_X0) hown hK hP a (wld_o ct ad G M7 hc hk (by decide)) rfl 20 (by decide) (hts (.fieldLink RX0 75 "VideoSuite$Coder" "choice" "[I") (mu mw_838)) (fun _ h9 => h9) rfl dX0_offer_28 ?_
    refine lv_bipush (v := (12 : Int32)) hx hb dX0_offer_31 (by decide) ?_
    refine lv_iload_n hx hb dX0_offer_33 rfl (lv_at hl 3 rfl) ?_
    obtain ⟨b8, ho8, hc8, hk8, hF⟩ := dr_some hF
    refine W_st (st' := [.int p2, .int (12 : Int32), .ref (ad b8)]) (by rw [va_some ho8]) ?_
    obtain ⟨hvc, hF⟩ := chk_some hF
    refine va_iast hx hb hK hP hD hS b8 1 (wld_i ct ad G M7 hc8 hk8) rfl hvc dX0_offer_34 (fun H locs hP hD hS => ?_)
    obtain ⟨M9, eM9, hF⟩ := ltt_some hF
    rw [set_i ct ad G M7 hc8 hk8, ← eM9] at hP hD
    obtain rfl := Option.some.inj hF
    exact J3 _ _ _ hP hD hS (lv_sub hl [0, 1, 2, 3] rfl)
theorem dX0_opensAnew_0 : decode cX0_opensAnew 0 = .ok (.aload_n 0, 1) := by decide +kernel
theorem dX0_opensAnew_1 : decode cX0_opensAnew 1 = .ok (.getfield 104, 3) := by decide +kernel
theorem dX0_opensAnew_4 : decode cX0_opensAnew 4 = .ok (.iconst 1, 1) := by decide +kernel
theorem dX0_opensAnew_5 : decode cX0_opensAnew 5 = .ok (.isub, 1) := by decide +kernel
theorem dX0_opensAnew_6 : decode cX0_opensAnew 6 = .ok (.istore_n 1, 1) := by decide +kernel
theorem dX0_opensAnew_7 : decode cX0_opensAnew 7 = .ok (.iload_n 1, 1) := by decide +kernel
theorem dX0_opensAnew_8 : decode cX0_opensAnew 8 = .ok (.ifCond .eq 25, 3) := by decide +kernel
theorem dX0_opensAnew_11 : decode cX0_opensAnew 11 = .ok (.aload_n 0, 1) := by decide +kernel
theorem dX0_opensAnew_12 : decode cX0_opensAnew 12 = .ok (.getfield 23, 3) := by decide +kernel
theorem dX0_opensAnew_15 : decode cX0_opensAnew 15 = .ok (.bipush 12, 2) := by decide +kernel
theorem dX0_opensAnew_17 : decode cX0_opensAnew 17 = .ok (.iaload, 1) := by decide +kernel
theorem dX0_opensAnew_18 : decode cX0_opensAnew 18 = .ok (.ifCond .le 19, 3) := by decide +kernel
theorem dX0_opensAnew_21 : decode cX0_opensAnew 21 = .ok (.iload_n 1, 1) := by decide +kernel
theorem dX0_opensAnew_22 : decode cX0_opensAnew 22 = .ok (.aload_n 0, 1) := by decide +kernel
theorem dX0_opensAnew_23 : decode cX0_opensAnew 23 = .ok (.getfield 23, 3) := by decide +kernel
theorem dX0_opensAnew_26 : decode cX0_opensAnew 26 = .ok (.bipush 12, 2) := by decide +kernel
theorem dX0_opensAnew_28 : decode cX0_opensAnew 28 = .ok (.iaload, 1) := by decide +kernel
theorem dX0_opensAnew_29 : decode cX0_opensAnew 29 = .ok (.irem, 1) := by decide +kernel
theorem dX0_opensAnew_30 : decode cX0_opensAnew 30 = .ok (.ifCond .ne 7, 3) := by decide +kernel
theorem dX0_opensAnew_33 : decode cX0_opensAnew 33 = .ok (.iconst 1, 1) := by decide +kernel
theorem dX0_opensAnew_34 : decode cX0_opensAnew 34 = .ok (.goto 4, 3) := by decide +kernel
theorem dX0_opensAnew_37 : decode cX0_opensAnew 37 = .ok (.iconst 0, 1) := by decide +kernel
theorem dX0_opensAnew_38 : decode cX0_opensAnew 38 = .ok (.ireturn, 1) := by decide +kernel
def FX0_opensAnew (G : GG) (M : DD) (a : Nat)  : Option (DD × Int32) :=
  ltt (M.1 a 11) fun x1 =>
  ltt ((x1 - ((1 : Int32)))) fun x2 =>
  bnd (if x2 = ((0 : Int32)) then (some ((1 : Int32))) else
  (dr G 13 ((M.2 a 1)) fun b5 =>
  chk (¬ (((12 : Int32)) < 0 ∨ G.2.2 b5 ≤ ((12 : Int32)).toNatClampNeg)) <|
  ltt (M.1 b5 ((12 : Int32)).toNatClampNeg) fun x6 =>
  bnd (if x6 ≤ ((0 : Int32)) then (some ((0 : Int32))) else
  (chk (¬ (((12 : Int32)) < 0 ∨ G.2.2 b5 ≤ ((12 : Int32)).toNatClampNeg)) <|
  ltt (M.1 b5 ((12 : Int32)).toNatClampNeg) fun x9 =>
  chk (¬ x9 = 0) <|
  ltt (x2 - x2 / x9 * x9) fun x10 =>
  bnd (if x10 = ((0 : Int32)) then (some ((1 : Int32))) else
  (some ((0 : Int32)))) fun (y11 : Int32) =>
  some (y11))) fun (y7 : Int32) =>
  some (y7))) fun (y3 : Int32) =>
  chk (y3 = 0 ∨ y3 = 1) <|
  some (M, y3)
set_option maxHeartbeats 4000000 in
set_option maxRecDepth 100000 in
theorem kX0_opensAnew (l : Launch) (D : va_G) (ct : CT) (ad : Nat → Nat) (Z : Nat → Nat) (G : GG) (M : DD) (sz : Nat) (a : Nat)  (y : DD × Int32) (hc : a < G.1) (hk : G.2.1 a = 0) (hF : FX0_opensAnew G M a  = some y) : Met l yX0_opensAnew wuX0_opensAnew ({ frames := 0, cells := 0, slots := 0, locals := 0 }) (va_Pc [.ref (ad a)] (kB D ct ad Z G M sz)) (va_Qi (fun (q : Int32) (_ : Unit) => q = y.2) (fun _ t => kE D ct ad G (wA ad G sz) y.1 t) (wA ad G sz)) 0 0 (wA ad G sz) := by
  refine Met.ofW (cc := cX0_opensAnew) (maxL := 2) (ret := (some .boolean)) (by decide) rfl ?_
  intro p e s m args below meth c s₁ B hml hv
  obtain ⟨rfl, hsz, hP, hK, hD0, hZ, hN⟩ := hv
  have hx := B.exec
  have hb := B.bytes
  have hr := B.returns
  have hts := atoms_spec (ws := wuX0_opensAnew) B.pre
  have hown : s.vm.findClass RX0 = some m.cls := findClass_of_methodNamed B.named
  have hlocks := B.notSynchronized
  subst hsz
  have hD := wD_self (sz := s.heap.size) hD0
  have hA9 : ∀ q, s.heap.size ≤ q → wA ad G s.heap.size q := fun q h => Or.inr h
  generalize hAe : wA ad G s.heap.size = A at hD hA9 hZ ⊢
  have hS : va_S A s.heap s.heap [] := va_S.rf
  have hl := lv_entry ([.ref (ad a)]) (n := 2) (Nat.le_of_ble_eq_true rfl)
  rw [lg_entry_eq]
  generalize (lg_sl ([.ref (ad a)]) ++ List.replicate (2 - (lg_sl ([.ref (ad a)])).length) Slot.unset).toArray = ls at hl ⊢
  have hl : lv_has ls 2 [(0, .ref (ad a))] := hl
  unfold FX0_opensAnew at hF
  refine lv_aload_n hx hb dX0_opensAnew_0 rfl (lv_at hl 0 rfl) ?_
  refine va_get (D := D) (ci := 0) (v := .int (M.1 a 11)) (C := RX0) (T := TX0) (N := 21) hx hb hts (mus hf_X0) hown hK hP a (wld_o ct ad G M hc hk (by decide)) rfl 11 (by decide) (hts (.fieldLink RX0 104 "VideoSuite$Coder" "come" "I") (mu mw_826)) (fun _ h9 => h9) rfl dX0_opensAnew_1 ?_
  obtain ⟨x1, ex1, hF⟩ := ltt_some hF
  refine lv_topi (fun zx1 ezx1 => ?_)
  obtain rfl : x1 = zx1 := ex1.trans ezx1.symm
  refine lv_iconst (v := (1 : Int32)) hx hb dX0_opensAnew_4 (by decide) ?_
  refine lv_isub hx hb dX0_opensAnew_5 ?_
  obtain ⟨x2, ex2, hF⟩ := ltt_some hF
  refine lv_topi (fun zx2 ezx2 => ?_)
  obtain rfl : x2 = zx2 := ex2.trans ezx2.symm
  refine lv_istore_n (lv' := [(1, .int x2), (0, .ref (ad a))]) hx hb dX0_opensAnew_6 rfl hl (by decide) rfl (fun ls hl => ?_)
  refine lv_iload_n hx hb dX0_opensAnew_7 rfl (lv_at hl 0 rfl) ?_
  obtain ⟨y3, hy3, hF⟩ := bnd_some hF
  have J3 : ∀ (H : Heap) (locs : List Loc) (ls : Array Slot), va_P D classes (wld ct ad G M) H → va_D A (wld ct ad G M) → va_S A s.heap H locs → lv_has ls 2 [(1, .int x2), (0, .ref (ad a))] → W p l e (headSpec wuX0_opensAnew ({ frames := 0, cells := 0, slots := 0, locals := 0 })).room s m ([.ref (ad a)] : List Value).toArray below meth c H locs 0 0 (MQ below (va_Qi (fun (q : Int32) (_ : Unit) => q = y.2) (fun _ t => kE D ct ad G A y.1 t) A) ([.ref (ad a)] : List Value).toArray s 0 0 A) (F0 m 38 ls [.int y3]) := by
    intro H locs ls hP hD hS hl
    obtain ⟨hz9, hF⟩ := chk_some hF
    obtain rfl := Option.some.inj hF
    exact W.zret (v := y3) (ty := .boolean) hx hb hr (nar_z hz9).1 (fun t ht hW => ⟨⟨_, (), rfl, rfl, ⟨by rw [ht]; exact hP, va_K.moved hW.alike hK, hD⟩⟩, hS.F ht⟩) hS.2.2 dX0_opensAnew_38
  clear hF
  have hF := hy3
  clear hy3
  refine lv_if_eq (tgt := 33) hx hb dX0_opensAnew_8 (by decide) (fun c4 => ?_) (fun c4 => ?_)
  · rw [if_pos c4] at hF
    refine lv_iconst (v := (1 : Int32)) hx hb dX0_opensAnew_33 (by decide) ?_
    refine lv_goto (tgt := 38) hx hb dX0_opensAnew_34 (by decide) ?_
    obtain rfl := Option.some.inj hF
    exact J3 _ _ _ hP hD hS (lv_sub hl [0, 1] rfl)
  · rw [if_neg c4] at hF
    refine lv_aload_n hx hb dX0_opensAnew_11 rfl (lv_at hl 1 rfl) ?_
    refine va_get (D := D) (ci := 0) (v := va_re ad (M.2 a 1)) (C := RX0) (T := TX0) (N := 21) hx hb hts (mus hf_X0) hown hK hP a (wld_o ct ad G M hc hk (by decide)) rfl 1 (by decide) (hts (.fieldLink RX0 23 "VideoSuite$Coder" "now" "[I") (mu mw_813)) (fun _ h9 => h9) rfl dX0_opensAnew_12 ?_
    refine lv_bipush (v := (12 : Int32)) hx hb dX0_opensAnew_15 (by decide) ?_
    obtain ⟨b5, ho5, hc5, hk5, hF⟩ := dr_some hF
    refine W_st (st' := [.int (12 : Int32), .ref (ad b5)]) (by rw [va_some ho5]) ?_
    obtain ⟨hvc, hF⟩ := chk_some hF
    refine va_iald hx hb hK hP b5 1 (wld_i ct ad G M hc5 hk5) rfl hvc dX0_opensAnew_17 ?_
    obtain ⟨x6, ex6, hF⟩ := ltt_some hF
    refine lv_topi (fun zx6 ezx6 => ?_)
    obtain rfl : x6 = zx6 := ex6.trans ezx6.symm
    obtain ⟨y7, hy7, hF⟩ := bnd_some hF
    have J7 : ∀ (H : Heap) (locs : List Loc) (ls : Array Slot), va_P D classes (wld ct ad G M) H → va_D A (wld ct ad G M) → va_S A s.heap H locs → lv_has ls 2 [(1, .int x2), (0, .ref (ad a))] → W p l e (headSpec wuX0_opensAnew ({ frames := 0, cells := 0, slots := 0, locals := 0 })).room s m ([.ref (ad a)] : List Value).toArray below meth c H locs 0 0 (MQ below (va_Qi (fun (q : Int32) (_ : Unit) => q = y.2) (fun _ t => kE D ct ad G A y.1 t) A) ([.ref (ad a)] : List Value).toArray s 0 0 A) (F0 m 38 ls [.int y7]) := by
      intro H locs ls hP hD hS hl
      obtain rfl := Option.some.inj hF
      exact J3 _ _ _ hP hD hS (lv_sub hl [0, 1] rfl)
    clear hF
    have hF := hy7
    clear hy7
    refine lv_if_le (tgt := 37) hx hb dX0_opensAnew_18 (by decide) (fun c8 => ?_) (fun c8 => ?_)
    · rw [if_pos c8] at hF
      refine lv_iconst (v := (0 : Int32)) hx hb dX0_opensAnew_37 (by decide) ?_
      obtain rfl := Option.some.inj hF
      exact J7 _ _ _ hP hD hS (lv_sub hl [0, 1] rfl)
    · rw [if_neg c8] at hF
      refine lv_iload_n hx hb dX0_opensAnew_21 rfl (lv_at hl 0 rfl) ?_
      refine lv_aload_n hx hb dX0_opensAnew_22 rfl (lv_at hl 1 rfl) ?_
      refine va_get (D := D) (ci := 0) (v := va_re ad (M.2 a 1)) (C := RX0) (T := TX0) (N := 21) hx hb hts (mus hf_X0) hown hK hP a (wld_o ct ad G M hc hk (by decide)) rfl 1 (by decide) (hts (.fieldLink RX0 23 "VideoSuite$Coder" "now" "[I") (mu mw_813)) (fun _ h9 => h9) rfl dX0_opensAnew_23 ?_
      refine lv_bipush (v := (12 : Int32)) hx hb dX0_opensAnew_26 (by decide) ?_
      refine W_st (st' := [.int (12 : Int32), .ref (ad b5), .int x2]) (by rw [va_some ho5]) ?_
      obtain ⟨hvc, hF⟩ := chk_some hF
      refine va_iald hx hb hK hP b5 1 (wld_i ct ad G M hc5 hk5) rfl hvc dX0_opensAnew_28 ?_
      obtain ⟨x9, ex9, hF⟩ := ltt_some hF
      refine lv_topi (fun zx9 ezx9 => ?_)
      obtain rfl : x9 = zx9 := ex9.trans ezx9.symm
      obtain ⟨hne, hF⟩ := chk_some hF
      refine lv_irem hx hb dX0_opensAnew_29 hne ?_
      obtain ⟨x10, ex10, hF⟩ := ltt_some hF
      refine lv_topi (fun zx10 ezx10 => ?_)
      obtain rfl : x10 = zx10 := ex10.trans ezx10.symm
      obtain ⟨y11, hy11, hF⟩ := bnd_some hF
      have J11 : ∀ (H : Heap) (locs : List Loc) (ls : Array Slot), va_P D classes (wld ct ad G M) H → va_D A (wld ct ad G M) → va_S A s.heap H locs → lv_has ls 2 [(1, .int x2), (0, .ref (ad a))] → W p l e (headSpec wuX0_opensAnew ({ frames := 0, cells := 0, slots := 0, locals := 0 })).room s m ([.ref (ad a)] : List Value).toArray below meth c H locs 0 0 (MQ below (va_Qi (fun (q : Int32) (_ : Unit) => q = y.2) (fun _ t => kE D ct ad G A y.1 t) A) ([.ref (ad a)] : List Value).toArray s 0 0 A) (F0 m 38 ls [.int y11]) := by
        intro H locs ls hP hD hS hl
        obtain rfl := Option.some.inj hF
        exact J7 _ _ _ hP hD hS (lv_sub hl [0, 1] rfl)
      clear hF
      have hF := hy11
      clear hy11
      refine lv_if_ne (tgt := 37) hx hb dX0_opensAnew_30 (by decide) (fun c12 => ?_) (fun c12 => ?_)
      · rw [if_neg c12] at hF
        refine lv_iconst (v := (0 : Int32)) hx hb dX0_opensAnew_37 (by decide) ?_
        obtain rfl := Option.some.inj hF
        exact J11 _ _ _ hP hD hS (lv_sub hl [0, 1] rfl)
      · rw [if_pos c12] at hF
        refine lv_iconst (v := (1 : Int32)) hx hb dX0_opensAnew_33 (by decide) ?_
        refine lv_goto (tgt := 38) hx hb dX0_opensAnew_34 (by decide) ?_
        obtain rfl := Option.some.inj hF
        exact J11 _ _ _ hP hD hS (lv_sub hl [0, 1] rfl)
set_option maxRecDepth 20000 in
theorem gX0_paintFlat_J7_fill_53178 : GoodIn wuX0_paintFlat (va_wsS RX0 144 yJ7_fill_53178 wuJ7_fill_53178) := gu_S mw_1124 mw_1125 mw_182 mw_1126
theorem dX0_paintFlat_0 : decode cX0_paintFlat 0 = .ok (.iconst 0, 1) := by decide +kernel
theorem dX0_paintFlat_1 : decode cX0_paintFlat 1 = .ok (.istore 4, 2) := by decide +kernel
theorem dX0_paintFlat_3 : decode cX0_paintFlat 3 = .ok (.iload 4, 2) := by decide +kernel
theorem dX0_paintFlat_5 : decode cX0_paintFlat 5 = .ok (.iconst 3, 1) := by decide +kernel
theorem dX0_paintFlat_6 : decode cX0_paintFlat 6 = .ok (.if_icmp .ge 46, 3) := by decide +kernel
theorem dX0_paintFlat_9 : decode cX0_paintFlat 9 = .ok (.aload_n 0, 1) := by decide +kernel
theorem dX0_paintFlat_10 : decode cX0_paintFlat 10 = .ok (.getfield 66, 3) := by decide +kernel
theorem dX0_paintFlat_13 : decode cX0_paintFlat 13 = .ok (.bipush 9, 2) := by decide +kernel
theorem dX0_paintFlat_15 : decode cX0_paintFlat 15 = .ok (.iload 4, 2) := by decide +kernel
theorem dX0_paintFlat_17 : decode cX0_paintFlat 17 = .ok (.iadd, 1) := by decide +kernel
theorem dX0_paintFlat_18 : decode cX0_paintFlat 18 = .ok (.aaload, 1) := by decide +kernel
theorem dX0_paintFlat_19 : decode cX0_paintFlat 19 = .ok (.iload 4, 2) := by decide +kernel
theorem dX0_paintFlat_21 : decode cX0_paintFlat 21 = .ok (.ifCond .ne 7, 3) := by decide +kernel
theorem dX0_paintFlat_24 : decode cX0_paintFlat 24 = .ok (.iload_n 1, 1) := by decide +kernel
theorem dX0_paintFlat_25 : decode cX0_paintFlat 25 = .ok (.goto 14, 3) := by decide +kernel
theorem dX0_paintFlat_28 : decode cX0_paintFlat 28 = .ok (.iload 4, 2) := by decide +kernel
theorem dX0_paintFlat_30 : decode cX0_paintFlat 30 = .ok (.iconst 1, 1) := by decide +kernel
theorem dX0_paintFlat_31 : decode cX0_paintFlat 31 = .ok (.if_icmp .ne 7, 3) := by decide +kernel
theorem dX0_paintFlat_34 : decode cX0_paintFlat 34 = .ok (.iload_n 2, 1) := by decide +kernel
theorem dX0_paintFlat_35 : decode cX0_paintFlat 35 = .ok (.goto 4, 3) := by decide +kernel
theorem dX0_paintFlat_38 : decode cX0_paintFlat 38 = .ok (.iload_n 3, 1) := by decide +kernel
theorem dX0_paintFlat_39 : decode cX0_paintFlat 39 = .ok (.sipush 255, 3) := by decide +kernel
theorem dX0_paintFlat_42 : decode cX0_paintFlat 42 = .ok (.iand, 1) := by decide +kernel
theorem dX0_paintFlat_43 : decode cX0_paintFlat 43 = .ok (.invokestatic 144, 3) := by decide +kernel
theorem dX0_paintFlat_46 : decode cX0_paintFlat 46 = .ok (.iinc 4 1, 3) := by decide +kernel
theorem dX0_paintFlat_49 : decode cX0_paintFlat 49 = .ok (.goto (-46), 3) := by decide +kernel
theorem dX0_paintFlat_52 : decode cX0_paintFlat 52 = .ok (.return_, 1) := by decide +kernel
def FX0_paintFlat (G : GG) (M : DD) (a : Nat) (p0 : Int32) (p1 : Int32) (p2 : Int32) : Option (DD) :=
  bnd (itr (fun (s2 : Int32 × DD) => ((if ((3 : Int32)) ≤ s2.1 then (some (.inr (s2.1, s2.2))) else
  (ltt ((((9 : Int32)) + s2.1)) fun x6 =>
  dr G 15 ((s2.2.2 a 8)) fun b7 =>
  chk (¬ (x6 < 0 ∨ G.2.2 b7 ≤ x6.toNatClampNeg)) <|
  bnd (if s2.1 = ((0 : Int32)) then (some (p0)) else
  (bnd (if s2.1 = ((1 : Int32)) then (some (p1)) else
  (some (p2))) fun (y13 : Int32) =>
  some (y13))) fun (y8 : Int32) =>
  ltt ((y8 &&& ((255 : Int32)))) fun x9 =>
  bnd (FJ7_fill_53178 G s2.2 ((s2.2.2 b7 x6.toNatClampNeg)) x9) fun y10 =>
  ltt (s2.1 + (1 : Int32)) fun x11 =>
  some (.inl (x11, y10)))) : Option ((Int32 × DD) ⊕ (Int32 × DD)))) 1000000 ((0 : Int32), M)) fun (y1 : Int32 × DD) =>
  some y1.2
set_option maxHeartbeats 4000000 in
set_option maxRecDepth 100000 in
theorem kX0_paintFlat (l : Launch) (D : va_G) (ct : CT) (ad : Nat → Nat) (Z : Nat → Nat) (G : GG) (M : DD) (sz : Nat) (a : Nat) (p0 : Int32) (p1 : Int32) (p2 : Int32) (y : DD) (hc : a < G.1) (hk : G.2.1 a = 0) (hF : FX0_paintFlat G M a p0 p1 p2 = some y) : Met l yX0_paintFlat wuX0_paintFlat ({ frames := 1, cells := 0, slots := 0, locals := 23 }) (va_Pc [.ref (ad a), .int p0, .int p1, .int p2] (kB D ct ad Z G M sz)) (va_Qv (fun (_ : Unit) => True) (fun _ t => kE D ct ad G (wA ad G sz) y t) (wA ad G sz)) 0 0 (wA ad G sz) := by
  refine Met.ofW (cc := cX0_paintFlat) (maxL := 5) (ret := none) (by decide) rfl ?_
  intro p e s m args below meth c s₁ B hml hv
  obtain ⟨rfl, hsz, hP, hK, hD0, hZ, hN⟩ := hv
  have hx := B.exec
  have hb := B.bytes
  have hr := B.returns
  have hts := atoms_spec (ws := wuX0_paintFlat) B.pre
  have hown : s.vm.findClass RX0 = some m.cls := findClass_of_methodNamed B.named
  have hlocks := B.notSynchronized
  subst hsz
  have hD := wD_self (sz := s.heap.size) hD0
  have hA9 : ∀ q, s.heap.size ≤ q → wA ad G s.heap.size q := fun q h => Or.inr h
  generalize hAe : wA ad G s.heap.size = A at hD hA9 hZ ⊢
  have hS : va_S A s.heap s.heap [] := va_S.rf
  have hl := lv_entry ([.ref (ad a), .int p0, .int p1, .int p2]) (n := 5) (Nat.le_of_ble_eq_true rfl)
  rw [lg_entry_eq]
  generalize (lg_sl ([.ref (ad a), .int p0, .int p1, .int p2]) ++ List.replicate (5 - (lg_sl ([.ref (ad a), .int p0, .int p1, .int p2])).length) Slot.unset).toArray = ls at hl ⊢
  have hl : lv_has ls 5 [(0, .ref (ad a)), (1, .int p0), (2, .int p1), (3, .int p2)] := hl
  unfold FX0_paintFlat at hF
  refine lv_iconst (v := (0 : Int32)) hx hb dX0_paintFlat_0 (by decide) ?_
  refine lv_istore (lv' := [(4, .int (0 : Int32)), (0, .ref (ad a)), (1, .int p0), (2, .int p1), (3, .int p2)]) hx hb dX0_paintFlat_1 hl (by decide) rfl (fun ls hl => ?_)
  obtain ⟨y1, hy1, hF⟩ := bnd_some hF
  have K1 : ∀ (H : Heap) (locs : List Loc) (ls : Array Slot), va_P D classes (wld ct ad G y1.2) H → va_D A (wld ct ad G y1.2) → va_S A s.heap H locs → lv_has ls 5 [(4, .int y1.1), (0, .ref (ad a)), (1, .int p0), (2, .int p1), (3, .int p2)] → W p l e (headSpec wuX0_paintFlat ({ frames := 1, cells := 0, slots := 0, locals := 23 })).room s m ([.ref (ad a), .int p0, .int p1, .int p2] : List Value).toArray below meth c H locs 0 0 (MQ below (va_Qv (fun (_ : Unit) => True) (fun _ t => kE D ct ad G A y t) A) ([.ref (ad a), .int p0, .int p1, .int p2] : List Value).toArray s 0 0 A) (F0 m 52 ls []) := by
    intro H locs ls hP hD hS hl
    obtain rfl := Option.some.inj hF
    exact W.vret hx hb hr (fun t ht hW => ⟨⟨(), rfl, trivial, ⟨by rw [ht]; exact hP, va_K.moved hW.alike hK, hD⟩⟩, hS.F ht⟩) hS.2.2 dX0_paintFlat_52
  clear hF
  refine itr_rule (fun (s2 : Int32 × DD) => ∀ (H : Heap) (locs : List Loc) (ls : Array Slot), va_P D classes (wld ct ad G s2.2) H → va_D A (wld ct ad G s2.2) → va_S A s.heap H locs → lv_has ls 5 [(4, .int s2.1), (0, .ref (ad a)), (1, .int p0), (2, .int p1), (3, .int p2)] → W p l e (headSpec wuX0_paintFlat ({ frames := 1, cells := 0, slots := 0, locals := 23 })).room s m ([.ref (ad a), .int p0, .int p1, .int p2] : List Value).toArray below meth c H locs 0 0 (MQ below (va_Qv (fun (_ : Unit) => True) (fun _ t => kE D ct ad G A y t) A) ([.ref (ad a), .int p0, .int p1, .int p2] : List Value).toArray s 0 0 A) (F0 m 3 ls [])) ?_ _ _ hy1 _ _ _ hP hD hS (lv_sub hl [0, 1, 2, 3, 4] rfl)
  rintro s2 ⟨z4, hF, hwz4⟩ H locs ls hP hD hS hl
  try dsimp only at hF
  refine lv_iload hx hb dX0_paintFlat_3 (lv_at hl 0 rfl) ?_
  refine lv_iconst (v := (3 : Int32)) hx hb dX0_paintFlat_5 (by decide) ?_
  refine lv_icmp_ge (tgt := 52) hx hb dX0_paintFlat_6 (by decide) (fun c5 => ?_) (fun c5 => ?_)
  · rw [if_pos c5] at hF
    obtain rfl := Option.some.inj hF
    subst hwz4
    exact K1 _ _ _ hP hD hS (lv_sub hl [0, 1, 2, 3, 4] rfl)
  · rw [if_neg c5] at hF
    refine lv_aload_n hx hb dX0_paintFlat_9 rfl (lv_at hl 1 rfl) ?_
    refine va_get (D := D) (ci := 0) (v := va_re ad (s2.2.2 a 8)) (C := RX0) (T := TX0) (N := 21) hx hb hts (mus hf_X0) hown hK hP a (wld_o ct ad G s2.2 hc hk (by decide)) rfl 8 (by decide) (hts (.fieldLink RX0 66 "VideoSuite$Coder" "planes" "[[I") (mu mw_822)) (fun _ h9 => h9) rfl dX0_paintFlat_10 ?_
    refine lv_bipush (v := (9 : Int32)) hx hb dX0_paintFlat_13 (by decide) ?_
    refine lv_iload hx hb dX0_paintFlat_15 (lv_at hl 0 rfl) ?_
    refine lv_iadd hx hb dX0_paintFlat_17 ?_
    obtain ⟨x6, ex6, hF⟩ := ltt_some hF
    refine lv_topi (fun zx6 ezx6 => ?_)
    obtain rfl : x6 = zx6 := ex6.trans ezx6.symm
    obtain ⟨b7, ho7, hc7, hk7, hF⟩ := dr_some hF
    refine W_st (st' := [.int x6, .ref (ad b7)]) (by rw [va_some ho7]) ?_
    obtain ⟨hvc, hF⟩ := chk_some hF
    refine ld_g hx hb hK hP hc7 hk7 hvc dX0_paintFlat_18 ?_
    refine lv_iload hx hb dX0_paintFlat_19 (lv_at hl 0 rfl) ?_
    obtain ⟨y8, hy8, hF⟩ := bnd_some hF
    have J8 : ∀ (H : Heap) (locs : List Loc) (ls : Array Slot), va_P D classes (wld ct ad G s2.2) H → va_D A (wld ct ad G s2.2) → va_S A s.heap H locs → lv_has ls 5 [(4, .int s2.1), (0, .ref (ad a)), (1, .int p0), (2, .int p1), (3, .int p2)] → W p l e (headSpec wuX0_paintFlat ({ frames := 1, cells := 0, slots := 0, locals := 23 })).room s m ([.ref (ad a), .int p0, .int p1, .int p2] : List Value).toArray below meth c H locs 0 0 (MQ below (va_Qv (fun (_ : Unit) => True) (fun _ t => kE D ct ad G A y t) A) ([.ref (ad a), .int p0, .int p1, .int p2] : List Value).toArray s 0 0 A) (F0 m 39 ls [.int y8, va_re ad (s2.2.2 b7 x6.toNatClampNeg)]) := by
      intro H locs ls hP hD hS hl
      refine lv_sipush (v := (255 : Int32)) hx hb dX0_paintFlat_39 (by decide) ?_
      refine lv_iand hx hb dX0_paintFlat_42 ?_
      obtain ⟨x9, ex9, hF⟩ := ltt_some hF
      refine lv_topi (fun zx9 ezx9 => ?_)
      obtain rfl : x9 = zx9 := ex9.trans ezx9.symm
      obtain ⟨y10, hy10, hF⟩ := bnd_some hF
      have hf9 := wA_in hD hA9 hS
      refine va_callv (va_runS (As := [va_re ad (s2.2.2 b7 x6.toNatClampNeg), .int x9]) (rest := []) ⟨hx, hb, hml, hown, hts⟩ (kJ7_fill_53178 l D ct ad Z G s2.2 H.size ((s2.2.2 b7 x6.toNatClampNeg)) x9 y10 hy10) (va_cwS 2 hts gX0_paintFlat_J7_fill_53178 rfl rfl rfl (by decide +kernel) ⟨Nat.le_of_ble_eq_true rfl, Nat.le_of_ble_eq_true rfl⟩) ⟨fun a U g mk q => by obtain ⟨q0, q1, qP, qK, qD, qZ, qN⟩ := q; exact ⟨q0, q1, qP, va_K.moved (u := U) (U := U.calling g mk a) (Vm.Alike.refl U.vm) qK, qD, sF.moved (u := U) (U := U.calling g mk a) (Vm.Alike.refl U.vm) qZ, nF.same rfl qN⟩, fun U hU hW => ⟨rfl, by rw [hU], by rw [hU]; exact hP, va_K.moved hW.alike hK, hD.weaken (fun _ _ _ _ => trivial), by rw [hU]; exact ((hZ.kept hS.2.1).narrow hf9).moved hW.alike, hN.warm hW⟩⟩ rfl rfl hl.1 rfl (lv_room (Nat.le_of_ble_eq_true rfl)) dX0_paintFlat_43 ⟨(Nat.zero_le _), (Nat.zero_le _)⟩) hS (fun q _ h => hf9 q h) hf9 (fun u t H locs ht hvm hw hB hz1 hk1 hS => ?_)
      obtain ⟨hP, hK9, hD9⟩ := hB
      rw [ht] at hP
      have hD := hD9.weaken (fun _ q _ h => hf9 q.1 h)
      obtain ⟨x11, ex11, hF⟩ := ltt_some hF
      refine lv_iinc (v := x11) (lv' := [(4, .int x11), (0, .ref (ad a)), (1, .int p0), (2, .int p1), (3, .int p2)]) hx hb dX0_paintFlat_46 hl (k := 0) rfl (by rw [ex11]; rfl) (by decide) rfl (fun ls hl => ?_)
      refine lv_goto (tgt := 3) hx hb dX0_paintFlat_49 (by decide) ?_
      obtain rfl := Option.some.inj hF
      exact hwz4 _ _ _ hP hD hS (lv_sub hl [0, 1, 2, 3, 4] rfl)
    clear hF
    have hF := hy8
    clear hy8
    refine lv_if_ne (tgt := 28) hx hb dX0_paintFlat_21 (by decide) (fun c12 => ?_) (fun c12 => ?_)
    · rw [if_neg c12] at hF
      refine lv_iload hx hb dX0_paintFlat_28 (lv_at hl 0 rfl) ?_
      refine lv_iconst (v := (1 : Int32)) hx hb dX0_paintFlat_30 (by decide) ?_
      obtain ⟨y13, hy13, hF⟩ := bnd_some hF
      have J13 : ∀ (H : Heap) (locs : List Loc) (ls : Array Slot), va_P D classes (wld ct ad G s2.2) H → va_D A (wld ct ad G s2.2) → va_S A s.heap H locs → lv_has ls 5 [(4, .int s2.1), (0, .ref (ad a)), (1, .int p0), (2, .int p1), (3, .int p2)] → W p l e (headSpec wuX0_paintFlat ({ frames := 1, cells := 0, slots := 0, locals := 23 })).room s m ([.ref (ad a), .int p0, .int p1, .int p2] : List Value).toArray below meth c H locs 0 0 (MQ below (va_Qv (fun (_ : Unit) => True) (fun _ t => kE D ct ad G A y t) A) ([.ref (ad a), .int p0, .int p1, .int p2] : List Value).toArray s 0 0 A) (F0 m 39 ls [.int y13, va_re ad (s2.2.2 b7 x6.toNatClampNeg)]) := by
        intro H locs ls hP hD hS hl
        obtain rfl := Option.some.inj hF
        exact J8 _ _ _ hP hD hS (lv_sub hl [0, 1, 2, 3, 4] rfl)
      clear hF
      have hF := hy13
      clear hy13
      refine lv_icmp_ne (tgt := 38) hx hb dX0_paintFlat_31 (by decide) (fun c14 => ?_) (fun c14 => ?_)
      · rw [if_neg c14] at hF
        refine lv_iload_n hx hb dX0_paintFlat_38 rfl (lv_at hl 4 rfl) ?_
        obtain rfl := Option.some.inj hF
        exact J13 _ _ _ hP hD hS (lv_sub hl [0, 1, 2, 3, 4] rfl)
      · rw [if_pos c14] at hF
        refine lv_iload_n hx hb dX0_paintFlat_34 rfl (lv_at hl 3 rfl) ?_
        refine lv_goto (tgt := 39) hx hb dX0_paintFlat_35 (by decide) ?_
        obtain rfl := Option.some.inj hF
        exact J13 _ _ _ hP hD hS (lv_sub hl [0, 1, 2, 3, 4] rfl)
    · rw [if_pos c12] at hF
      refine lv_iload_n hx hb dX0_paintFlat_24 rfl (lv_at hl 2 rfl) ?_
      refine lv_goto (tgt := 39) hx hb dX0_paintFlat_25 (by decide) ?_
      obtain rfl := Option.some.inj hF
      exact J8 _ _ _ hP hD hS (lv_sub hl [0, 1, 2, 3, 4] rfl)
theorem dX0_priceOfBit_0 : decode cX0_priceOfBit 0 = .ok (.aload_n 0, 1) := by decide +kernel
theorem dX0_priceOfBit_1 : decode cX0_priceOfBit 1 = .ok (.getfield 36, 3) := by decide +kernel
theorem dX0_priceOfBit_4 : decode cX0_priceOfBit 4 = .ok (.getfield 81, 3) := by decide +kernel
theorem dX0_priceOfBit_7 : decode cX0_priceOfBit 7 = .ok (.getfield 252, 3) := by decide +kernel
theorem dX0_priceOfBit_10 : decode cX0_priceOfBit 10 = .ok (.bipush 12, 2) := by decide +kernel
theorem dX0_priceOfBit_12 : decode cX0_priceOfBit 12 = .ok (.iaload, 1) := by decide +kernel
theorem dX0_priceOfBit_13 : decode cX0_priceOfBit 13 = .ok (.iconst 4, 1) := by decide +kernel
theorem dX0_priceOfBit_14 : decode cX0_priceOfBit 14 = .ok (.idiv, 1) := by decide +kernel
theorem dX0_priceOfBit_15 : decode cX0_priceOfBit 15 = .ok (.iconst 1, 1) := by decide +kernel
theorem dX0_priceOfBit_16 : decode cX0_priceOfBit 16 = .ok (.iadd, 1) := by decide +kernel
theorem dX0_priceOfBit_17 : decode cX0_priceOfBit 17 = .ok (.ireturn, 1) := by decide +kernel
def FX0_priceOfBit (G : GG) (M : DD) (a : Nat)  : Option (DD × Int32) :=
  dr G 9 ((M.2 a 3)) fun b1 =>
  dr G 3 ((M.2 b1 1)) fun b2 =>
  dr G 13 ((M.2 b2 0)) fun b3 =>
  chk (¬ (((12 : Int32)) < 0 ∨ G.2.2 b3 ≤ ((12 : Int32)).toNatClampNeg)) <|
  ltt (M.1 b3 ((12 : Int32)).toNatClampNeg) fun x4 =>
  ltt (x4 / ((4 : Int32))) fun x5 =>
  ltt ((x5 + ((1 : Int32)))) fun x6 =>
  some (M, x6)
set_option maxHeartbeats 4000000 in
set_option maxRecDepth 100000 in
theorem kX0_priceOfBit (l : Launch) (D : va_G) (ct : CT) (ad : Nat → Nat) (Z : Nat → Nat) (G : GG) (M : DD) (sz : Nat) (a : Nat)  (y : DD × Int32) (hc : a < G.1) (hk : G.2.1 a = 0) (hF : FX0_priceOfBit G M a  = some y) : Met l yX0_priceOfBit wuX0_priceOfBit ({ frames := 0, cells := 0, slots := 0, locals := 0 }) (va_Pc [.ref (ad a)] (kB D ct ad Z G M sz)) (va_Qi (fun (q : Int32) (_ : Unit) => q = y.2) (fun _ t => kE D ct ad G (wA ad G sz) y.1 t) (wA ad G sz)) 0 0 (wA ad G sz) := by
  refine Met.ofW (cc := cX0_priceOfBit) (maxL := 1) (ret := (some .int)) (by decide) rfl ?_
  intro p e s m args below meth c s₁ B hml hv
  obtain ⟨rfl, hsz, hP, hK, hD0, hZ, hN⟩ := hv
  have hx := B.exec
  have hb := B.bytes
  have hr := B.returns
  have hts := atoms_spec (ws := wuX0_priceOfBit) B.pre
  have hown : s.vm.findClass RX0 = some m.cls := findClass_of_methodNamed B.named
  have hlocks := B.notSynchronized
  subst hsz
  have hD := wD_self (sz := s.heap.size) hD0
  have hA9 : ∀ q, s.heap.size ≤ q → wA ad G s.heap.size q := fun q h => Or.inr h
  generalize hAe : wA ad G s.heap.size = A at hD hA9 hZ ⊢
  have hS : va_S A s.heap s.heap [] := va_S.rf
  have hl := lv_entry ([.ref (ad a)]) (n := 1) (Nat.le_of_ble_eq_true rfl)
  rw [lg_entry_eq]
  generalize (lg_sl ([.ref (ad a)]) ++ List.replicate (1 - (lg_sl ([.ref (ad a)])).length) Slot.unset).toArray = ls at hl ⊢
  have hl : lv_has ls 1 [(0, .ref (ad a))] := hl
  unfold FX0_priceOfBit at hF
  refine lv_aload_n hx hb dX0_priceOfBit_0 rfl (lv_at hl 0 rfl) ?_
  refine va_get (D := D) (ci := 0) (v := va_re ad (M.2 a 3)) (C := RX0) (T := TX0) (N := 21) hx hb hts (mus hf_X0) hown hK hP a (wld_o ct ad G M hc hk (by decide)) rfl 3 (by decide) (hts (.fieldLink RX0 36 "VideoSuite$Coder" "work" "LVideoSuite$Work;") (mu mw_817)) (fun _ h9 => h9) rfl dX0_priceOfBit_1 ?_
  obtain ⟨b1, ho1, hc1, hk1, hF⟩ := dr_some hF
  refine W_st (st' := [.ref (ad b1)]) (by rw [va_some ho1]) ?_
  refine va_get (D := D) (ci := 9) (v := va_re ad (M.2 b1 1)) (C := RX9) (T := TX9) (N := 20) hx hb hts (mus hf_X9) hown hK hP b1 (wld_o ct ad G M hc1 hk1 (by decide)) rfl 1 (by decide) (hts (.fieldLink RX0 81 "VideoSuite$Work" "head" "LVideoSuite$Header;") (mu mw_425)) (fun _ h9 => h9) rfl dX0_priceOfBit_4 ?_
  obtain ⟨b2, ho2, hc2, hk2, hF⟩ := dr_some hF
  refine W_st (st' := [.ref (ad b2)]) (by rw [va_some ho2]) ?_
  refine va_get (D := D) (ci := 3) (v := va_re ad (M.2 b2 0)) (C := RX3) (T := TX3) (N := 4) hx hb hts (mus hf_X3) hown hK hP b2 (wld_o ct ad G M hc2 hk2 (by decide)) rfl 0 (by decide) (hts (.fieldLink RX0 252 "VideoSuite$Header" "v" "[I") (mu mw_620)) (fun _ h9 => h9) rfl dX0_priceOfBit_7 ?_
  refine lv_bipush (v := (12 : Int32)) hx hb dX0_priceOfBit_10 (by decide) ?_
  obtain ⟨b3, ho3, hc3, hk3, hF⟩ := dr_some hF
  refine W_st (st' := [.int (12 : Int32), .ref (ad b3)]) (by rw [va_some ho3]) ?_
  obtain ⟨hvc, hF⟩ := chk_some hF
  refine va_iald hx hb hK hP b3 1 (wld_i ct ad G M hc3 hk3) rfl hvc dX0_priceOfBit_12 ?_
  obtain ⟨x4, ex4, hF⟩ := ltt_some hF
  refine lv_topi (fun zx4 ezx4 => ?_)
  obtain rfl : x4 = zx4 := ex4.trans ezx4.symm
  refine lv_iconst (v := (4 : Int32)) hx hb dX0_priceOfBit_13 (by decide) ?_
  refine lv_idiv hx hb dX0_priceOfBit_14 (by decide) ?_
  obtain ⟨x5, ex5, hF⟩ := ltt_some hF
  refine lv_topi (fun zx5 ezx5 => ?_)
  obtain rfl : x5 = zx5 := ex5.trans ezx5.symm
  refine lv_iconst (v := (1 : Int32)) hx hb dX0_priceOfBit_15 (by decide) ?_
  refine lv_iadd hx hb dX0_priceOfBit_16 ?_
  obtain ⟨x6, ex6, hF⟩ := ltt_some hF
  refine lv_topi (fun zx6 ezx6 => ?_)
  obtain rfl : x6 = zx6 := ex6.trans ezx6.symm
  obtain rfl := Option.some.inj hF
  exact W.iret (v := x6) hx hb hr (fun t ht hW => ⟨⟨_, (), rfl, rfl, ⟨by rw [ht]; exact hP, va_K.moved hW.alike hK, hD⟩⟩, hS.F ht⟩) hS.2.2 dX0_priceOfBit_17
theorem dX0_wide_0 : decode cX0_wide 0 = .ok (.aload_n 0, 1) := by decide +kernel
theorem dX0_wide_1 : decode cX0_wide 1 = .ok (.getfield 23, 3) := by decide +kernel
theorem dX0_wide_4 : decode cX0_wide 4 = .ok (.iconst 0, 1) := by decide +kernel
theorem dX0_wide_5 : decode cX0_wide 5 = .ok (.iaload, 1) := by decide +kernel
theorem dX0_wide_6 : decode cX0_wide 6 = .ok (.iload_n 1, 1) := by decide +kernel
theorem dX0_wide_7 : decode cX0_wide 7 = .ok (.ifCond .ne 8, 3) := by decide +kernel
theorem dX0_wide_10 : decode cX0_wide 10 = .ok (.bipush 16, 2) := by decide +kernel
theorem dX0_wide_12 : decode cX0_wide 12 = .ok (.goto 5, 3) := by decide +kernel
theorem dX0_wide_15 : decode cX0_wide 15 = .ok (.bipush 8, 2) := by decide +kernel
theorem dX0_wide_17 : decode cX0_wide 17 = .ok (.imul, 1) := by decide +kernel
theorem dX0_wide_18 : decode cX0_wide 18 = .ok (.ireturn, 1) := by decide +kernel
def FX0_wide (G : GG) (M : DD) (a : Nat) (p0 : Int32) : Option (DD × Int32) :=
  dr G 13 ((M.2 a 1)) fun b1 =>
  chk (¬ (((0 : Int32)) < 0 ∨ G.2.2 b1 ≤ ((0 : Int32)).toNatClampNeg)) <|
  ltt (M.1 b1 ((0 : Int32)).toNatClampNeg) fun x2 =>
  bnd (if p0 = ((0 : Int32)) then (some ((16 : Int32))) else
  (some ((8 : Int32)))) fun (y3 : Int32) =>
  ltt ((x2 * y3)) fun x4 =>
  some (M, x4)
set_option maxHeartbeats 4000000 in
set_option maxRecDepth 100000 in
theorem kX0_wide (l : Launch) (D : va_G) (ct : CT) (ad : Nat → Nat) (Z : Nat → Nat) (G : GG) (M : DD) (sz : Nat) (a : Nat) (p0 : Int32) (y : DD × Int32) (hc : a < G.1) (hk : G.2.1 a = 0) (hF : FX0_wide G M a p0 = some y) : Met l yX0_wide wuX0_wide ({ frames := 0, cells := 0, slots := 0, locals := 0 }) (va_Pc [.ref (ad a), .int p0] (kB D ct ad Z G M sz)) (va_Qi (fun (q : Int32) (_ : Unit) => q = y.2) (fun _ t => kE D ct ad G (wA ad G sz) y.1 t) (wA ad G sz)) 0 0 (wA ad G sz) := by
  refine Met.ofW (cc := cX0_wide) (maxL := 2) (ret := (some .int)) (by decide) rfl ?_
  intro p e s m args below meth c s₁ B hml hv
  obtain ⟨rfl, hsz, hP, hK, hD0, hZ, hN⟩ := hv
  have hx := B.exec
  have hb := B.bytes
  have hr := B.returns
  have hts := atoms_spec (ws := wuX0_wide) B.pre
  have hown : s.vm.findClass RX0 = some m.cls := findClass_of_methodNamed B.named
  have hlocks := B.notSynchronized
  subst hsz
  have hD := wD_self (sz := s.heap.size) hD0
  have hA9 : ∀ q, s.heap.size ≤ q → wA ad G s.heap.size q := fun q h => Or.inr h
  generalize hAe : wA ad G s.heap.size = A at hD hA9 hZ ⊢
  have hS : va_S A s.heap s.heap [] := va_S.rf
  have hl := lv_entry ([.ref (ad a), .int p0]) (n := 2) (Nat.le_of_ble_eq_true rfl)
  rw [lg_entry_eq]
  generalize (lg_sl ([.ref (ad a), .int p0]) ++ List.replicate (2 - (lg_sl ([.ref (ad a), .int p0])).length) Slot.unset).toArray = ls at hl ⊢
  have hl : lv_has ls 2 [(0, .ref (ad a)), (1, .int p0)] := hl
  unfold FX0_wide at hF
  refine lv_aload_n hx hb dX0_wide_0 rfl (lv_at hl 0 rfl) ?_
  refine va_get (D := D) (ci := 0) (v := va_re ad (M.2 a 1)) (C := RX0) (T := TX0) (N := 21) hx hb hts (mus hf_X0) hown hK hP a (wld_o ct ad G M hc hk (by decide)) rfl 1 (by decide) (hts (.fieldLink RX0 23 "VideoSuite$Coder" "now" "[I") (mu mw_813)) (fun _ h9 => h9) rfl dX0_wide_1 ?_
  refine lv_iconst (v := (0 : Int32)) hx hb dX0_wide_4 (by decide) ?_
  obtain ⟨b1, ho1, hc1, hk1, hF⟩ := dr_some hF
  refine W_st (st' := [.int (0 : Int32), .ref (ad b1)]) (by rw [va_some ho1]) ?_
  obtain ⟨hvc, hF⟩ := chk_some hF
  refine va_iald hx hb hK hP b1 1 (wld_i ct ad G M hc1 hk1) rfl hvc dX0_wide_5 ?_
  obtain ⟨x2, ex2, hF⟩ := ltt_some hF
  refine lv_topi (fun zx2 ezx2 => ?_)
  obtain rfl : x2 = zx2 := ex2.trans ezx2.symm
  refine lv_iload_n hx hb dX0_wide_6 rfl (lv_at hl 1 rfl) ?_
  obtain ⟨y3, hy3, hF⟩ := bnd_some hF
  have J3 : ∀ (H : Heap) (locs : List Loc) (ls : Array Slot), va_P D classes (wld ct ad G M) H → va_D A (wld ct ad G M) → va_S A s.heap H locs → lv_has ls 2 [(0, .ref (ad a)), (1, .int p0)] → W p l e (headSpec wuX0_wide ({ frames := 0, cells := 0, slots := 0, locals := 0 })).room s m ([.ref (ad a), .int p0] : List Value).toArray below meth c H locs 0 0 (MQ below (va_Qi (fun (q : Int32) (_ : Unit) => q = y.2) (fun _ t => kE D ct ad G A y.1 t) A) ([.ref (ad a), .int p0] : List Value).toArray s 0 0 A) (F0 m 17 ls [.int y3, .int x2]) := by
    intro H locs ls hP hD hS hl
    refine lv_imul hx hb dX0_wide_17 ?_
    obtain ⟨x4, ex4, hF⟩ := ltt_some hF
    refine lv_topi (fun zx4 ezx4 => ?_)
    obtain rfl : x4 = zx4 := ex4.trans ezx4.symm
    obtain rfl := Option.some.inj hF
    exact W.iret (v := x4) hx hb hr (fun t ht hW => ⟨⟨_, (), rfl, rfl, ⟨by rw [ht]; exact hP, va_K.moved hW.alike hK, hD⟩⟩, hS.F ht⟩) hS.2.2 dX0_wide_18
  clear hF
  have hF := hy3
  clear hy3
  refine lv_if_ne (tgt := 15) hx hb dX0_wide_7 (by decide) (fun c5 => ?_) (fun c5 => ?_)
  · rw [if_neg c5] at hF
    refine lv_bipush (v := (8 : Int32)) hx hb dX0_wide_15 (by decide) ?_
    obtain rfl := Option.some.inj hF
    exact J3 _ _ _ hP hD hS (lv_sub hl [0, 1] rfl)
  · rw [if_pos c5] at hF
    refine lv_bipush (v := (16 : Int32)) hx hb dX0_wide_10 (by decide) ?_
    refine lv_goto (tgt := 17) hx hb dX0_wide_12 (by decide) ?_
    obtain rfl := Option.some.inj hF
    exact J3 _ _ _ hP hD hS (lv_sub hl [0, 1] rfl)
theorem dX10_beginArith_0 : decode cX10_beginArith 0 = .ok (.aload_n 0, 1) := by decide +kernel
theorem dX10_beginArith_1 : decode cX10_beginArith 1 = .ok (.iconst 0, 1) := by decide +kernel
theorem dX10_beginArith_2 : decode cX10_beginArith 2 = .ok (.putfield 78, 3) := by decide +kernel
theorem dX10_beginArith_5 : decode cX10_beginArith 5 = .ok (.aload_n 0, 1) := by decide +kernel
theorem dX10_beginArith_6 : decode cX10_beginArith 6 = .ok (.sipush 510, 3) := by decide +kernel
theorem dX10_beginArith_9 : decode cX10_beginArith 9 = .ok (.putfield 75, 3) := by decide +kernel
theorem dX10_beginArith_12 : decode cX10_beginArith 12 = .ok (.aload_n 0, 1) := by decide +kernel
theorem dX10_beginArith_13 : decode cX10_beginArith 13 = .ok (.iconst 0, 1) := by decide +kernel
theorem dX10_beginArith_14 : decode cX10_beginArith 14 = .ok (.putfield 37, 3) := by decide +kernel
theorem dX10_beginArith_17 : decode cX10_beginArith 17 = .ok (.aload_n 0, 1) := by decide +kernel
theorem dX10_beginArith_18 : decode cX10_beginArith 18 = .ok (.iconst 1, 1) := by decide +kernel
theorem dX10_beginArith_19 : decode cX10_beginArith 19 = .ok (.putfield 34, 3) := by decide +kernel
theorem dX10_beginArith_22 : decode cX10_beginArith 22 = .ok (.aload_n 0, 1) := by decide +kernel
theorem dX10_beginArith_23 : decode cX10_beginArith 23 = .ok (.iconst 1, 1) := by decide +kernel
theorem dX10_beginArith_24 : decode cX10_beginArith 24 = .ok (.putfield 30, 3) := by decide +kernel
theorem dX10_beginArith_27 : decode cX10_beginArith 27 = .ok (.return_, 1) := by decide +kernel
def FX10_beginArith (G : GG) (M : DD) (a : Nat)  : Option (DD) :=
  ltt (uI M a 9 ((0 : Int32))) fun M1 =>
  ltt (uI M1 a 10 ((510 : Int32))) fun M2 =>
  ltt (uI M2 a 11 ((0 : Int32))) fun M3 =>
  chk (((1 : Int32)) = 0 ∨ ((1 : Int32)) = 1) <|
  ltt (uI M3 a 12 ((1 : Int32))) fun M4 =>
  chk (((1 : Int32)) = 0 ∨ ((1 : Int32)) = 1) <|
  ltt (uI M4 a 8 ((1 : Int32))) fun M5 =>
  some M5
set_option maxHeartbeats 4000000 in
set_option maxRecDepth 100000 in
theorem kX10_beginArith (l : Launch) (D : va_G) (ct : CT) (ad : Nat → Nat) (Z : Nat → Nat) (G : GG) (M : DD) (sz : Nat) (a : Nat)  (y : DD) (hc : a < G.1) (hk : G.2.1 a = 10) (hF : FX10_beginArith G M a  = some y) : Met l yX10_beginArith wuX10_beginArith ({ frames := 0, cells := 0, slots := 0, locals := 0 }) (va_Pc [.ref (ad a)] (kB D ct ad Z G M sz)) (va_Qv (fun (_ : Unit) => True) (fun _ t => kE D ct ad G (wA ad G sz) y t) (wA ad G sz)) 0 0 (wA ad G sz) := by
  refine Met.ofW (cc := cX10_beginArith) (maxL := 1) (ret := none) (by decide) rfl ?_
  intro p e s m args below meth c s₁ B hml hv
  obtain ⟨rfl, hsz, hP, hK, hD0, hZ, hN⟩ := hv
  have hx := B.exec
  have hb := B.bytes
  have hr := B.returns
  have hts := atoms_spec (ws := wuX10_beginArith) B.pre
  have hown : s.vm.findClass RX10 = some m.cls := findClass_of_methodNamed B.named
  have hlocks := B.notSynchronized
  subst hsz
  have hD := wD_self (sz := s.heap.size) hD0
  have hA9 : ∀ q, s.heap.size ≤ q → wA ad G s.heap.size q := fun q h => Or.inr h
  generalize hAe : wA ad G s.heap.size = A at hD hA9 hZ ⊢
  have hS : va_S A s.heap s.heap [] := va_S.rf
  have hl := lv_entry ([.ref (ad a)]) (n := 1) (Nat.le_of_ble_eq_true rfl)
  rw [lg_entry_eq]
  generalize (lg_sl ([.ref (ad a)]) ++ List.replicate (1 - (lg_sl ([.ref (ad a)])).length) Slot.unset).toArray = ls at hl ⊢
  have hl : lv_has ls 1 [(0, .ref (ad a))] := hl
  unfold FX10_beginArith at hF
  refine lv_aload_n hx hb dX10_beginArith_0 rfl (lv_at hl 0 rfl) ?_
  refine lv_iconst (v := (0 : Int32)) hx hb dX10_beginArith_1 (by decide) ?_
  refine va_put (D := D) (ci := 10) (v := .int (0 : Int32)) (ty := .int) (C := RX10) (T := TX10) (N := 20) hx hb hts (mus hf_X10) tyX10 tyX10_ok nmX10 hown hK hP hD hS a (wld_o ct ad G M hc hk (by decide)) rfl 9 (by decide) (hts (.fieldLink RX10 78 "VideoSuite$Writer" "low" "I") (mu mw_748)) (fun _ h9 => h9) rfl (by decide +kernel) rfl rfl (Nat.le_of_ble_eq_true rfl) dX10_beginArith_2 (fun H locs hP hD hS => ?_)
  obtain ⟨M1, eM1, hF⟩ := ltt_some hF
  rw [set_oI ct ad G M hc hk (by decide) (by rfl), ← eM1] at hP hD
  refine lv_aload_n hx hb dX10_beginArith_5 rfl (lv_at hl 0 rfl) ?_
  refine lv_sipush (v := (510 : Int32)) hx hb dX10_beginArith_6 (by decide) ?_
  refine va_put (D := D) (ci := 10) (v := .int (510 : Int32)) (ty := .int) (C := RX10) (T := TX10) (N := 20) hx hb hts (mus hf_X10) tyX10 tyX10_ok nmX10 hown hK hP hD hS a (wld_o ct ad G M1 hc hk (by decide)) rfl 10 (by decide) (hts (.fieldLink RX10 75 "VideoSuite$Writer" "range" "I") (mu mw_749)) (fun _ h9 => h9) rfl (by decide +kernel) rfl rfl (Nat.le_of_ble_eq_true rfl) dX10_beginArith_9 (fun H locs hP hD hS => ?_)
  obtain ⟨M2, eM2, hF⟩ := ltt_some hF
  rw [set_oI ct ad G M1 hc hk (by decide) (by rfl), ← eM2] at hP hD
  refine lv_aload_n hx hb dX10_beginArith_12 rfl (lv_at hl 0 rfl) ?_
  refine lv_iconst (v := (0 : Int32)) hx hb dX10_beginArith_13 (by decide) ?_
  refine va_put (D := D) (ci := 10) (v := .int (0 : Int32)) (ty := .int) (C := RX10) (T := TX10) (N := 20) hx hb hts (mus hf_X10) tyX10 tyX10_ok nmX10 hown hK hP hD hS a (wld_o ct ad G M2 hc hk (by decide)) rfl 11 (by decide) (hts (.fieldLink RX10 37 "VideoSuite$Writer" "owed" "I") (mu mw_750)) (fun _ h9 => h9) rfl (by decide +kernel) rfl rfl (Nat.le_of_ble_eq_true rfl) dX10_beginArith_14 (fun H locs hP hD hS => ?_)
  obtain ⟨M3, eM3, hF⟩ := ltt_some hF
  rw [set_oI ct ad G M2 hc hk (by decide) (by rfl), ← eM3] at hP hD
  refine lv_aload_n hx hb dX10_beginArith_17 rfl (lv_at hl 0 rfl) ?_
  refine lv_iconst (v := (1 : Int32)) hx hb dX10_beginArith_18 (by decide) ?_
  obtain ⟨hz9, hF⟩ := chk_some hF
  refine va_put (D := D) (ci := 10) (v := .int (1 : Int32)) (ty := .boolean) (C := RX10) (T := TX10) (N := 20) hx hb hts (mus hf_X10) tyX10 tyX10_ok nmX10 hown hK hP hD hS a (wld_o ct ad G M3 hc hk (by decide)) rfl 12 (by decide) (hts (.fieldLink RX10 34 "VideoSuite$Writer" "isFirst" "Z") (mu mw_751)) (fun _ h9 => h9) rfl (by decide +kernel) (nar_z hz9).1 (nar_z hz9).2 (Nat.le_of_ble_eq_true rfl) dX10_beginArith_19 (fun H locs hP hD hS => ?_)
  obtain ⟨M4, eM4, hF⟩ := ltt_some hF
  rw [set_oI ct ad G M3 hc hk (by decide) (by rfl), ← eM4] at hP hD
  refine lv_aload_n hx hb dX10_beginArith_22 rfl (lv_at hl 0 rfl) ?_
  refine lv_iconst (v := (1 : Int32)) hx hb dX10_beginArith_23 (by decide) ?_
  obtain ⟨hz9, hF⟩ := chk_some hF
  refine va_put (D := D) (ci := 10) (v := .int (1 : Int32)) (ty := .boolean) (C := RX10) (T := TX10) (N := 20) hx hb hts (mus hf_X10) tyX10 tyX10_ok nmX10 hown hK hP hD hS a (wld_o ct ad G M4 hc hk (by decide)) rfl 8 (by decide) (hts (.fieldLink RX10 30 "VideoSuite$Writer" "arith" "Z") (mu mw_747)) (fun _ h9 => h9) rfl (by decide +kernel) (nar_z hz9).1 (nar_z hz9).2 (Nat.le_of_ble_eq_true rfl) dX10_beginArith_24 (fun H locs hP hD hS => ?_)
  obtain ⟨M5, eM5, hF⟩ := ltt_some hF
  rw [set_oI ct ad G M4 hc hk (by decide) (by rfl), ← eM5] at hP hD
  obtain rfl := Option.some.inj hF
  exact W.vret hx hb hr (fun t ht hW => ⟨⟨(), rfl, trivial, ⟨by rw [ht]; exact hP, va_K.moved hW.alike hK, hD⟩⟩, hS.F ht⟩) hS.2.2 dX10_beginArith_27
theorem dX10_beginUnit_0 : decode cX10_beginUnit 0 = .ok (.aload_n 0, 1) := by decide +kernel
theorem dX10_beginUnit_1 : decode cX10_beginUnit 1 = .ok (.iconst 0, 1) := by decide +kernel
theorem dX10_beginUnit_2 : decode cX10_beginUnit 2 = .ok (.putfield 30, 3) := by decide +kernel
theorem dX10_beginUnit_5 : decode cX10_beginUnit 5 = .ok (.aload_n 0, 1) := by decide +kernel
theorem dX10_beginUnit_6 : decode cX10_beginUnit 6 = .ok (.iconst 0, 1) := by decide +kernel
theorem dX10_beginUnit_7 : decode cX10_beginUnit 7 = .ok (.putfield 34, 3) := by decide +kernel
theorem dX10_beginUnit_10 : decode cX10_beginUnit 10 = .ok (.aload_n 0, 1) := by decide +kernel
theorem dX10_beginUnit_11 : decode cX10_beginUnit 11 = .ok (.iconst 0, 1) := by decide +kernel
theorem dX10_beginUnit_12 : decode cX10_beginUnit 12 = .ok (.putfield 37, 3) := by decide +kernel
theorem dX10_beginUnit_15 : decode cX10_beginUnit 15 = .ok (.aload_n 0, 1) := by decide +kernel
theorem dX10_beginUnit_16 : decode cX10_beginUnit 16 = .ok (.iconst 0, 1) := by decide +kernel
theorem dX10_beginUnit_17 : decode cX10_beginUnit 17 = .ok (.putfield 41, 3) := by decide +kernel
theorem dX10_beginUnit_20 : decode cX10_beginUnit 20 = .ok (.aload_n 0, 1) := by decide +kernel
theorem dX10_beginUnit_21 : decode cX10_beginUnit 21 = .ok (.iconst 0, 1) := by decide +kernel
theorem dX10_beginUnit_22 : decode cX10_beginUnit 22 = .ok (.putfield 44, 3) := by decide +kernel
theorem dX10_beginUnit_25 : decode cX10_beginUnit 25 = .ok (.aload_n 0, 1) := by decide +kernel
theorem dX10_beginUnit_26 : decode cX10_beginUnit 26 = .ok (.iconst 1, 1) := by decide +kernel
theorem dX10_beginUnit_27 : decode cX10_beginUnit 27 = .ok (.putfield 47, 3) := by decide +kernel
theorem dX10_beginUnit_30 : decode cX10_beginUnit 30 = .ok (.aload_n 0, 1) := by decide +kernel
theorem dX10_beginUnit_31 : decode cX10_beginUnit 31 = .ok (.getfield 15, 3) := by decide +kernel
theorem dX10_beginUnit_34 : decode cX10_beginUnit 34 = .ok (.iconst 0, 1) := by decide +kernel
theorem dX10_beginUnit_35 : decode cX10_beginUnit 35 = .ok (.iload_n 1, 1) := by decide +kernel
theorem dX10_beginUnit_36 : decode cX10_beginUnit 36 = .ok (.i2b, 1) := by decide +kernel
theorem dX10_beginUnit_37 : decode cX10_beginUnit 37 = .ok (.bastore, 1) := by decide +kernel
theorem dX10_beginUnit_38 : decode cX10_beginUnit 38 = .ok (.return_, 1) := by decide +kernel
def FX10_beginUnit (G : GG) (M : DD) (a : Nat) (p0 : Int32) : Option (DD) :=
  chk (((0 : Int32)) = 0 ∨ ((0 : Int32)) = 1) <|
  ltt (uI M a 8 ((0 : Int32))) fun M1 =>
  chk (((0 : Int32)) = 0 ∨ ((0 : Int32)) = 1) <|
  ltt (uI M1 a 12 ((0 : Int32))) fun M2 =>
  ltt (uI M2 a 11 ((0 : Int32))) fun M3 =>
  ltt (uI M3 a 6 ((0 : Int32))) fun M4 =>
  ltt (uI M4 a 7 ((0 : Int32))) fun M5 =>
  ltt (uI M5 a 5 ((1 : Int32))) fun M6 =>
  ltt (p0.toInt8.toInt32) fun x7 =>
  dr G 12 ((M6.2 a 4)) fun b8 =>
  chk (¬ (((0 : Int32)) < 0 ∨ G.2.2 b8 ≤ ((0 : Int32)).toNatClampNeg)) <|
  ltt (uI M6 b8 ((0 : Int32)).toNatClampNeg (vp_nar .byte x7)) fun M9 =>
  some M9
set_option maxHeartbeats 4000000 in
set_option maxRecDepth 100000 in
theorem kX10_beginUnit (l : Launch) (D : va_G) (ct : CT) (ad : Nat → Nat) (Z : Nat → Nat) (G : GG) (M : DD) (sz : Nat) (a : Nat) (p0 : Int32) (y : DD) (hc : a < G.1) (hk : G.2.1 a = 10) (hF : FX10_beginUnit G M a p0 = some y) : Met l yX10_beginUnit wuX10_beginUnit ({ frames := 0, cells := 0, slots := 0, locals := 0 }) (va_Pc [.ref (ad a), .int p0] (kB D ct ad Z G M sz)) (va_Qv (fun (_ : Unit) => True) (fun _ t => kE D ct ad G (wA ad G sz) y t) (wA ad G sz)) 0 0 (wA ad G sz) := by
  refine Met.ofW (cc := cX10_beginUnit) (maxL := 2) (ret := none) (by decide) rfl ?_
  intro p e s m args below meth c s₁ B hml hv
  obtain ⟨rfl, hsz, hP, hK, hD0, hZ, hN⟩ := hv
  have hx := B.exec
  have hb := B.bytes
  have hr := B.returns
  have hts := atoms_spec (ws := wuX10_beginUnit) B.pre
  have hown : s.vm.findClass RX10 = some m.cls := findClass_of_methodNamed B.named
  have hlocks := B.notSynchronized
  subst hsz
  have hD := wD_self (sz := s.heap.size) hD0
  have hA9 : ∀ q, s.heap.size ≤ q → wA ad G s.heap.size q := fun q h => Or.inr h
  generalize hAe : wA ad G s.heap.size = A at hD hA9 hZ ⊢
  have hS : va_S A s.heap s.heap [] := va_S.rf
  have hl := lv_entry ([.ref (ad a), .int p0]) (n := 2) (Nat.le_of_ble_eq_true rfl)
  rw [lg_entry_eq]
  generalize (lg_sl ([.ref (ad a), .int p0]) ++ List.replicate (2 - (lg_sl ([.ref (ad a), .int p0])).length) Slot.unset).toArray = ls at hl ⊢
  have hl : lv_has ls 2 [(0, .ref (ad a)), (1, .int p0)] := hl
  unfold FX10_beginUnit at hF
  refine lv_aload_n hx hb dX10_beginUnit_0 rfl (lv_at hl 0 rfl) ?_
  refine lv_iconst (v := (0 : Int32)) hx hb dX10_beginUnit_1 (by decide) ?_
  obtain ⟨hz9, hF⟩ := chk_some hF
  refine va_put (D := D) (ci := 10) (v := .int (0 : Int32)) (ty := .boolean) (C := RX10) (T := TX10) (N := 20) hx hb hts (mus hf_X10) tyX10 tyX10_ok nmX10 hown hK hP hD hS a (wld_o ct ad G M hc hk (by decide)) rfl 8 (by decide) (hts (.fieldLink RX10 30 "VideoSuite$Writer" "arith" "Z") (mu mw_747)) (fun _ h9 => h9) rfl (by decide +kernel) (nar_z hz9).1 (nar_z hz9).2 (Nat.le_of_ble_eq_true rfl) dX10_beginUnit_2 (fun H locs hP hD hS => ?_)
  obtain ⟨M1, eM1, hF⟩ := ltt_some hF
  rw [set_oI ct ad G M hc hk (by decide) (by rfl), ← eM1] at hP hD
  refine lv_aload_n hx hb dX10_beginUnit_5 rfl (lv_at hl 0 rfl) ?_
  refine lv_iconst (v := (0 : Int32)) hx hb dX10_beginUnit_6 (by decide) ?_
  obtain ⟨hz9, hF⟩ := chk_some hF
  refine va_put (D := D) (ci := 10) (v := .int (0 : Int32)) (ty := .boolean) (C := RX10) (T := TX10) (N := 20) hx hb hts (mus hf_X10) tyX10 tyX10_ok nmX10 hown hK hP hD hS a (wld_o ct ad G M1 hc hk (by decide)) rfl 12 (by decide) (hts (.fieldLink RX10 34 "VideoSuite$Writer" "isFirst" "Z") (mu mw_751)) (fun _ h9 => h9) rfl (by decide +kernel) (nar_z hz9).1 (nar_z hz9).2 (Nat.le_of_ble_eq_true rfl) dX10_beginUnit_7 (fun H locs hP hD hS => ?_)
  obtain ⟨M2, eM2, hF⟩ := ltt_some hF
  rw [set_oI ct ad G M1 hc hk (by decide) (by rfl), ← eM2] at hP hD
  refine lv_aload_n hx hb dX10_beginUnit_10 rfl (lv_at hl 0 rfl) ?_
  refine lv_iconst (v := (0 : Int32)) hx hb dX10_beginUnit_11 (by decide) ?_
  refine va_put (D := D) (ci := 10) (v := .int (0 : Int32)) (ty := .int) (C := RX10) (T := TX10) (N := 20) hx hb hts (mus hf_X10) tyX10 tyX10_ok nmX10 hown hK hP hD hS a (wld_o ct ad G M2 hc hk (by decide)) rfl 11 (by decide) (hts (.fieldLink RX10 37 "VideoSuite$Writer" "owed" "I") (mu mw_750)) (fun _ h9 => h9) rfl (by decide +kernel) rfl rfl (Nat.le_of_ble_eq_true rfl) dX10_beginUnit_12 (fun H locs hP hD hS => ?_)
  obtain ⟨M3, eM3, hF⟩ := ltt_some hF
  rw [set_oI ct ad G M2 hc hk (by decide) (by rfl), ← eM3] at hP hD
  refine lv_aload_n hx hb dX10_beginUnit_15 rfl (lv_at hl 0 rfl) ?_
  refine lv_iconst (v := (0 : Int32)) hx hb dX10_beginUnit_16 (by decide) ?_
  refine va_put (D := D) (ci := 10) (v := .int (0 : Int32)) (ty := .int) (C := RX10) (T := TX10) (N := 20) hx hb hts (mus hf_X10) tyX10 tyX10_ok nmX10 hown hK hP hD hS a (wld_o ct ad G M3 hc hk (by decide)) rfl 6 (by decide) (hts (.fieldLink RX10 41 "VideoSuite$Writer" "held" "I") (mu mw_745)) (fun _ h9 => h9) rfl (by decide +kernel) rfl rfl (Nat.le_of_ble_eq_true rfl) dX10_beginUnit_17 (fun H locs hP hD hS => ?_)
  obtain ⟨M4, eM4, hF⟩ := ltt_some hF
  rw [set_oI ct ad G M3 hc hk (by decide) (by rfl), ← eM4] at hP hD
  refine lv_aload_n hx hb dX10_beginUnit_20 rfl (lv_at hl 0 rfl) ?_
  refine lv_iconst (v := (0 : Int32)) hx hb dX10_beginUnit_21 (by decide) ?_
  refine va_put (D := D) (ci := 10) (v := .int (0 : Int32)) (ty := .int) (C := RX10) (T := TX10) (N := 20) hx hb hts (mus hf_X10) tyX10 tyX10_ok nmX10 hown hK hP hD hS a (wld_o ct ad G M4 hc hk (by decide)) rfl 7 (by decide) (hts (.fieldLink RX10 44 "VideoSuite$Writer" "heldBits" "I") (mu mw_746)) (fun _ h9 => h9) rfl (by decide +kernel) rfl rfl (Nat.le_of_ble_eq_true rfl) dX10_beginUnit_22 (fun H locs hP hD hS => ?_)
  obtain ⟨M5, eM5, hF⟩ := ltt_some hF
  rw [set_oI ct ad G M4 hc hk (by decide) (by rfl), ← eM5] at hP hD
  refine lv_aload_n hx hb dX10_beginUnit_25 rfl (lv_at hl 0 rfl) ?_
  refine lv_iconst (v := (1 : Int32)) hx hb dX10_beginUnit_26 (by decide) ?_
  refine va_put (D := D) (ci := 10) (v := .int (1 : Int32)) (ty := .int) (C := RX10) (T := TX10) (N := 20) hx hb hts (mus hf_X10) tyX10 tyX10_ok nmX10 hown hK hP hD hS a (wld_o ct ad G M5 hc hk (by decide)) rfl 5 (by decide) (hts (.fieldLink RX10 47 "VideoSuite$Writer" "unitSize" "I") (mu mw_744)) (fun _ h9 => h9) rfl (by decide +kernel) rfl rfl (Nat.le_of_ble_eq_true rfl) dX10_beginUnit_27 (fun H locs hP hD hS => ?_)
  obtain ⟨M6, eM6, hF⟩ := ltt_some hF
  rw [set_oI ct ad G M5 hc hk (by decide) (by rfl), ← eM6] at hP hD
  refine lv_aload_n hx hb dX10_beginUnit_30 rfl (lv_at hl 0 rfl) ?_
  refine va_get (D := D) (ci := 10) (v := va_re ad (M6.2 a 4)) (C := RX10) (T := TX10) (N := 20) hx hb hts (mus hf_X10) hown hK hP a (wld_o ct ad G M6 hc hk (by decide)) rfl 4 (by decide) (hts (.fieldLink RX10 15 "VideoSuite$Writer" "unit" "[B") (mu mw_743)) (fun _ h9 => h9) rfl dX10_beginUnit_31 ?_
  refine lv_iconst (v := (0 : Int32)) hx hb dX10_beginUnit_34 (by decide) ?_
  refine lv_iload_n hx hb dX10_beginUnit_35 rfl (lv_at hl 1 rfl) ?_
  refine lv_i2b hx hb dX10_beginUnit_36 rfl ?_
  obtain ⟨x7, ex7, hF⟩ := ltt_some hF
  refine lv_topi (fun zx7 ezx7 => ?_)
  obtain rfl : x7 = zx7 := ex7.trans ezx7.symm
  obtain ⟨b8, ho8, hc8, hk8, hF⟩ := dr_some hF
  refine W_st (st' := [.int x7, .int (0 : Int32), .ref (ad b8)]) (by rw [va_some ho8]) ?_
  obtain ⟨hvc, hF⟩ := chk_some hF
  refine va_bast hx hb hK hP hD hS b8 0 (wld_b ct ad G M6 hc8 hk8) rfl hvc dX10_beginUnit_37 (fun H locs hP hD hS => ?_)
  obtain ⟨M9, eM9, hF⟩ := ltt_some hF
  rw [set_b ct ad G M6 hc8 hk8, ← eM9] at hP hD
  obtain rfl := Option.some.inj hF
  exact W.vret hx hb hr (fun t ht hW => ⟨⟨(), rfl, trivial, ⟨by rw [ht]; exact hP, va_K.moved hW.alike hK, hD⟩⟩, hS.F ht⟩) hS.2.2 dX10_beginUnit_38
theorem dX10_bitsOfUe_0 : decode cX10_bitsOfUe 0 = .ok (.iconst 0, 1) := by decide +kernel
theorem dX10_bitsOfUe_1 : decode cX10_bitsOfUe 1 = .ok (.istore_n 1, 1) := by decide +kernel
theorem dX10_bitsOfUe_2 : decode cX10_bitsOfUe 2 = .ok (.iload_n 1, 1) := by decide +kernel
theorem dX10_bitsOfUe_3 : decode cX10_bitsOfUe 3 = .ok (.bipush 31, 2) := by decide +kernel
theorem dX10_bitsOfUe_5 : decode cX10_bitsOfUe 5 = .ok (.if_icmp .ge 22, 3) := by decide +kernel
theorem dX10_bitsOfUe_8 : decode cX10_bitsOfUe 8 = .ok (.iload_n 0, 1) := by decide +kernel
theorem dX10_bitsOfUe_9 : decode cX10_bitsOfUe 9 = .ok (.i2l, 1) := by decide +kernel
theorem dX10_bitsOfUe_10 : decode cX10_bitsOfUe 10 = .ok (.lconst 1, 1) := by decide +kernel
theorem dX10_bitsOfUe_11 : decode cX10_bitsOfUe 11 = .ok (.ladd, 1) := by decide +kernel
theorem dX10_bitsOfUe_12 : decode cX10_bitsOfUe 12 = .ok (.iload_n 1, 1) := by decide +kernel
theorem dX10_bitsOfUe_13 : decode cX10_bitsOfUe 13 = .ok (.iconst 1, 1) := by decide +kernel
theorem dX10_bitsOfUe_14 : decode cX10_bitsOfUe 14 = .ok (.iadd, 1) := by decide +kernel
theorem dX10_bitsOfUe_15 : decode cX10_bitsOfUe 15 = .ok (.lshr, 1) := by decide +kernel
theorem dX10_bitsOfUe_16 : decode cX10_bitsOfUe 16 = .ok (.lconst 0, 1) := by decide +kernel
theorem dX10_bitsOfUe_17 : decode cX10_bitsOfUe 17 = .ok (.lcmp, 1) := by decide +kernel
theorem dX10_bitsOfUe_18 : decode cX10_bitsOfUe 18 = .ok (.ifCond .le 9, 3) := by decide +kernel
theorem dX10_bitsOfUe_21 : decode cX10_bitsOfUe 21 = .ok (.iinc 1 1, 3) := by decide +kernel
theorem dX10_bitsOfUe_24 : decode cX10_bitsOfUe 24 = .ok (.goto (-22), 3) := by decide +kernel
theorem dX10_bitsOfUe_27 : decode cX10_bitsOfUe 27 = .ok (.iconst 2, 1) := by decide +kernel
theorem dX10_bitsOfUe_28 : decode cX10_bitsOfUe 28 = .ok (.iload_n 1, 1) := by decide +kernel
theorem dX10_bitsOfUe_29 : decode cX10_bitsOfUe 29 = .ok (.imul, 1) := by decide +kernel
theorem dX10_bitsOfUe_30 : decode cX10_bitsOfUe 30 = .ok (.iconst 1, 1) := by decide +kernel
theorem dX10_bitsOfUe_31 : decode cX10_bitsOfUe 31 = .ok (.iadd, 1) := by decide +kernel
theorem dX10_bitsOfUe_32 : decode cX10_bitsOfUe 32 = .ok (.ireturn, 1) := by decide +kernel
def FX10_bitsOfUe (G : GG) (M : DD) (p0 : Int32) : Option (DD × Int32) :=
  bnd (itr (fun (s2 : Int32) => ((if ((31 : Int32)) ≤ s2 then (some (.inr (s2))) else
  (ltt (p0.toInt64) fun x8 =>
  ltt (x8 + ((1 : Int64))) fun x9 =>
  ltt ((s2 + ((1 : Int32)))) fun x10 =>
  ltt (x9 >>> (x10.toInt64 &&& 63)) fun x11 =>
  ltt (lg_cmp x11 ((0 : Int64))) fun x12 =>
  if x12 ≤ ((0 : Int32)) then (some (.inr (s2))) else
  (ltt (s2 + (1 : Int32)) fun x14 =>
  some (.inl (x14))))) : Option ((Int32) ⊕ (Int32)))) 1000000 ((0 : Int32))) fun (y1 : Int32) =>
  ltt ((((2 : Int32)) * y1)) fun x4 =>
  ltt ((x4 + ((1 : Int32)))) fun x5 =>
  some (M, x5)
set_option maxHeartbeats 4000000 in
set_option maxRecDepth 100000 in
theorem kX10_bitsOfUe (l : Launch) (D : va_G) (ct : CT) (ad : Nat → Nat) (Z : Nat → Nat) (G : GG) (M : DD) (sz : Nat) (p0 : Int32) (y : DD × Int32) (hF : FX10_bitsOfUe G M p0 = some y) : Met l yX10_bitsOfUe wuX10_bitsOfUe ({ frames := 0, cells := 0, slots := 0, locals := 0 }) (va_Pc [.int p0] (kB D ct ad Z G M sz)) (va_Qi (fun (q : Int32) (_ : Unit) => q = y.2) (fun _ t => kE D ct ad G (wA ad G sz) y.1 t) (wA ad G sz)) 0 0 (wA ad G sz) := by
  refine Met.ofW (cc := cX10_bitsOfUe) (maxL := 2) (ret := (some .int)) (by decide) rfl ?_
  intro p e s m args below meth c s₁ B hml hv
  obtain ⟨rfl, hsz, hP, hK, hD0, hZ, hN⟩ := hv
  have hx := B.exec
  have hb := B.bytes
  have hr := B.returns
  have hts := atoms_spec (ws := wuX10_bitsOfUe) B.pre
  have hown : s.vm.findClass RX10 = some m.cls := findClass_of_methodNamed B.named
  have hlocks := B.notSynchronized
  subst hsz
  have hD := wD_self (sz := s.heap.size) hD0
  have hA9 : ∀ q, s.heap.size ≤ q → wA ad G s.heap.size q := fun q h => Or.inr h
  generalize hAe : wA ad G s.heap.size = A at hD hA9 hZ ⊢
  have hS : va_S A s.heap s.heap [] := va_S.rf
  have hl := lv_entry ([.int p0]) (n := 2) (Nat.le_of_ble_eq_true rfl)
  rw [lg_entry_eq]
  generalize (lg_sl ([.int p0]) ++ List.replicate (2 - (lg_sl ([.int p0])).length) Slot.unset).toArray = ls at hl ⊢
  have hl : lv_has ls 2 [(0, .int p0)] := hl
  unfold FX10_bitsOfUe at hF
  refine lv_iconst (v := (0 : Int32)) hx hb dX10_bitsOfUe_0 (by decide) ?_
  refine lv_istore_n (lv' := [(1, .int (0 : Int32)), (0, .int p0)]) hx hb dX10_bitsOfUe_1 rfl hl (by decide) rfl (fun ls hl => ?_)
  obtain ⟨y1, hy1, hF⟩ := bnd_some hF
  have K1 : ∀ (H : Heap) (locs : List Loc) (ls : Array Slot), va_P D classes (wld ct ad G M) H → va_D A (wld ct ad G M) → va_S A s.heap H locs → lv_has ls 2 [(1, .int y1), (0, .int p0)] → W p l e (headSpec wuX10_bitsOfUe ({ frames := 0, cells := 0, slots := 0, locals := 0 })).room s m ([.int p0] : List Value).toArray below meth c H locs 0 0 (MQ below (va_Qi (fun (q : Int32) (_ : Unit) => q = y.2) (fun _ t => kE D ct ad G A y.1 t) A) ([.int p0] : List Value).toArray s 0 0 A) (F0 m 27 ls []) := by
    intro H locs ls hP hD hS hl
    refine lv_iconst (v := (2 : Int32)) hx hb dX10_bitsOfUe_27 (by decide) ?_
    refine lv_iload_n hx hb dX10_bitsOfUe_28 rfl (lv_at hl 0 rfl) ?_
    refine lv_imul hx hb dX10_bitsOfUe_29 ?_
    obtain ⟨x4, ex4, hF⟩ := ltt_some hF
    refine lv_topi (fun zx4 ezx4 => ?_)
    obtain rfl : x4 = zx4 := ex4.trans ezx4.symm
    refine lv_iconst (v := (1 : Int32)) hx hb dX10_bitsOfUe_30 (by decide) ?_
    refine lv_iadd hx hb dX10_bitsOfUe_31 ?_
    obtain ⟨x5, ex5, hF⟩ := ltt_some hF
    refine lv_topi (fun zx5 ezx5 => ?_)
    obtain rfl : x5 = zx5 := ex5.trans ezx5.symm
    obtain rfl := Option.some.inj hF
    exact W.iret (v := x5) hx hb hr (fun t ht hW => ⟨⟨_, (), rfl, rfl, ⟨by rw [ht]; exact hP, va_K.moved hW.alike hK, hD⟩⟩, hS.F ht⟩) hS.2.2 dX10_bitsOfUe_32
  clear hF
  refine itr_rule (fun (s2 : Int32) => ∀ (H : Heap) (locs : List Loc) (ls : Array Slot), va_P D classes (wld ct ad G M) H → va_D A (wld ct ad G M) → va_S A s.heap H locs → lv_has ls 2 [(1, .int s2), (0, .int p0)] → W p l e (headSpec wuX10_bitsOfUe ({ frames := 0, cells := 0, slots := 0, locals := 0 })).room s m ([.int p0] : List Value).toArray below meth c H locs 0 0 (MQ below (va_Qi (fun (q : Int32) (_ : Unit) => q = y.2) (fun _ t => kE D ct ad G A y.1 t) A) ([.int p0] : List Value).toArray s 0 0 A) (F0 m 2 ls [])) ?_ _ _ hy1 _ _ _ hP hD hS (lv_sub hl [0, 1] rfl)
  rintro s2 ⟨z6, hF, hwz6⟩ H locs ls hP hD hS hl
  try dsimp only at hF
  refine lv_iload_n hx hb dX10_bitsOfUe_2 rfl (lv_at hl 0 rfl) ?_
  refine lv_bipush (v := (31 : Int32)) hx hb dX10_bitsOfUe_3 (by decide) ?_
  refine lv_icmp_ge (tgt := 27) hx hb dX10_bitsOfUe_5 (by decide) (fun c7 => ?_) (fun c7 => ?_)
  · rw [if_pos c7] at hF
    obtain rfl := Option.some.inj hF
    subst hwz6
    exact K1 _ _ _ hP hD hS (lv_sub hl [0, 1] rfl)
  · rw [if_neg c7] at hF
    refine lv_iload_n hx hb dX10_bitsOfUe_8 rfl (lv_at hl 1 rfl) ?_
    refine lv_i2l (v := p0.toInt64) hx hb dX10_bitsOfUe_9 rfl ?_
    obtain ⟨x8, ex8, hF⟩ := ltt_some hF
    refine lv_topl (fun zx8 ezx8 => ?_)
    obtain rfl : x8 = zx8 := ex8.trans ezx8.symm
    refine lv_lconst (v := (1 : Int64)) hx hb dX10_bitsOfUe_10 rfl ?_
    refine lv_ladd hx hb dX10_bitsOfUe_11 ?_
    obtain ⟨x9, ex9, hF⟩ := ltt_some hF
    refine lv_topl (fun zx9 ezx9 => ?_)
    obtain rfl : x9 = zx9 := ex9.trans ezx9.symm
    refine lv_iload_n hx hb dX10_bitsOfUe_12 rfl (lv_at hl 0 rfl) ?_
    refine lv_iconst (v := (1 : Int32)) hx hb dX10_bitsOfUe_13 (by decide) ?_
    refine lv_iadd hx hb dX10_bitsOfUe_14 ?_
    obtain ⟨x10, ex10, hF⟩ := ltt_some hF
    refine lv_topi (fun zx10 ezx10 => ?_)
    obtain rfl : x10 = zx10 := ex10.trans ezx10.symm
    refine lv_lshr (v := x9 >>> (x10.toInt64 &&& 63)) hx hb dX10_bitsOfUe_15 rfl ?_
    obtain ⟨x11, ex11, hF⟩ := ltt_some hF
    refine lv_topl (fun zx11 ezx11 => ?_)
    obtain rfl : x11 = zx11 := ex11.trans ezx11.symm
    refine lv_lconst (v := (0 : Int64)) hx hb dX10_bitsOfUe_16 rfl ?_
    refine W.lcmp hx hb dX10_bitsOfUe_17 ?_
    obtain ⟨x12, ex12, hF⟩ := ltt_some hF
    refine lv_topi (fun zx12 ezx12 => ?_)
    obtain rfl : x12 = zx12 := ex12.trans ezx12.symm
    refine lv_if_le (tgt := 27) hx hb dX10_bitsOfUe_18 (by decide) (fun c13 => ?_) (fun c13 => ?_)
    · rw [if_pos c13] at hF
      obtain rfl := Option.some.inj hF
      subst hwz6
      exact K1 _ _ _ hP hD hS (lv_sub hl [0, 1] rfl)
    · rw [if_neg c13] at hF
      obtain ⟨x14, ex14, hF⟩ := ltt_some hF
      refine lv_iinc (v := x14) (lv' := [(1, .int x14), (0, .int p0)]) hx hb dX10_bitsOfUe_21 hl (k := 0) rfl (by rw [ex14]; rfl) (by decide) rfl (fun ls hl => ?_)
      refine lv_goto (tgt := 2) hx hb dX10_bitsOfUe_24 (by decide) ?_
      obtain rfl := Option.some.inj hF
      exact hwz6 _ _ _ hP hD hS (lv_sub hl [0, 1] rfl)
theorem dX10_collect_0 : decode cX10_collect 0 = .ok (.iconst 0, 1) := by decide +kernel
theorem dX10_collect_1 : decode cX10_collect 1 = .ok (.istore 4, 2) := by decide +kernel
theorem dX10_collect_3 : decode cX10_collect 3 = .ok (.aload_n 0, 1) := by decide +kernel
theorem dX10_collect_4 : decode cX10_collect 4 = .ok (.iconst 0, 1) := by decide +kernel
theorem dX10_collect_5 : decode cX10_collect 5 = .ok (.putfield 142, 3) := by decide +kernel
theorem dX10_collect_8 : decode cX10_collect 8 = .ok (.iload_n 2, 1) := by decide +kernel
theorem dX10_collect_9 : decode cX10_collect 9 = .ok (.iload_n 3, 1) := by decide +kernel
theorem dX10_collect_10 : decode cX10_collect 10 = .ok (.iadd, 1) := by decide +kernel
theorem dX10_collect_11 : decode cX10_collect 11 = .ok (.iconst 1, 1) := by decide +kernel
theorem dX10_collect_12 : decode cX10_collect 12 = .ok (.isub, 1) := by decide +kernel
theorem dX10_collect_13 : decode cX10_collect 13 = .ok (.istore 5, 2) := by decide +kernel
theorem dX10_collect_15 : decode cX10_collect 15 = .ok (.iload 5, 2) := by decide +kernel
theorem dX10_collect_17 : decode cX10_collect 17 = .ok (.iload_n 2, 1) := by decide +kernel
theorem dX10_collect_18 : decode cX10_collect 18 = .ok (.if_icmp .lt 69, 3) := by decide +kernel
theorem dX10_collect_21 : decode cX10_collect 21 = .ok (.aload_n 1, 1) := by decide +kernel
theorem dX10_collect_22 : decode cX10_collect 22 = .ok (.iload 5, 2) := by decide +kernel
theorem dX10_collect_24 : decode cX10_collect 24 = .ok (.iaload, 1) := by decide +kernel
theorem dX10_collect_25 : decode cX10_collect 25 = .ok (.ifCond .eq 28, 3) := by decide +kernel
theorem dX10_collect_28 : decode cX10_collect 28 = .ok (.aload_n 0, 1) := by decide +kernel
theorem dX10_collect_29 : decode cX10_collect 29 = .ok (.getfield 24, 3) := by decide +kernel
theorem dX10_collect_32 : decode cX10_collect 32 = .ok (.iload 4, 2) := by decide +kernel
theorem dX10_collect_34 : decode cX10_collect 34 = .ok (.aload_n 1, 1) := by decide +kernel
theorem dX10_collect_35 : decode cX10_collect 35 = .ok (.iload 5, 2) := by decide +kernel
theorem dX10_collect_37 : decode cX10_collect 37 = .ok (.iaload, 1) := by decide +kernel
theorem dX10_collect_38 : decode cX10_collect 38 = .ok (.iastore, 1) := by decide +kernel
theorem dX10_collect_39 : decode cX10_collect 39 = .ok (.aload_n 0, 1) := by decide +kernel
theorem dX10_collect_40 : decode cX10_collect 40 = .ok (.getfield 27, 3) := by decide +kernel
theorem dX10_collect_43 : decode cX10_collect 43 = .ok (.iload 4, 2) := by decide +kernel
theorem dX10_collect_45 : decode cX10_collect 45 = .ok (.iconst 0, 1) := by decide +kernel
theorem dX10_collect_46 : decode cX10_collect 46 = .ok (.iastore, 1) := by decide +kernel
theorem dX10_collect_47 : decode cX10_collect 47 = .ok (.iinc 4 1, 3) := by decide +kernel
theorem dX10_collect_50 : decode cX10_collect 50 = .ok (.goto 31, 3) := by decide +kernel
theorem dX10_collect_53 : decode cX10_collect 53 = .ok (.iload 4, 2) := by decide +kernel
theorem dX10_collect_55 : decode cX10_collect 55 = .ok (.ifCond .le 26, 3) := by decide +kernel
theorem dX10_collect_58 : decode cX10_collect 58 = .ok (.aload_n 0, 1) := by decide +kernel
theorem dX10_collect_59 : decode cX10_collect 59 = .ok (.getfield 27, 3) := by decide +kernel
theorem dX10_collect_62 : decode cX10_collect 62 = .ok (.iload 4, 2) := by decide +kernel
theorem dX10_collect_64 : decode cX10_collect 64 = .ok (.iconst 1, 1) := by decide +kernel
theorem dX10_collect_65 : decode cX10_collect 65 = .ok (.isub, 1) := by decide +kernel
theorem dX10_collect_66 : decode cX10_collect 66 = .ok (.dup2, 1) := by decide +kernel
theorem dX10_collect_67 : decode cX10_collect 67 = .ok (.iaload, 1) := by decide +kernel
theorem dX10_collect_68 : decode cX10_collect 68 = .ok (.iconst 1, 1) := by decide +kernel
theorem dX10_collect_69 : decode cX10_collect 69 = .ok (.iadd, 1) := by decide +kernel
theorem dX10_collect_70 : decode cX10_collect 70 = .ok (.iastore, 1) := by decide +kernel
theorem dX10_collect_71 : decode cX10_collect 71 = .ok (.aload_n 0, 1) := by decide +kernel
theorem dX10_collect_72 : decode cX10_collect 72 = .ok (.dup, 1) := by decide +kernel
theorem dX10_collect_73 : decode cX10_collect 73 = .ok (.getfield 142, 3) := by decide +kernel
theorem dX10_collect_76 : decode cX10_collect 76 = .ok (.iconst 1, 1) := by decide +kernel
theorem dX10_collect_77 : decode cX10_collect 77 = .ok (.iadd, 1) := by decide +kernel
theorem dX10_collect_78 : decode cX10_collect 78 = .ok (.putfield 142, 3) := by decide +kernel
theorem dX10_collect_81 : decode cX10_collect 81 = .ok (.iinc 5 (-1), 3) := by decide +kernel
theorem dX10_collect_84 : decode cX10_collect 84 = .ok (.goto (-69), 3) := by decide +kernel
theorem dX10_collect_87 : decode cX10_collect 87 = .ok (.iload 4, 2) := by decide +kernel
theorem dX10_collect_89 : decode cX10_collect 89 = .ok (.ireturn, 1) := by decide +kernel
def FX10_collect (G : GG) (M : DD) (a : Nat) (p0 : Option Nat) (p1 : Int32) (p2 : Int32) : Option (DD × Int32) :=
  ltt (uI M a 16 ((0 : Int32))) fun M1 =>
  ltt ((p1 + p2)) fun x2 =>
  ltt ((x2 - ((1 : Int32)))) fun x3 =>
  bnd (itr (fun (s5 : Int32 × Int32 × DD) => ((if s5.2.1 < p1 then (some (.inr (s5.1, s5.2.1, s5.2.2))) else
  (dr G 13 p0 fun b9 =>
  chk (¬ (s5.2.1 < 0 ∨ G.2.2 b9 ≤ s5.2.1.toNatClampNeg)) <|
  ltt (s5.2.2.1 b9 s5.2.1.toNatClampNeg) fun x10 =>
  bnd (if x10 = ((0 : Int32)) then (bnd (if s5.1 ≤ ((0 : Int32)) then (some (s5.2.2)) else
  (ltt ((s5.1 - ((1 : Int32)))) fun x16 =>
  dr G 13 ((s5.2.2.2 a 15)) fun b17 =>
  chk (¬ (x16 < 0 ∨ G.2.2 b17 ≤ x16.toNatClampNeg)) <|
  ltt (s5.2.2.1 b17 x16.toNatClampNeg) fun x18 =>
  ltt ((x18 + ((1 : Int32)))) fun x19 =>
  chk (¬ (x16 < 0 ∨ G.2.2 b17 ≤ x16.toNatClampNeg)) <|
  ltt (uI s5.2.2 b17 x16.toNatClampNeg x19) fun M20 =>
  ltt (M20.1 a 16) fun x21 =>
  ltt ((x21 + ((1 : Int32)))) fun x22 =>
  ltt (uI M20 a 16 x22) fun M23 =>
  some (M23))) fun (y14 : DD) =>
  some (s5.1, y14)) else
  (chk (¬ (s5.2.1 < 0 ∨ G.2.2 b9 ≤ s5.2.1.toNatClampNeg)) <|
  ltt (s5.2.2.1 b9 s5.2.1.toNatClampNeg) fun x24 =>
  dr G 13 ((s5.2.2.2 a 14)) fun b25 =>
  chk (¬ (s5.1 < 0 ∨ G.2.2 b25 ≤ s5.1.toNatClampNeg)) <|
  ltt (uI s5.2.2 b25 s5.1.toNatClampNeg x24) fun M26 =>
  dr G 13 ((M26.2 a 15)) fun b27 =>
  chk (¬ (s5.1 < 0 ∨ G.2.2 b27 ≤ s5.1.toNatClampNeg)) <|
  ltt (uI M26 b27 s5.1.toNatClampNeg ((0 : Int32))) fun M28 =>
  ltt (s5.1 + (1 : Int32)) fun x29 =>
  some (x29, M28))) fun (y11 : Int32 × DD) =>
  ltt (s5.2.1 + (-1 : Int32)) fun x12 =>
  some (.inl (y11.1, x12, y11.2)))) : Option ((Int32 × Int32 × DD) ⊕ (Int32 × Int32 × DD)))) 1000000 ((0 : Int32), x3, M1)) fun (y4 : Int32 × Int32 × DD) =>
  some (y4.2.2, y4.1)
set_option maxHeartbeats 4000000 in
set_option maxRecDepth 100000 in
theorem kX10_collect (l : Launch) (D : va_G) (ct : CT) (ad : Nat → Nat) (Z : Nat → Nat) (G : GG) (M : DD) (sz : Nat) (a : Nat) (p0 : Option Nat) (p1 : Int32) (p2 : Int32) (y : DD × Int32) (hc : a < G.1) (hk : G.2.1 a = 10) (hF : FX10_collect G M a p0 p1 p2 = some y) : Met l yX10_collect wuX10_collect ({ frames := 0, cells := 0, slots := 0, locals := 0 }) (va_Pc [.ref (ad a), va_re ad p0, .int p1, .int p2] (kB D ct ad Z G M sz)) (va_Qi (fun (q : Int32) (_ : Unit) => q = y.2) (fun _ t => kE D ct ad G (wA ad G sz) y.1 t) (wA ad G sz)) 0 0 (wA ad G sz) := by
  refine Met.ofW (cc := cX10_collect) (maxL := 6) (ret := (some .int)) (by decide) rfl ?_
  intro p e s m args below meth c s₁ B hml hv
  obtain ⟨rfl, hsz, hP, hK, hD0, hZ, hN⟩ := hv
  have hx := B.exec
  have hb := B.bytes
  have hr := B.returns
  have hts := atoms_spec (ws := wuX10_collect) B.pre
  have hown : s.vm.findClass RX10 = some m.cls := findClass_of_methodNamed B.named
  have hlocks := B.notSynchronized
  subst hsz
  have hD := wD_self (sz := s.heap.size) hD0
  have hA9 : ∀ q, s.heap.size ≤ q → wA ad G s.heap.size q := fun q h => Or.inr h
  generalize hAe : wA ad G s.heap.size = A at hD hA9 hZ ⊢
  have hS : va_S A s.heap s.heap [] := va_S.rf
  have hl := lv_entry ([.ref (ad a), va_re ad p0, .int p1, .int p2]) (n := 6) (by cases p0 <;> exact Nat.le_of_ble_eq_true rfl)
  rw [lg_entry_eq]
  generalize (lg_sl ([.ref (ad a), va_re ad p0, .int p1, .int p2]) ++ List.replicate (6 - (lg_sl ([.ref (ad a), va_re ad p0, .int p1, .int p2])).length) Slot.unset).toArray = ls at hl ⊢
  have hl : lv_has ls 6 [(0, .ref (ad a)), (1, va_re ad p0), (2, .int p1), (3, .int p2)] := by have e9 : lv_args 0 [.ref (ad a), va_re ad p0, .int p1, .int p2] = [(0, .ref (ad a)), (1, va_re ad p0), (2, .int p1), (3, .int p2)] := (by cases p0 <;> rfl); rw [e9] at hl; exact hl
  unfold FX10_collect at hF
  refine lv_iconst (v := (0 : Int32)) hx hb dX10_collect_0 (by decide) ?_
  refine lv_istore (lv' := [(4, .int (0 : Int32)), (0, .ref (ad a)), (1, va_re ad p0), (2, .int p1), (3, .int p2)]) hx hb dX10_collect_1 hl (by decide) rfl (fun ls hl => ?_)
  refine lv_aload_n hx hb dX10_collect_3 rfl (lv_at hl 1 rfl) ?_
  refine lv_iconst (v := (0 : Int32)) hx hb dX10_collect_4 (by decide) ?_
  refine va_put (D := D) (ci := 10) (v := .int (0 : Int32)) (ty := .int) (C := RX10) (T := TX10) (N := 20) hx hb hts (mus hf_X10) tyX10 tyX10_ok nmX10 hown hK hP hD hS a (wld_o ct ad G M hc hk (by decide)) rfl 16 (by decide) (hts (.fieldLink RX10 142 "VideoSuite$Writer" "zeros" "I") (mu mw_755)) (fun _ h9 => h9) rfl (by decide +kernel) rfl rfl (Nat.le_of_ble_eq_true rfl) dX10_collect_5 (fun H locs hP hD hS => ?_)
  obtain ⟨M1, eM1, hF⟩ := ltt_some hF
  rw [set_oI ct ad G M hc hk (by decide) (by rfl), ← eM1] at hP hD
  refine lv_iload_n hx hb dX10_collect_8 rfl (lv_at hl 3 rfl) ?_
  refine lv_iload_n hx hb dX10_collect_9 rfl (lv_at hl 4 rfl) ?_
  refine lv_iadd hx hb dX10_collect_10 ?_
  obtain ⟨x2, ex2, hF⟩ := ltt_some hF
  refine lv_topi (fun zx2 ezx2 => ?_)
  obtain rfl : x2 = zx2 := ex2.trans ezx2.symm
  refine lv_iconst (v := (1 : Int32)) hx hb dX10_collect_11 (by decide) ?_
  refine lv_isub hx hb dX10_collect_12 ?_
  obtain ⟨x3, ex3, hF⟩ := ltt_some hF
  refine lv_topi (fun zx3 ezx3 => ?_)
  obtain rfl : x3 = zx3 := ex3.trans ezx3.symm
  refine lv_istore (lv' := [(5, .int x3), (4, .int (0 : Int32)), (0, .ref (ad a)), (1, va_re ad p0), (2, .int p1), (3, .int p2)]) hx hb dX10_collect_13 hl (by decide) rfl (fun ls hl => ?_)
  obtain ⟨y4, hy4, hF⟩ := bnd_some hF
  have K4 : ∀ (H : Heap) (locs : List Loc) (ls : Array Slot), va_P D classes (wld ct ad G y4.2.2) H → va_D A (wld ct ad G y4.2.2) → va_S A s.heap H locs → lv_has ls 6 [(5, .int y4.2.1), (4, .int y4.1), (0, .ref (ad a)), (1, va_re ad p0), (2, .int p1), (3, .int p2)] → W p l e (headSpec wuX10_collect ({ frames := 0, cells := 0, slots := 0, locals := 0 })).room s m ([.ref (ad a), va_re ad p0, .int p1, .int p2] : List Value).toArray below meth c H locs 0 0 (MQ below (va_Qi (fun (q : Int32) (_ : Unit) => q = y.2) (fun _ t => kE D ct ad G A y.1 t) A) ([.ref (ad a), va_re ad p0, .int p1, .int p2] : List Value).toArray s 0 0 A) (F0 m 87 ls []) := by
    intro H locs ls hP hD hS hl
    refine lv_iload hx hb dX10_collect_87 (lv_at hl 1 rfl) ?_
    obtain rfl := Option.some.inj hF
    exact W.iret (v := y4.1) hx hb hr (fun t ht hW => ⟨⟨_, (), rfl, rfl, ⟨by rw [ht]; exact hP, va_K.moved hW.alike hK, hD⟩⟩, hS.F ht⟩) hS.2.2 dX10_collect_89
  clear hF
  refine itr_rule (fun (s5 : Int32 × Int32 × DD) => ∀ (H : Heap) (locs : List Loc) (ls : Array Slot), va_P D classes (wld ct ad G s5.2.2) H → va_D A (wld ct ad G s5.2.2) → va_S A s.heap H locs → lv_has ls 6 [(5, .int s5.2.1), (4, .int s5.1), (0, .ref (ad a)), (1, va_re ad p0), (2, .int p1), (3, .int p2)] → W p l e (headSpec wuX10_collect ({ frames := 0, cells := 0, slots := 0, locals := 0 })).room s m ([.ref (ad a), va_re ad p0, .int p1, .int p2] : List Value).toArray below meth c H locs 0 0 (MQ below (va_Qi (fun (q : Int32) (_ : Unit) => q = y.2) (fun _ t => kE D ct ad G A y.1 t) A) ([.ref (ad a), va_re ad p0, .int p1, .int p2] : List Value).toArray s 0 0 A) (F0 m 15 ls [])) ?_ _ _ hy4 _ _ _ hP hD hS (lv_sub hl [0, 1, 2, 3, 4, 5] rfl)
  rintro s5 ⟨z7, hF, hwz7⟩ H locs ls hP hD hS hl
  try dsimp only at hF
  refine lv_iload hx hb dX10_collect_15 (lv_at hl 0 rfl) ?_
  refine lv_iload_n hx hb dX10_collect_17 rfl (lv_at hl 4 rfl) ?_
  refine lv_icmp_lt (tgt := 87) hx hb dX10_collect_18 (by decide) (fun c8 => ?_) (fun c8 => ?_)
  · rw [if_pos c8] at hF
    obtain rfl := Option.some.inj hF
    subst hwz7
    exact K4 _ _ _ hP hD hS (lv_sub hl [0, 1, 2, 3, 4, 5] rfl)
  · rw [if_neg c8] at hF
    refine lv_aloadq_n hx hb dX10_collect_21 rfl (lv_at hl 3 rfl) ?_
    refine lv_iload hx hb dX10_collect_22 (lv_at hl 0 rfl) ?_
    obtain ⟨b9, ho9, hc9, hk9, hF⟩ := dr_some hF
    refine W_st (st' := [.int s5.2.1, .ref (ad b9)]) (by rw [va_some ho9]) ?_
    obtain ⟨hvc, hF⟩ := chk_some hF
    refine va_iald hx hb hK hP b9 1 (wld_i ct ad G s5.2.2 hc9 hk9) rfl hvc dX10_collect_24 ?_
    obtain ⟨x10, ex10, hF⟩ := ltt_some hF
    refine lv_topi (fun zx10 ezx10 => ?_)
    obtain rfl : x10 = zx10 := ex10.trans ezx10.symm
    obtain ⟨y11, hy11, hF⟩ := bnd_some hF
    have J11 : ∀ (H : Heap) (locs : List Loc) (ls : Array Slot), va_P D classes (wld ct ad G y11.2) H → va_D A (wld ct ad G y11.2) → va_S A s.heap H locs → lv_has ls 6 [(5, .int s5.2.1), (4, .int y11.1), (0, .ref (ad a)), (1, va_re ad p0), (2, .int p1), (3, .int p2)] → W p l e (headSpec wuX10_collect ({ frames := 0, cells := 0, slots := 0, locals := 0 })).room s m ([.ref (ad a), va_re ad p0, .int p1, .int p2] : List Value).toArray below meth c H locs 0 0 (MQ below (va_Qi (fun (q : Int32) (_ : Unit) => q = y.2) (fun _ t => kE D ct ad G A y.1 t) A) ([.ref (ad a), va_re ad p0, .int p1, .int p2] : List Value).toArray s 0 0 A) (F0 m 81 ls []) := by
      intro H locs ls hP hD hS hl
      obtain ⟨x12, ex12, hF⟩ := ltt_some hF
      refine lv_iinc (v := x12) (lv' := [(5, .int x12), (4, .int y11.1), (0, .ref (ad a)), (1, va_re ad p0), (2, .int p1), (3, .int p2)]) hx hb dX10_collect_81 hl (k := 0) rfl (by rw [ex12]; rfl) (by decide) rfl (fun ls hl => ?_)
      refine lv_goto (tgt := 15) hx hb dX10_collect_84 (by decide) ?_
      obtain rfl := Option.some.inj hF
      exact hwz7 _ _ _ hP hD hS (lv_sub hl [0, 1, 2, 3, 4, 5] rfl)
    clear hF
    have hF := hy11
    clear hy11
    refine lv_if_eq (tgt := 53) hx hb dX10_collect_25 (by decide) (fun c13 => ?_) (fun c13 => ?_)
    · rw [if_pos c13] at hF
      refine lv_iload hx hb dX10_collect_53 (lv_at hl 1 rfl) ?_
      obtain ⟨y14, hy14, hF⟩ := bnd_some hF
      have J14 : ∀ (H : Heap) (locs : List Loc) (ls : Array Slot), va_P D classes (wld ct ad G y14) H → va_D A (wld ct ad G y14) → va_S A s.heap H locs → lv_has ls 6 [(5, .int s5.2.1), (4, .int s5.1), (0, .ref (ad a)), (1, va_re ad p0), (2, .int p1), (3, .int p2)] → W p l e (headSpec wuX10_collect ({ frames := 0, cells := 0, slots := 0, locals := 0 })).room s m ([.ref (ad a), va_re ad p0, .int p1, .int p2] : List Value).toArray below meth c H locs 0 0 (MQ below (va_Qi (fun (q : Int32) (_ : Unit) => q = y.2) (fun _ t => kE D ct ad G A y.1 t) A) ([.ref (ad a), va_re ad p0, .int p1, .int p2] : List Value).toArray s 0 0 A) (F0 m 81 ls []) := by
        intro H locs ls hP hD hS hl
        obtain rfl := Option.some.inj hF
        exact J11 _ _ _ hP hD hS (lv_sub hl [0, 1, 2, 3, 4, 5] rfl)
      clear hF
      have hF := hy14
      clear hy14
      refine lv_if_le (tgt := 81) hx hb dX10_collect_55 (by decide) (fun c15 => ?_) (fun c15 => ?_)
      · rw [if_pos c15] at hF
        obtain rfl := Option.some.inj hF
        exact J14 _ _ _ hP hD hS (lv_sub hl [0, 1, 2, 3, 4, 5] rfl)
      · rw [if_neg c15] at hF
        refine lv_aload_n hx hb dX10_collect_58 rfl (lv_at hl 2 rfl) ?_
        refine va_get (D := D) (ci := 10) (v := va_re ad (s5.2.2.2 a 15)) (C := RX10) (T := TX10) (N := 20) hx hb hts (mus hf_X10) hown hK hP a (wld_o ct ad G s5.2.2 hc hk (by decide)) rfl 15 (by decide) (hts (.fieldLink RX10 27 "VideoSuite$Writer" "before" "[I") (mu mw_754)) (fun _ h9 => h9) rfl dX10_collect_59 ?_
        refine lv_iload hx hb dX10_collect_62 (lv_at hl 1 rfl) ?_
        refine lv_iconst (v := (1 : Int32)) hx hb dX10_collect_64 (by decide) ?_
        refine lv_isub hx hb dX10_collect_65 ?_
        obtain ⟨x16, ex16, hF⟩ := ltt_some hF
        refine lv_topi (fun zx16 ezx16 => ?_)
        obtain rfl : x16 = zx16 := ex16.trans ezx16.symm
        refine lv_dup2_11 hx hb dX10_collect_66 rfl (va_re_cat _ _) ?_
        obtain ⟨b17, ho17, hc17, hk17, hF⟩ := dr_some hF
        refine W_st (st' := [.int x16, .ref (ad b17), .int x16, .ref (ad b17)]) (by rw [va_some ho17]) ?_
        obtain ⟨hvc, hF⟩ := chk_some hF
        refine va_iald hx hb hK hP b17 1 (wld_i ct ad G s5.2.2 hc17 hk17) rfl hvc dX10_collect_67 ?_
        obtain ⟨x18, ex18, hF⟩ := ltt_some hF
        refine lv_topi (fun zx18 ezx18 => ?_)
        obtain rfl : x18 = zx18 := ex18.trans ezx18.symm
        refine lv_iconst (v := (1 : Int32)) hx hb dX10_collect_68 (by decide) ?_
        refine lv_iadd hx hb dX10_collect_69 ?_
        obtain ⟨x19, ex19, hF⟩ := ltt_some hF
        refine lv_topi (fun zx19 ezx19 => ?_)
        obtain rfl : x19 = zx19 := ex19.trans ezx19.symm
        obtain ⟨hvc, hF⟩ := chk_some hF
        refine va_iast hx hb hK hP hD hS b17 1 (wld_i ct ad G s5.2.2 hc17 hk17) rfl hvc dX10_collect_70 (fun H locs hP hD hS => ?_)
        obtain ⟨M20, eM20, hF⟩ := ltt_some hF
        rw [set_i ct ad G s5.2.2 hc17 hk17, ← eM20] at hP hD
        refine lv_aload_n hx hb dX10_collect_71 rfl (lv_at hl 2 rfl) ?_
        refine lv_dup hx hb dX10_collect_72 rfl ?_
        refine va_get (D := D) (ci := 10) (v := .int (M20.1 a 16)) (C := RX10) (T := TX10) (N := 20) hx hb hts (mus hf_X10) hown hK hP a (wld_o ct ad G M20 hc hk (by decide)) rfl 16 (by decide) (hts (.fieldLink RX10 142 "VideoSuite$Writer" "zeros" "I") (mu mw_755)) (fun _ h9 => h9) rfl dX10_collect_73 ?_
        obtain ⟨x21, ex21, hF⟩ := ltt_some hF
        refine lv_topi (fun zx21 ezx21 => ?_)
        obtain rfl : x21 = zx21 := ex21.trans ezx21.symm
        refine lv_iconst (v := (1 : Int32)) hx hb dX10_collect_76 (by decide) ?_
        refine lv_iadd hx hb dX10_collect_77 ?_
        obtain ⟨x22, ex22, hF⟩ := ltt_some hF
        refine lv_topi (fun zx22 ezx22 => ?_)
        obtain rfl : x22 = zx22 := ex22.trans ezx22.symm
        refine va_put (D := D) (ci := 10) (v := .int x22) (ty := .int) (C := RX10) (T := TX10) (N := 20) hx hb hts (mus hf_X10) tyX10 tyX10_ok nmX10 hown hK hP hD hS a (wld_o ct ad G M20 hc hk (by decide)) rfl 16 (by decide) (hts (.fieldLink RX10 142 "VideoSuite$Writer" "zeros" "I") (mu mw_755)) (fun _ h9 => h9) rfl (by decide +kernel) rfl rfl (Nat.le_of_ble_eq_true rfl) dX10_collect_78 (fun H locs hP hD hS => ?_)
        obtain ⟨M23, eM23, hF⟩ := ltt_some hF
        rw [set_oI ct ad G M20 hc hk (by decide) (by rfl), ← eM23] at hP hD
        obtain rfl := Option.some.inj hF
        exact J14 _ _ _ hP hD hS (lv_sub hl [0, 1, 2, 3, 4, 5] rfl)
    · rw [if_neg c13] at hF
      refine lv_aload_n hx hb dX10_collect_28 rfl (lv_at hl 2 rfl) ?_
      refine va_get (D := D) (ci := 10) (v := va_re ad (s5.2.2.2 a 14)) (C := RX10) (T := TX10) (N := 20) hx hb hts (mus hf_X10) hown hK hP a (wld_o ct ad G s5.2.2 hc hk (by decide)) rfl 14 (by decide) (hts (.fieldLink RX10 24 "VideoSuite$Writer" "size" "[I") (mu mw_753)) (fun _ h9 => h9) rfl dX10_collect_29 ?_
      refine lv_iload hx hb dX10_collect_32 (lv_at hl 1 rfl) ?_
      refine lv_aloadq_n hx hb dX10_collect_34 rfl (lv_at hl 3 rfl) ?_
      refine lv_iload hx hb dX10_collect_35 (lv_at hl 0 rfl) ?_
      refine W_st (st' := [.int s5.2.1, .ref (ad b9), .int s5.1, va_re ad (s5.2.2.2 a 14)]) (by rw [va_some ho9]) ?_
      obtain ⟨hvc, hF⟩ := chk_some hF
      refine va_iald hx hb hK hP b9 1 (wld_i ct ad G s5.2.2 hc9 hk9) rfl hvc dX10_collect_37 ?_
      obtain ⟨x24, ex24, hF⟩ := ltt_some hF
      refine lv_topi (fun zx24 ezx24 => ?_)
      obtain rfl : x24 = zx24 := ex24.trans ezx24.symm
      obtain ⟨b25, ho25, hc25, hk25, hF⟩ := dr_some hF
      refine W_st (st' := [.int x24, .int s5.1, .ref (ad b25)]) (by rw [va_some ho25]) ?_
      obtain ⟨hvc, hF⟩ := chk_some hF
      refine va_iast hx hb hK hP hD hS b25 1 (wld_i ct ad G s5.2.2 hc25 hk25) rfl hvc dX10_collect_38 (fun H locs hP hD hS => ?_)
      obtain ⟨M26, eM26, hF⟩ := ltt_some hF
      rw [set_i ct ad G s5.2.2 hc25 hk25, ← eM26] at hP hD
      refine lv_aload_n hx hb dX10_collect_39 rfl (lv_at hl 2 rfl) ?_
      refine va_get (D := D) (ci := 10) (v := va_re ad (M26.2 a 15)) (C := RX10) (T := TX10) (N := 20) hx hb hts (mus hf_X10) hown hK hP a (wld_o ct ad G M26 hc hk (by decide)) rfl 15 (by decide) (hts (.fieldLink RX10 27 "VideoSuite$Writer" "before" "[I") (mu mw_754)) (fun _ h9 => h9) rfl dX10_collect_40 ?_
      refine lv_iload hx hb dX10_collect_43 (lv_at hl 1 rfl) ?_
      refine lv_iconst (v := (0 : Int32)) hx hb dX10_collect_45 (by decide) ?_
      obtain ⟨b27, ho27, hc27, hk27, hF⟩ := dr_some hF
      refine W_st (st' := [.int (0 : Int32), .int s5.1, .ref (ad b27)]) (by rw [va_some ho27]) ?_
      obtain ⟨hvc, hF⟩ := chk_some hF
      refine va_iast hx hb hK hP hD hS b27 1 (wld_i ct ad G M26 hc27 hk27) rfl hvc dX10_collect_46 (fun H locs hP hD hS => ?_)
      obtain ⟨M28, eM28, hF⟩ := ltt_some hF
      rw [set_i ct ad G M26 hc27 hk27, ← eM28] at hP hD
      obtain ⟨x29, ex29, hF⟩ := ltt_some hF
      refine lv_iinc (v := x29) (lv' := [(4, .int x29), (5, .int s5.2.1), (0, .ref (ad a)), (1, va_re ad p0), (2, .int p1), (3, .int p2)]) hx hb dX10_collect_47 hl (k := 1) rfl (by rw [ex29]; rfl) (by decide) rfl (fun ls hl => ?_)
      refine lv_goto (tgt := 81) hx hb dX10_collect_50 (by decide) ?_
      obtain rfl := Option.some.inj hF
      exact J11 _ _ _ hP hD hS (lv_sub hl [1, 0, 2, 3, 4, 5] rfl)
theorem dX10_countOnes_0 : decode cX10_countOnes 0 = .ok (.iconst 0, 1) := by decide +kernel
theorem dX10_countOnes_1 : decode cX10_countOnes 1 = .ok (.istore_n 2, 1) := by decide +kernel
theorem dX10_countOnes_2 : decode cX10_countOnes 2 = .ok (.iload_n 2, 1) := by decide +kernel
theorem dX10_countOnes_3 : decode cX10_countOnes 3 = .ok (.iconst 3, 1) := by decide +kernel
theorem dX10_countOnes_4 : decode cX10_countOnes 4 = .ok (.if_icmp .ge 27, 3) := by decide +kernel
theorem dX10_countOnes_7 : decode cX10_countOnes 7 = .ok (.iload_n 2, 1) := by decide +kernel
theorem dX10_countOnes_8 : decode cX10_countOnes 8 = .ok (.iload_n 1, 1) := by decide +kernel
theorem dX10_countOnes_9 : decode cX10_countOnes 9 = .ok (.if_icmp .ge 22, 3) := by decide +kernel
theorem dX10_countOnes_12 : decode cX10_countOnes 12 = .ok (.aload_n 0, 1) := by decide +kernel
theorem dX10_countOnes_13 : decode cX10_countOnes 13 = .ok (.getfield 24, 3) := by decide +kernel
theorem dX10_countOnes_16 : decode cX10_countOnes 16 = .ok (.iload_n 2, 1) := by decide +kernel
theorem dX10_countOnes_17 : decode cX10_countOnes 17 = .ok (.iaload, 1) := by decide +kernel
theorem dX10_countOnes_18 : decode cX10_countOnes 18 = .ok (.invokestatic 137, 3) := by decide +kernel
theorem dX10_countOnes_21 : decode cX10_countOnes 21 = .ok (.iconst 1, 1) := by decide +kernel
theorem dX10_countOnes_22 : decode cX10_countOnes 22 = .ok (.if_icmp .ne 9, 3) := by decide +kernel
theorem dX10_countOnes_25 : decode cX10_countOnes 25 = .ok (.iinc 2 1, 3) := by decide +kernel
theorem dX10_countOnes_28 : decode cX10_countOnes 28 = .ok (.goto (-26), 3) := by decide +kernel
theorem dX10_countOnes_31 : decode cX10_countOnes 31 = .ok (.iload_n 2, 1) := by decide +kernel
theorem dX10_countOnes_32 : decode cX10_countOnes 32 = .ok (.ireturn, 1) := by decide +kernel
def FX10_countOnes (G : GG) (M : DD) (a : Nat) (p0 : Int32) : Option (DD × Int32) :=
  bnd (itr (fun (s2 : Int32 × DD) => ((if ((3 : Int32)) ≤ s2.1 then (some (.inr (s2.1, s2.2))) else
  (if p0 ≤ s2.1 then (some (.inr (s2.1, s2.2))) else
  (dr G 13 ((s2.2.2 a 14)) fun b7 =>
  chk (¬ (s2.1 < 0 ∨ G.2.2 b7 ≤ s2.1.toNatClampNeg)) <|
  ltt (s2.2.1 b7 s2.1.toNatClampNeg) fun x8 =>
  ltt (if (0 : Int32) ≤ x8 then x8 else 0 - x8) fun x9 =>
  if x9 = ((1 : Int32)) then (ltt (s2.1 + (1 : Int32)) fun x11 =>
  some (.inl (x11, s2.2))) else
  (some (.inr (s2.1, s2.2)))))) : Option ((Int32 × DD) ⊕ (Int32 × DD)))) 1000000 ((0 : Int32), M)) fun (y1 : Int32 × DD) =>
  some (y1.2, y1.1)
set_option maxHeartbeats 4000000 in
set_option maxRecDepth 100000 in
theorem kX10_countOnes (l : Launch) (D : va_G) (ct : CT) (ad : Nat → Nat) (Z : Nat → Nat) (G : GG) (M : DD) (sz : Nat) (a : Nat) (p0 : Int32) (y : DD × Int32) (hc : a < G.1) (hk : G.2.1 a = 10) (hF : FX10_countOnes G M a p0 = some y) : Met l yX10_countOnes wuX10_countOnes ({ frames := 1, cells := 0, slots := 0, locals := 21 }) (va_Pc [.ref (ad a), .int p0] (kB D ct ad Z G M sz)) (va_Qi (fun (q : Int32) (_ : Unit) => q = y.2) (fun _ t => kE D ct ad G (wA ad G sz) y.1 t) (wA ad G sz)) 0 0 (wA ad G sz) := by
  refine Met.ofW (cc := cX10_countOnes) (maxL := 3) (ret := (some .int)) (by decide) rfl ?_
  intro p e s m args below meth c s₁ B hml hv
  obtain ⟨rfl, hsz, hP, hK, hD0, hZ, hN⟩ := hv
  have hx := B.exec
  have hb := B.bytes
  have hr := B.returns
  have hts := atoms_spec (ws := wuX10_countOnes) B.pre
  have hown : s.vm.findClass RX10 = some m.cls := findClass_of_methodNamed B.named
  have hlocks := B.notSynchronized
  subst hsz
  have hD := wD_self (sz := s.heap.size) hD0
  have hA9 : ∀ q, s.heap.size ≤ q → wA ad G s.heap.size q := fun q h => Or.inr h
  generalize hAe : wA ad G s.heap.size = A at hD hA9 hZ ⊢
  have hS : va_S A s.heap s.heap [] := va_S.rf
  have hl := lv_entry ([.ref (ad a), .int p0]) (n := 3) (Nat.le_of_ble_eq_true rfl)
  rw [lg_entry_eq]
  generalize (lg_sl ([.ref (ad a), .int p0]) ++ List.replicate (3 - (lg_sl ([.ref (ad a), .int p0])).length) Slot.unset).toArray = ls at hl ⊢
  have hl : lv_has ls 3 [(0, .ref (ad a)), (1, .int p0)] := hl
  unfold FX10_countOnes at hF
  refine lv_iconst (v := (0 : Int32)) hx hb dX10_countOnes_0 (by decide) ?_
  refine lv_istore_n (lv' := [(2, .int (0 : Int32)), (0, .ref (ad a)), (1, .int p0)]) hx hb dX10_countOnes_1 rfl hl (by decide) rfl (fun ls hl => ?_)
  obtain ⟨y1, hy1, hF⟩ := bnd_some hF
  have K1 : ∀ (H : Heap) (locs : List Loc) (ls : Array Slot), va_P D classes (wld ct ad G y1.2) H → va_D A (wld ct ad G y1.2) → va_S A s.heap H locs → lv_has ls 3 [(2, .int y1.1), (0, .ref (ad a)), (1, .int p0)] → W p l e (headSpec wuX10_countOnes ({ frames := 1, cells := 0, slots := 0, locals := 21 })).room s m ([.ref (ad a), .int p0] : List Value).toArray below meth c H locs 0 0 (MQ below (va_Qi (fun (q : Int32) (_ : Unit) => q = y.2) (fun _ t => kE D ct ad G A y.1 t) A) ([.ref (ad a), .int p0] : List Value).toArray s 0 0 A) (F0 m 31 ls []) := by
    intro H locs ls hP hD hS hl
    refine lv_iload_n hx hb dX10_countOnes_31 rfl (lv_at hl 0 rfl) ?_
    obtain rfl := Option.some.inj hF
    exact W.iret (v := y1.1) hx hb hr (fun t ht hW => ⟨⟨_, (), rfl, rfl, ⟨by rw [ht]; exact hP, va_K.moved hW.alike hK, hD⟩⟩, hS.F ht⟩) hS.2.2 dX10_countOnes_32
  clear hF
  refine itr_rule (fun (s2 : Int32 × DD) => ∀ (H : Heap) (locs : List Loc) (ls : Array Slot), va_P D classes (wld ct ad G s2.2) H → va_D A (wld ct ad G s2.2) → va_S A s.heap H locs → lv_has ls 3 [(2, .int s2.1), (0, .ref (ad a)), (1, .int p0)] → W p l e (headSpec wuX10_countOnes ({ frames := 1, cells := 0, slots := 0, locals := 21 })).room s m ([.ref (ad a), .int p0] : List Value).toArray below meth c H locs 0 0 (MQ below (va_Qi (fun (q : Int32) (_ : Unit) => q = y.2) (fun _ t => kE D ct ad G A y.1 t) A) ([.ref (ad a), .int p0] : List Value).toArray s 0 0 A) (F0 m 2 ls [])) ?_ _ _ hy1 _ _ _ hP hD hS (lv_sub hl [0, 1, 2] rfl)
  rintro s2 ⟨z4, hF, hwz4⟩ H locs ls hP hD hS hl
  try dsimp only at hF
  refine lv_iload_n hx hb dX10_countOnes_2 rfl (lv_at hl 0 rfl) ?_
  refine lv_iconst (v := (3 : Int32)) hx hb dX10_countOnes_3 (by decide) ?_
  refine lv_icmp_ge (tgt := 31) hx hb dX10_countOnes_4 (by decide) (fun c5 => ?_) (fun c5 => ?_)
  · rw [if_pos c5] at hF
    obtain rfl := Option.some.inj hF
    subst hwz4
    exact K1 _ _ _ hP hD hS (lv_sub hl [0, 1, 2] rfl)
  · rw [if_neg c5] at hF
    refine lv_iload_n hx hb dX10_countOnes_7 rfl (lv_at hl 0 rfl) ?_
    refine lv_iload_n hx hb dX10_countOnes_8 rfl (lv_at hl 2 rfl) ?_
    refine lv_icmp_ge (tgt := 31) hx hb dX10_countOnes_9 (by decide) (fun c6 => ?_) (fun c6 => ?_)
    · rw [if_pos c6] at hF
      obtain rfl := Option.some.inj hF
      subst hwz4
      exact K1 _ _ _ hP hD hS (lv_sub hl [0, 1, 2] rfl)
    · rw [if_neg c6] at hF
      refine lv_aload_n hx hb dX10_countOnes_12 rfl (lv_at hl 1 rfl) ?_
      refine va_get (D := D) (ci := 10) (v := va_re ad (s2.2.2 a 14)) (C := RX10) (T := TX10) (N := 20) hx hb hts (mus hf_X10) hown hK hP a (wld_o ct ad G s2.2 hc hk (by decide)) rfl 14 (by decide) (hts (.fieldLink RX10 24 "VideoSuite$Writer" "size" "[I") (mu mw_753)) (fun _ h9 => h9) rfl dX10_countOnes_13 ?_
      refine lv_iload_n hx hb dX10_countOnes_16 rfl (lv_at hl 0 rfl) ?_
      obtain ⟨b7, ho7, hc7, hk7, hF⟩ := dr_some hF
      refine W_st (st' := [.int s2.1, .ref (ad b7)]) (by rw [va_some ho7]) ?_
      obtain ⟨hvc, hF⟩ := chk_some hF
      refine va_iald hx hb hK hP b7 1 (wld_i ct ad G s2.2 hc7 hk7) rfl hvc dX10_countOnes_17 ?_
      obtain ⟨x8, ex8, hF⟩ := ltt_some hF
      refine lv_topi (fun zx8 ezx8 => ?_)
      obtain rfl : x8 = zx8 := ex8.trans ezx8.symm
      refine va_mabs hx hb (hml.trans hl.1.symm) hown (hts (.methodLink RX10 137 Lib.Math.abs.name) (mu mw_2699)) (hts (.static Lib.Math.abs.name) (mu mw_990)) (hts (.initialized "java/lang/Math") (mu mw_183)) (hts (.code Lib.Math.abs.name Lib.Math.abs.code 1 (some .int)) (mu mw_991)) (Nat.le_of_ble_eq_true rfl) (Nat.le_of_ble_eq_true rfl) (Nat.zero_le _) (Nat.zero_le _) dX10_countOnes_18 ?_
      obtain ⟨x9, ex9, hF⟩ := ltt_some hF
      refine lv_topi (fun zx9 ezx9 => ?_)
      obtain rfl : x9 = zx9 := ex9.trans ezx9.symm
      refine lv_iconst (v := (1 : Int32)) hx hb dX10_countOnes_21 (by decide) ?_
      refine lv_icmp_ne (tgt := 31) hx hb dX10_countOnes_22 (by decide) (fun c10 => ?_) (fun c10 => ?_)
      · rw [if_neg c10] at hF
        obtain rfl := Option.some.inj hF
        subst hwz4
        exact K1 _ _ _ hP hD hS (lv_sub hl [0, 1, 2] rfl)
      · rw [if_pos c10] at hF
        obtain ⟨x11, ex11, hF⟩ := ltt_some hF
        refine lv_iinc (v := x11) (lv' := [(2, .int x11), (0, .ref (ad a)), (1, .int p0)]) hx hb dX10_countOnes_25 hl (k := 0) rfl (by rw [ex11]; rfl) (by decide) rfl (fun ls hl => ?_)
        refine lv_goto (tgt := 2) hx hb dX10_countOnes_28 (by decide) ?_
        obtain rfl := Option.some.inj hF
        exact hwz4 _ _ _ hP hD hS (lv_sub hl [0, 1, 2] rfl)
theorem dX10_cut_0 : decode cX10_cut 0 = .ok (.iload_n 2, 1) := by decide +kernel
theorem dX10_cut_1 : decode cX10_cut 1 = .ok (.ifCond .le 11, 3) := by decide +kernel
theorem dX10_cut_4 : decode cX10_cut 4 = .ok (.iconst 2, 1) := by decide +kernel
theorem dX10_cut_5 : decode cX10_cut 5 = .ok (.iload_n 2, 1) := by decide +kernel
theorem dX10_cut_6 : decode cX10_cut 6 = .ok (.imul, 1) := by decide +kernel
theorem dX10_cut_7 : decode cX10_cut 7 = .ok (.iconst 2, 1) := by decide +kernel
theorem dX10_cut_8 : decode cX10_cut 8 = .ok (.isub, 1) := by decide +kernel
theorem dX10_cut_9 : decode cX10_cut 9 = .ok (.goto 9, 3) := by decide +kernel
theorem dX10_cut_12 : decode cX10_cut 12 = .ok (.bipush (-2), 2) := by decide +kernel
theorem dX10_cut_14 : decode cX10_cut 14 = .ok (.iload_n 2, 1) := by decide +kernel
theorem dX10_cut_15 : decode cX10_cut 15 = .ok (.imul, 1) := by decide +kernel
theorem dX10_cut_16 : decode cX10_cut 16 = .ok (.iconst 1, 1) := by decide +kernel
theorem dX10_cut_17 : decode cX10_cut 17 = .ok (.isub, 1) := by decide +kernel
theorem dX10_cut_18 : decode cX10_cut 18 = .ok (.istore 4, 2) := by decide +kernel
theorem dX10_cut_20 : decode cX10_cut 20 = .ok (.iload 4, 2) := by decide +kernel
theorem dX10_cut_22 : decode cX10_cut 22 = .ok (.iload_n 3, 1) := by decide +kernel
theorem dX10_cut_23 : decode cX10_cut 23 = .ok (.ifCond .eq 7, 3) := by decide +kernel
theorem dX10_cut_26 : decode cX10_cut 26 = .ok (.iconst 2, 1) := by decide +kernel
theorem dX10_cut_27 : decode cX10_cut 27 = .ok (.goto 4, 3) := by decide +kernel
theorem dX10_cut_30 : decode cX10_cut 30 = .ok (.iconst 0, 1) := by decide +kernel
theorem dX10_cut_31 : decode cX10_cut 31 = .ok (.isub, 1) := by decide +kernel
theorem dX10_cut_32 : decode cX10_cut 32 = .ok (.istore 4, 2) := by decide +kernel
theorem dX10_cut_34 : decode cX10_cut 34 = .ok (.aload_n 0, 1) := by decide +kernel
theorem dX10_cut_35 : decode cX10_cut 35 = .ok (.bipush 15, 2) := by decide +kernel
theorem dX10_cut_37 : decode cX10_cut 37 = .ok (.putfield 128, 3) := by decide +kernel
theorem dX10_cut_40 : decode cX10_cut 40 = .ok (.aload_n 0, 1) := by decide +kernel
theorem dX10_cut_41 : decode cX10_cut 41 = .ok (.bipush 12, 2) := by decide +kernel
theorem dX10_cut_43 : decode cX10_cut 43 = .ok (.putfield 134, 3) := by decide +kernel
theorem dX10_cut_46 : decode cX10_cut 46 = .ok (.aload_n 0, 1) := by decide +kernel
theorem dX10_cut_47 : decode cX10_cut 47 = .ok (.iload 4, 2) := by decide +kernel
theorem dX10_cut_49 : decode cX10_cut 49 = .ok (.iload_n 1, 1) := by decide +kernel
theorem dX10_cut_50 : decode cX10_cut 50 = .ok (.ifCond .ne 8, 3) := by decide +kernel
theorem dX10_cut_53 : decode cX10_cut 53 = .ok (.bipush 30, 2) := by decide +kernel
theorem dX10_cut_55 : decode cX10_cut 55 = .ok (.goto 7, 3) := by decide +kernel
theorem dX10_cut_58 : decode cX10_cut 58 = .ok (.bipush 15, 2) := by decide +kernel
theorem dX10_cut_60 : decode cX10_cut 60 = .ok (.iload_n 1, 1) := by decide +kernel
theorem dX10_cut_61 : decode cX10_cut 61 = .ok (.ishl, 1) := by decide +kernel
theorem dX10_cut_62 : decode cX10_cut 62 = .ok (.isub, 1) := by decide +kernel
theorem dX10_cut_63 : decode cX10_cut 63 = .ok (.putfield 131, 3) := by decide +kernel
theorem dX10_cut_66 : decode cX10_cut 66 = .ok (.iload_n 1, 1) := by decide +kernel
theorem dX10_cut_67 : decode cX10_cut 67 = .ok (.ifCond .ne 67, 3) := by decide +kernel
theorem dX10_cut_70 : decode cX10_cut 70 = .ok (.iload 4, 2) := by decide +kernel
theorem dX10_cut_72 : decode cX10_cut 72 = .ok (.bipush 30, 2) := by decide +kernel
theorem dX10_cut_74 : decode cX10_cut 74 = .ok (.if_icmp .ge 60, 3) := by decide +kernel
theorem dX10_cut_77 : decode cX10_cut 77 = .ok (.aload_n 0, 1) := by decide +kernel
theorem dX10_cut_78 : decode cX10_cut 78 = .ok (.iload 4, 2) := by decide +kernel
theorem dX10_cut_80 : decode cX10_cut 80 = .ok (.bipush 14, 2) := by decide +kernel
theorem dX10_cut_82 : decode cX10_cut 82 = .ok (.if_icmp .ge 8, 3) := by decide +kernel
theorem dX10_cut_85 : decode cX10_cut 85 = .ok (.iload 4, 2) := by decide +kernel
theorem dX10_cut_87 : decode cX10_cut 87 = .ok (.goto 5, 3) := by decide +kernel
theorem dX10_cut_90 : decode cX10_cut 90 = .ok (.bipush 14, 2) := by decide +kernel
theorem dX10_cut_92 : decode cX10_cut 92 = .ok (.putfield 128, 3) := by decide +kernel
theorem dX10_cut_95 : decode cX10_cut 95 = .ok (.aload_n 0, 1) := by decide +kernel
theorem dX10_cut_96 : decode cX10_cut 96 = .ok (.iload 4, 2) := by decide +kernel
theorem dX10_cut_98 : decode cX10_cut 98 = .ok (.bipush 14, 2) := by decide +kernel
theorem dX10_cut_100 : decode cX10_cut 100 = .ok (.if_icmp .ge 7, 3) := by decide +kernel
theorem dX10_cut_103 : decode cX10_cut 103 = .ok (.iconst 0, 1) := by decide +kernel
theorem dX10_cut_104 : decode cX10_cut 104 = .ok (.goto 4, 3) := by decide +kernel
theorem dX10_cut_107 : decode cX10_cut 107 = .ok (.iconst 4, 1) := by decide +kernel
theorem dX10_cut_108 : decode cX10_cut 108 = .ok (.putfield 134, 3) := by decide +kernel
theorem dX10_cut_111 : decode cX10_cut 111 = .ok (.aload_n 0, 1) := by decide +kernel
theorem dX10_cut_112 : decode cX10_cut 112 = .ok (.iload 4, 2) := by decide +kernel
theorem dX10_cut_114 : decode cX10_cut 114 = .ok (.bipush 14, 2) := by decide +kernel
theorem dX10_cut_116 : decode cX10_cut 116 = .ok (.if_icmp .ge 7, 3) := by decide +kernel
theorem dX10_cut_119 : decode cX10_cut 119 = .ok (.iconst 0, 1) := by decide +kernel
theorem dX10_cut_120 : decode cX10_cut 120 = .ok (.goto 8, 3) := by decide +kernel
theorem dX10_cut_123 : decode cX10_cut 123 = .ok (.iload 4, 2) := by decide +kernel
theorem dX10_cut_125 : decode cX10_cut 125 = .ok (.bipush 14, 2) := by decide +kernel
theorem dX10_cut_127 : decode cX10_cut 127 = .ok (.isub, 1) := by decide +kernel
theorem dX10_cut_128 : decode cX10_cut 128 = .ok (.putfield 131, 3) := by decide +kernel
theorem dX10_cut_131 : decode cX10_cut 131 = .ok (.goto 41, 3) := by decide +kernel
theorem dX10_cut_134 : decode cX10_cut 134 = .ok (.iload_n 1, 1) := by decide +kernel
theorem dX10_cut_135 : decode cX10_cut 135 = .ok (.ifCond .le 37, 3) := by decide +kernel
theorem dX10_cut_138 : decode cX10_cut 138 = .ok (.iload 4, 2) := by decide +kernel
theorem dX10_cut_140 : decode cX10_cut 140 = .ok (.bipush 15, 2) := by decide +kernel
theorem dX10_cut_142 : decode cX10_cut 142 = .ok (.iload_n 1, 1) := by decide +kernel
theorem dX10_cut_143 : decode cX10_cut 143 = .ok (.ishl, 1) := by decide +kernel
theorem dX10_cut_144 : decode cX10_cut 144 = .ok (.if_icmp .ge 28, 3) := by decide +kernel
theorem dX10_cut_147 : decode cX10_cut 147 = .ok (.aload_n 0, 1) := by decide +kernel
theorem dX10_cut_148 : decode cX10_cut 148 = .ok (.iload 4, 2) := by decide +kernel
theorem dX10_cut_150 : decode cX10_cut 150 = .ok (.iload_n 1, 1) := by decide +kernel
theorem dX10_cut_151 : decode cX10_cut 151 = .ok (.ishr, 1) := by decide +kernel
theorem dX10_cut_152 : decode cX10_cut 152 = .ok (.putfield 128, 3) := by decide +kernel
theorem dX10_cut_155 : decode cX10_cut 155 = .ok (.aload_n 0, 1) := by decide +kernel
theorem dX10_cut_156 : decode cX10_cut 156 = .ok (.iload_n 1, 1) := by decide +kernel
theorem dX10_cut_157 : decode cX10_cut 157 = .ok (.putfield 134, 3) := by decide +kernel
theorem dX10_cut_160 : decode cX10_cut 160 = .ok (.aload_n 0, 1) := by decide +kernel
theorem dX10_cut_161 : decode cX10_cut 161 = .ok (.iload 4, 2) := by decide +kernel
theorem dX10_cut_163 : decode cX10_cut 163 = .ok (.iconst 1, 1) := by decide +kernel
theorem dX10_cut_164 : decode cX10_cut 164 = .ok (.iload_n 1, 1) := by decide +kernel
theorem dX10_cut_165 : decode cX10_cut 165 = .ok (.ishl, 1) := by decide +kernel
theorem dX10_cut_166 : decode cX10_cut 166 = .ok (.iconst 1, 1) := by decide +kernel
theorem dX10_cut_167 : decode cX10_cut 167 = .ok (.isub, 1) := by decide +kernel
theorem dX10_cut_168 : decode cX10_cut 168 = .ok (.iand, 1) := by decide +kernel
theorem dX10_cut_169 : decode cX10_cut 169 = .ok (.putfield 131, 3) := by decide +kernel
theorem dX10_cut_172 : decode cX10_cut 172 = .ok (.return_, 1) := by decide +kernel
def FX10_cut (G : GG) (M : DD) (a : Nat) (p0 : Int32) (p1 : Int32) (p2 : Int32) : Option (DD) :=
  bnd (if p1 ≤ ((0 : Int32)) then (ltt ((((-2 : Int32)) * p1)) fun x51 =>
  ltt ((x51 - ((1 : Int32)))) fun x52 =>
  some (x52)) else
  (ltt ((((2 : Int32)) * p1)) fun x53 =>
  ltt ((x53 - ((2 : Int32)))) fun x54 =>
  some (x54))) fun (y1 : Int32) =>
  bnd (if p2 = ((0 : Int32)) then (some ((0 : Int32))) else
  (some ((2 : Int32)))) fun (y2 : Int32) =>
  ltt ((y1 - y2)) fun x3 =>
  ltt (uI M a 17 ((15 : Int32))) fun M4 =>
  ltt (uI M4 a 19 ((12 : Int32))) fun M5 =>
  bnd (if p0 = ((0 : Int32)) then (some ((30 : Int32))) else
  (ltt ((((15 : Int32)) <<< (p0 &&& 31))) fun x48 =>
  some (x48))) fun (y6 : Int32) =>
  ltt ((x3 - y6)) fun x7 =>
  ltt (uI M5 a 18 x7) fun M8 =>
  bnd (if p0 = ((0 : Int32)) then (bnd (if ((30 : Int32)) ≤ x3 then (bnd (if p0 ≤ ((0 : Int32)) then (some (M8)) else
  (ltt ((((15 : Int32)) <<< (p0 &&& 31))) fun x27 =>
  bnd (if x27 ≤ x3 then (some (M8)) else
  (ltt ((x3 >>> (p0 &&& 31))) fun x30 =>
  ltt (uI M8 a 17 x30) fun M31 =>
  ltt (uI M31 a 19 p0) fun M32 =>
  ltt ((((1 : Int32)) <<< (p0 &&& 31))) fun x33 =>
  ltt ((x33 - ((1 : Int32)))) fun x34 =>
  ltt ((x3 &&& x34)) fun x35 =>
  ltt (uI M32 a 18 x35) fun M36 =>
  some (M36))) fun (y28 : DD) =>
  some (y28))) fun (y25 : DD) =>
  some (y25)) else
  (bnd (if ((14 : Int32)) ≤ x3 then (some ((14 : Int32))) else
  (some (x3))) fun (y37 : Int32) =>
  ltt (uI M8 a 17 y37) fun M38 =>
  bnd (if ((14 : Int32)) ≤ x3 then (some ((4 : Int32))) else
  (some ((0 : Int32)))) fun (y39 : Int32) =>
  ltt (uI M38 a 19 y39) fun M40 =>
  bnd (if ((14 : Int32)) ≤ x3 then (ltt ((x3 - ((14 : Int32)))) fun x44 =>
  some (x44)) else
  (some ((0 : Int32)))) fun (y41 : Int32) =>
  ltt (uI M40 a 18 y41) fun M42 =>
  some (M42))) fun (y23 : DD) =>
  some (y23)) else
  (bnd (if p0 ≤ ((0 : Int32)) then (some (M8)) else
  (ltt ((((15 : Int32)) <<< (p0 &&& 31))) fun x13 =>
  bnd (if x13 ≤ x3 then (some (M8)) else
  (ltt ((x3 >>> (p0 &&& 31))) fun x16 =>
  ltt (uI M8 a 17 x16) fun M17 =>
  ltt (uI M17 a 19 p0) fun M18 =>
  ltt ((((1 : Int32)) <<< (p0 &&& 31))) fun x19 =>
  ltt ((x19 - ((1 : Int32)))) fun x20 =>
  ltt ((x3 &&& x20)) fun x21 =>
  ltt (uI M18 a 18 x21) fun M22 =>
  some (M22))) fun (y14 : DD) =>
  some (y14))) fun (y11 : DD) =>
  some (y11))) fun (y9 : DD) =>
  some y9
set_option maxHeartbeats 4000000 in
set_option maxRecDepth 100000 in
theorem kX10_cut (l : Launch) (D : va_G) (ct : CT) (ad : Nat → Nat) (Z : Nat → Nat) (G : GG) (M : DD) (sz : Nat) (a : Nat) (p0 : Int32) (p1 : Int32) (p2 : Int32) (y : DD) (hc : a < G.1) (hk : G.2.1 a = 10) (hF : FX10_cut G M a p0 p1 p2 = some y) : Met l yX10_cut wuX10_cut ({ frames := 0, cells := 0, slots := 0, locals := 0 }) (va_Pc [.ref (ad a), .int p0, .int p1, .int p2] (kB D ct ad Z G M sz)) (va_Qv (fun (_ : Unit) => True) (fun _ t => kE D ct ad G (wA ad G sz) y t) (wA ad G sz)) 0 0 (wA ad G sz) := by
  refine Met.ofW (cc := cX10_cut) (maxL := 5) (ret := none) (by decide) rfl ?_
  intro p e s m args below meth c s₁ B hml hv
  obtain ⟨rfl, hsz, hP, hK, hD0, hZ, hN⟩ := hv
  have hx := B.exec
  have hb := B.bytes
  have hr := B.returns
  have hts := atoms_spec (ws := wuX10_cut) B.pre
  have hown : s.vm.findClass RX10 = some m.cls := findClass_of_methodNamed B.named
  have hlocks := B.notSynchronized
  subst hsz
  have hD := wD_self (sz := s.heap.size) hD0
  have hA9 : ∀ q, s.heap.size ≤ q → wA ad G s.heap.size q := fun q h => Or.inr h
  generalize hAe : wA ad G s.heap.size = A at hD hA9 hZ ⊢
  have hS : va_S A s.heap s.heap [] := va_S.rf
  have hl := lv_entry ([.ref (ad a), .int p0, .int p1, .int p2]) (n := 5) (Nat.le_of_ble_eq_true rfl)
  rw [lg_entry_eq]
  generalize (lg_sl ([.ref (ad a), .int p0, .int p1, .int p2]) ++ List.replicate (5 - (lg_sl ([.ref (ad a), .int p0, .int p1, .int p2])).length) Slot.unset).toArray = ls at hl ⊢
  have hl : lv_has ls 5 [(0, .ref (ad a)), (1, .int p0), (2, .int p1), (3, .int p2)] := hl
  unfold FX10_cut at hF
  refine lv_iload_n hx hb dX10_cut_0 rfl (lv_at hl 2 rfl) ?_
  obtain ⟨y1, hy1, hF⟩ := bnd_some hF
  have J1 : ∀ (H : Heap) (locs : List Loc) (ls : Array Slot), va_P D classes (wld ct ad G M) H → va_D A (wld ct ad G M) → va_S A s.heap H locs → lv_has ls 5 [(0, .ref (ad a)), (1, .int p0), (2, .int p1), (3, .int p2)] → W p l e (headSpec wuX10_cut ({ frames := 0, cells := 0, slots := 0, locals := 0 })).room s m ([.ref (ad a), .int p0, .int p1, .int p2] : List Value).toArray below meth c H locs 0 0 (MQ below (va_Qv (fun (_ : Unit) => True) (fun _ t => kE D ct ad G A y t) A) ([.ref (ad a), .int p0, .int p1, .int p2] : List Value).toArray s 0 0 A) (F0 m 18 ls [.int y1]) := by
    intro H locs ls hP hD hS hl
    refine lv_istore (lv' := [(4, .int y1), (0, .ref (ad a)), (1, .int p0), (2, .int p1), (3, .int p2)]) hx hb dX10_cut_18 hl (by decide) rfl (fun ls hl => ?_)
    refine lv_iload hx hb dX10_cut_20 (lv_at hl 0 rfl) ?_
    refine lv_iload_n hx hb dX10_cut_22 rfl (lv_at hl 4 rfl) ?_
    obtain ⟨y2, hy2, hF⟩ := bnd_some hF
    have J2 : ∀ (H : Heap) (locs : List Loc) (ls : Array Slot), va_P D classes (wld ct ad G M) H → va_D A (wld ct ad G M) → va_S A s.heap H locs → lv_has ls 5 [(4, .int y1), (0, .ref (ad a)), (1, .int p0), (2, .int p1), (3, .int p2)] → W p l e (headSpec wuX10_cut ({ frames := 0, cells := 0, slots := 0, locals := 0 })).room s m ([.ref (ad a), .int p0, .int p1, .int p2] : List Value).toArray below meth c H locs 0 0 (MQ below (va_Qv (fun (_ : Unit) => True) (fun _ t => kE D ct ad G A y t) A) ([.ref (ad a), .int p0, .int p1, .int p2] : List Value).toArray s 0 0 A) (F0 m 31 ls [.int y2, .int y1]) := by
      intro H locs ls hP hD hS hl
      refine lv_isub hx hb dX10_cut_31 ?_
      obtain ⟨x3, ex3, hF⟩ := ltt_some hF
      refine lv_topi (fun zx3 ezx3 => ?_)
      obtain rfl : x3 = zx3 := ex3.trans ezx3.symm
      refine lv_istore (lv' := [(4, .int x3), (0, .ref (ad a)), (1, .int p0), (2, .int p1), (3, .int p2)]) hx hb dX10_cut_32 hl (by decide) rfl (fun ls hl => ?_)
      refine lv_aload_n hx hb dX10_cut_34 rfl (lv_at hl 1 rfl) ?_
      refine lv_bipush (v := (15 : Int32)) hx hb dX10_cut_35 (by decide) ?_
      refine va_put (D := D) (ci := 10) (v := .int (15 : Int32)) (ty := .int) (C := RX10) (T := TX10) (N := 20) hx hb hts (mus hf_X10) tyX10 tyX10_ok nmX10 hown hK hP hD hS a (wld_o ct ad G M hc hk (by decide)) rfl 17 (by decide) (hts (.fieldLink RX10 128 "VideoSuite$Writer" "prefix" "I") (mu mw_756)) (fun _ h9 => h9) rfl (by decide +kernel) rfl rfl (Nat.le_of_ble_eq_true rfl) dX10_cut_37 (fun H locs hP hD hS => ?_)
      obtain ⟨M4, eM4, hF⟩ := ltt_some hF
      rw [set_oI ct ad G M hc hk (by decide) (by rfl), ← eM4] at hP hD
      refine lv_aload_n hx hb dX10_cut_40 rfl (lv_at hl 1 rfl) ?_
      refine lv_bipush (v := (12 : Int32)) hx hb dX10_cut_41 (by decide) ?_
      refine va_put (D := D) (ci := 10) (v := .int (12 : Int32)) (ty := .int) (C := RX10) (T := TX10) (N := 20) hx hb hts (mus hf_X10) tyX10 tyX10_ok nmX10 hown hK hP hD hS a (wld_o ct ad G M4 hc hk (by decide)) rfl 19 (by decide) (hts (.fieldLink RX10 134 "VideoSuite$Writer" "suffixBits" "I") (mu mw_758)) (fun _ h9 => h9) rfl (by decide +kernel) rfl rfl (Nat.le_of_ble_eq_true rfl) dX10_cut_43 (fun H locs hP hD hS => ?_)
      obtain ⟨M5, eM5, hF⟩ := ltt_some hF
      rw [set_oI ct ad G M4 hc hk (by decide) (by rfl), ← eM5] at hP hD
      refine lv_aload_n hx hb dX10_cut_46 rfl (lv_at hl 1 rfl) ?_
      refine lv_iload hx hb dX10_cut_47 (lv_at hl 0 rfl) ?_
      refine lv_iload_n hx hb dX10_cut_49 rfl (lv_at hl 2 rfl) ?_
      obtain ⟨y6, hy6, hF⟩ := bnd_some hF
      have J6 : ∀ (H : Heap) (locs : List Loc) (ls : Array Slot), va_P D classes (wld ct ad G M5) H → va_D A (wld ct ad G M5) → va_S A s.heap H locs → lv_has ls 5 [(4, .int x3), (0, .ref (ad a)), (1, .int p0), (2, .int p1), (3, .int p2)] → W p l e (headSpec wuX10_cut ({ frames := 0, cells := 0, slots := 0, locals := 0 })).room s m ([.ref (ad a), .int p0, .int p1, .int p2] : List Value).toArray below meth c H locs 0 0 (MQ below (va_Qv (fun (_ : Unit) => True) (fun _ t => kE D ct ad G A y t) A) ([.ref (ad a), .int p0, .int p1, .int p2] : List Value).toArray s 0 0 A) (F0 m 62 ls [.int y6, .int x3, .ref (ad a)]) := by
        intro H locs ls hP hD hS hl
        refine lv_isub hx hb dX10_cut_62 ?_
        obtain ⟨x7, ex7, hF⟩ := ltt_some hF
        refine lv_topi (fun zx7 ezx7 => ?_)
        obtain rfl : x7 = zx7 := ex7.trans ezx7.symm
        refine va_put (D := D) (ci := 10) (v := .int x7) (ty := .int) (C := RX10) (T := TX10) (N := 20) hx hb hts (mus hf_X10) tyX10 tyX10_ok nmX10 hown hK hP hD hS a (wld_o ct ad G M5 hc hk (by decide)) rfl 18 (by decide) (hts (.fieldLink RX10 131 "VideoSuite$Writer" "suffix" "I") (mu mw_757)) (fun _ h9 => h9) rfl (by decide +kernel) rfl rfl (Nat.le_of_ble_eq_true rfl) dX10_cut_63 (fun H locs hP hD hS => ?_)
        obtain ⟨M8, eM8, hF⟩ := ltt_some hF
        rw [set_oI ct ad G M5 hc hk (by decide) (by rfl), ← eM8] at hP hD
        refine lv_iload_n hx hb dX10_cut_66 rfl (lv_at hl 2 rfl) ?_
        obtain ⟨y9, hy9, hF⟩ := bnd_some hF
        have J9 : ∀ (H : Heap) (locs : List Loc) (ls : Array Slot), va_P D classes (wld ct ad G y9) H → va_D A (wld ct ad G y9) → va_S A s.heap H locs → lv_has ls 5 [(4, .int x3), (0, .ref (ad a)), (1, .int p0), (2, .int p1), (3, .int p2)] → W p l e (headSpec wuX10_cut ({ frames := 0, cells := 0, slots := 0, locals := 0 })).room s m ([.ref (ad a), .int p0, .int p1, .int p2] : List Value).toArray below meth c H locs 0 0 (MQ below (va_Qv (fun (_ : Unit) => True) (fun _ t => kE D ct ad G A y t) A) ([.ref (ad a), .int p0, .int p1, .int p2] : List Value).toArray s 0 0 A) (F0 m 172 ls []) := by
          intro H locs ls hP hD hS hl
          obtain rfl := Option.some.inj hF
          exact W.vret hx hb hr (fun t ht hW => ⟨⟨(), rfl, trivial, ⟨by rw [ht]; exact hP, va_K.moved hW.alike hK, hD⟩⟩, hS.F ht⟩) hS.2.2 dX10_cut_172
        clear hF
        have hF := hy9
        clear hy9
        refine lv_if_ne (tgt := 134) hx hb dX10_cut_67 (by decide) (fun c10 => ?_) (fun c10 => ?_)
        · rw [if_neg c10] at hF
          refine lv_iload_n hx hb dX10_cut_134 rfl (lv_at hl 2 rfl) ?_
          obtain ⟨y11, hy11, hF⟩ := bnd_some hF
          have J11 : ∀ (H : Heap) (locs : List Loc) (ls : Array Slot), va_P D classes (wld ct ad G y11) H → va_D A (wld ct ad G y11) → va_S A s.heap H locs → lv_has ls 5 [(4, .int x3), (0, .ref (ad a)), (1, .int p0), (2, .int p1), (3, .int p2)] → W p l e (headSpec wuX10_cut ({ frames := 0, cells := 0, slots := 0, locals := 0 })).room s m ([.ref (ad a), .int p0, .int p1, .int p2] : List Value).toArray below meth c H locs 0 0 (MQ below (va_Qv (fun (_ : Unit) => True) (fun _ t => kE D ct ad G A y t) A) ([.ref (ad a), .int p0, .int p1, .int p2] : List Value).toArray s 0 0 A) (F0 m 172 ls []) := by
            intro H locs ls hP hD hS hl
            obtain rfl := Option.some.inj hF
            exact J9 _ _ _ hP hD hS (lv_sub hl [0, 1, 2, 3, 4] rfl)
          clear hF
          have hF := hy11
          clear hy11
          refine lv_if_le (tgt := 172) hx hb dX10_cut_135 (by decide) (fun c12 => ?_) (fun c12 => ?_)
          · rw [if_pos c12] at hF
            obtain rfl := Option.some.inj hF
            exact J11 _ _ _ hP hD hS (lv_sub hl [0, 1, 2, 3, 4] rfl)
          · rw [if_neg c12] at hF
            refine lv_iload hx hb dX10_cut_138 (lv_at hl 0 rfl) ?_
            refine lv_bipush (v := (15 : Int32)) hx hb dX10_cut_140 (by decide) ?_
            refine lv_iload_n hx hb dX10_cut_142 rfl (lv_at hl 2 rfl) ?_
            refine lv_ishl hx hb dX10_cut_143 ?_
            obtain ⟨x13, ex13, hF⟩ := ltt_some hF
            refine lv_topi (fun zx13 ezx13 => ?_)
            obtain rfl : x13 = zx13 := ex13.trans ezx13.symm
            obtain ⟨y14, hy14, hF⟩ := bnd_some hF
            have J14 : ∀ (H : Heap) (locs : List Loc) (ls : Array Slot), va_P D classes (wld ct ad G y14) H → va_D A (wld ct ad G y14) → va_S A s.heap H locs → lv_has ls 5 [(4, .int x3), (0, .ref (ad a)), (1, .int p0), (2, .int p1), (3, .int p2)] → W p l e (headSpec wuX10_cut ({ frames := 0, cells := 0, slots := 0, locals := 0 })).room s m ([.ref (ad a), .int p0, .int p1, .int p2] : List Value).toArray below meth c H locs 0 0 (MQ below (va_Qv (fun (_ : Unit) => True) (fun _ t => kE D ct ad G A y t) A) ([.ref (ad a), .int p0, .int p1, .int p2] : List Value).toArray s 0 0 A) (F0 m 172 ls []) := by
              intro H locs ls hP hD hS hl
              obtain rfl := Option.some.inj hF
              exact J11 _ _ _ hP hD hS (lv_sub hl [0, 1, 2, 3, 4] rfl)
            clear hF
            have hF := hy14
            clear hy14
            refine lv_icmp_ge (tgt := 172) hx hb dX10_cut_144 (by decide) (fun c15 => ?_) (fun c15 => ?_)
            · rw [if_pos c15] at hF
              obtain rfl := Option.some.inj hF
              exact J14 _ _ _ hP hD hS (lv_sub hl [0, 1, 2, 3, 4] rfl)
            · rw [if_neg c15] at hF
              refine lv_aload_n hx hb dX10_cut_147 rfl (lv_at hl 1 rfl) ?_
              refine lv_iload hx hb dX10_cut_148 (lv_at hl 0 rfl) ?_
              refine lv_iload_n hx hb dX10_cut_150 rfl (lv_at hl 2 rfl) ?_
              refine lv_ishr hx hb dX10_cut_151 ?_
              obtain ⟨x16, ex16, hF⟩ := ltt_some hF
              refine lv_topi (fun zx16 ezx16 => ?_)
              obtain rfl : x16 = zx16 := ex16.trans ezx16.symm
              refine va_put (D := D) (ci := 10) (v := .int x16) (ty := .int) (C := RX10) (T := TX10) (N := 20) hx hb hts (mus hf_X10) tyX10 tyX10_ok nmX10 hown hK hP hD hS a (wld_o ct ad G M8 hc hk (by decide)) rfl 17 (by decide) (hts (.fieldLink RX10 128 "VideoSuite$Writer" "prefix" "I") (mu mw_756)) (fun _ h9 => h9) rfl (by decide +kernel) rfl rfl (Nat.le_of_ble_eq_true rfl) dX10_cut_152 (fun H locs hP hD hS => ?_)
              obtain ⟨M17, eM17, hF⟩ := ltt_some hF
              rw [set_oI ct ad G M8 hc hk (by decide) (by rfl), ← eM17] at hP hD
              refine lv_aload_n hx hb dX10_cut_155 rfl (lv_at hl 1 rfl) ?_
              refine lv_iload_n hx hb dX10_cut_156 rfl (lv_at hl 2 rfl) ?_
              refine va_put (D := D) (ci := 10) (v := .int p0) (ty := .int) (C := RX10) (T := TX10) (N := 20) hx hb hts (mus hf_X10) tyX10 tyX10_ok nmX10 hown hK hP hD hS a (wld_o ct ad G M17 hc hk (by decide)) rfl 19 (by decide) (hts (.fieldLink RX10 134 "VideoSuite$Writer" "suffixBits" "I") (mu mw_758)) (fun _ h9 => h9) rfl (by decide +kernel) rfl rfl (Nat.le_of_ble_eq_true rfl) dX10_cut_157 (fun H locs hP hD hS => ?_)
              obtain ⟨M18, eM18, hF⟩ := ltt_some hF
              rw [set_oI ct ad G M17 hc hk (by decide) (by rfl), ← eM18] at hP hD
              refine lv_aload_n hx hb dX10_cut_160 rfl (lv_at hl 1 rfl) ?_
              refine lv_iload hx hb dX10_cut_161 (lv_at hl 0 rfl) ?_
              refine lv_iconst (v := (1 : Int32)) hx hb dX10_cut_163 (by decide) ?_
              refine lv_iload_n hx hb dX10_cut_164 rfl (lv_at hl 2 rfl) ?_
              refine lv_ishl hx hb dX10_cut_165 ?_
              obtain ⟨x19, ex19, hF⟩ := ltt_some hF
              refine lv_topi (fun zx19 ezx19 => ?_)
              obtain rfl : x19 = zx19 := ex19.trans ezx19.symm
              refine lv_iconst (v := (1 : Int32)) hx hb dX10_cut_166 (by decide) ?_
              refine lv_isub hx hb dX10_cut_167 ?_
              obtain ⟨x20, ex20, hF⟩ := ltt_some hF
              refine lv_topi (fun zx20 ezx20 => ?_)
              obtain rfl : x20 = zx20 := ex20.trans ezx20.symm
              refine lv_iand hx hb dX10_cut_168 ?_
              obtain ⟨x21, ex21, hF⟩ := ltt_some hF
              refine lv_topi (fun zx21 ezx21 => ?_)
              obtain rfl : x21 = zx21 := ex21.trans ezx21.symm
              refine va_put (D := D) (ci := 10) (v := .int x21) (ty := .int) (C := RX10) (T := TX10) (N := 20) hx hb hts (mus hf_X10) tyX10 tyX10_ok nmX10 hown hK hP hD hS a (wld_o ct ad G M18 hc hk (by decide)) rfl 18 (by decide) (hts (.fieldLink RX10 131 "VideoSuite$Writer" "suffix" "I") (mu mw_757)) (fun _ h9 => h9) rfl (by decide +kernel) rfl rfl (Nat.le_of_ble_eq_true rfl) dX10_cut_169 (fun H locs hP hD hS => ?_)
              obtain ⟨M22, eM22, hF⟩ := ltt_some hF
              rw [set_oI ct ad G M18 hc hk (by decide) (by rfl), ← eM22] at hP hD
              obtain rfl := Option.some.inj hF
              exact J14 _ _ _ hP hD hS (lv_sub hl [0, 1, 2, 3, 4] rfl)
        · rw [if_pos c10] at hF
          refine lv_iload hx hb dX10_cut_70 (lv_at hl 0 rfl) ?_
          refine lv_bipush (v := (30 : Int32)) hx hb dX10_cut_72 (by decide) ?_
          obtain ⟨y23, hy23, hF⟩ := bnd_some hF
          have J23 : ∀ (H : Heap) (locs : List Loc) (ls : Array Slot), va_P D classes (wld ct ad G y23) H → va_D A (wld ct ad G y23) → va_S A s.heap H locs → lv_has ls 5 [(4, .int x3), (0, .ref (ad a)), (1, .int p0), (2, .int p1), (3, .int p2)] → W p l e (headSpec wuX10_cut ({ frames := 0, cells := 0, slots := 0, locals := 0 })).room s m ([.ref (ad a), .int p0, .int p1, .int p2] : List Value).toArray below meth c H locs 0 0 (MQ below (va_Qv (fun (_ : Unit) => True) (fun _ t => kE D ct ad G A y t) A) ([.ref (ad a), .int p0, .int p1, .int p2] : List Value).toArray s 0 0 A) (F0 m 172 ls []) := by
            intro H locs ls hP hD hS hl
            obtain rfl := Option.some.inj hF
            exact J9 _ _ _ hP hD hS (lv_sub hl [0, 1, 2, 3, 4] rfl)
          clear hF
          have hF := hy23
          clear hy23
          refine lv_icmp_ge (tgt := 134) hx hb dX10_cut_74 (by decide) (fun c24 => ?_) (fun c24 => ?_)
          · rw [if_pos c24] at hF
            refine lv_iload_n hx hb dX10_cut_134 rfl (lv_at hl 2 rfl) ?_
            obtain ⟨y25, hy25, hF⟩ := bnd_some hF
            have J25 : ∀ (H : Heap) (locs : List Loc) (ls : Array Slot), va_P D classes (wld ct ad G y25) H → va_D A (wld ct ad G y25) → va_S A s.heap H locs → lv_has ls 5 [(4, .int x3), (0, .ref (ad a)), (1, .int p0), (2, .int p1), (3, .int p2)] → W p l e (headSpec wuX10_cut ({ frames := 0, cells := 0, slots := 0, locals := 0 })).room s m ([.ref (ad a), .int p0, .int p1, .int p2] : List Value).toArray below meth c H locs 0 0 (MQ below (va_Qv (fun (_ : Unit) => True) (fun _ t => kE D ct ad G A y t) A) ([.ref (ad a), .int p0, .int p1, .int p2] : List Value).toArray s 0 0 A) (F0 m 172 ls []) := by
              intro H locs ls hP hD hS hl
              obtain rfl := Option.some.inj hF
              exact J23 _ _ _ hP hD hS (lv_sub hl [0, 1, 2, 3, 4] rfl)
            clear hF
            have hF := hy25
            clear hy25
            refine lv_if_le (tgt := 172) hx hb dX10_cut_135 (by decide) (fun c26 => ?_) (fun c26 => ?_)
            · rw [if_pos c26] at hF
              obtain rfl := Option.some.inj hF
              exact J25 _ _ _ hP hD hS (lv_sub hl [0, 1, 2, 3, 4] rfl)
            · rw [if_neg c26] at hF
              refine lv_iload hx hb dX10_cut_138 (lv_at hl 0 rfl) ?_
              refine lv_bipush (v := (15 : Int32)) hx hb dX10_cut_140 (by decide) ?_
              refine lv_iload_n hx hb dX10_cut_142 rfl (lv_at hl 2 rfl) ?_
              refine lv_ishl hx hb dX10_cut_143 ?_
              obtain ⟨x27, ex27, hF⟩ := ltt_some hF
              refine lv_topi (fun zx27 ezx27 => ?_)
              obtain rfl : x27 = zx27 := ex27.trans ezx27.symm
              obtain ⟨y28, hy28, hF⟩ := bnd_some hF
              have J28 : ∀ (H : Heap) (locs : List Loc) (ls : Array Slot), va_P D classes (wld ct ad G y28) H → va_D A (wld ct ad G y28) → va_S A s.heap H locs → lv_has ls 5 [(4, .int x3), (0, .ref (ad a)), (1, .int p0), (2, .int p1), (3, .int p2)] → W p l e (headSpec wuX10_cut ({ frames := 0, cells := 0, slots := 0, locals := 0 })).room s m ([.ref (ad a), .int p0, .int p1, .int p2] : List Value).toArray below meth c H locs 0 0 (MQ below (va_Qv (fun (_ : Unit) => True) (fun _ t => kE D ct ad G A y t) A) ([.ref (ad a), .int p0, .int p1, .int p2] : List Value).toArray s 0 0 A) (F0 m 172 ls []) := by
                intro H locs ls hP hD hS hl
                obtain rfl := Option.some.inj hF
                exact J25 _ _ _ hP hD hS (lv_sub hl [0, 1, 2, 3, 4] rfl)
              clear hF
              have hF := hy28
              clear hy28
              refine lv_icmp_ge (tgt := 172) hx hb dX10_cut_144 (by decide) (fun c29 => ?_) (fun c29 => ?_)
              · rw [if_pos c29] at hF
                obtain rfl := Option.some.inj hF
                exact J28 _ _ _ hP hD hS (lv_sub hl [0, 1, 2, 3, 4] rfl)
              · rw [if_neg c29] at hF
                refine lv_aload_n hx hb dX10_cut_147 rfl (lv_at hl 1 rfl) ?_
                refine lv_iload hx hb dX10_cut_148 (lv_at hl 0 rfl) ?_
                refine lv_iload_n hx hb dX10_cut_150 rfl (lv_at hl 2 rfl) ?_
                refine lv_ishr hx hb dX10_cut_151 ?_
                obtain ⟨x30, ex30, hF⟩ := ltt_some hF
                refine lv_topi (fun zx30 ezx30 => ?_)
                obtain rfl : x30 = zx30 := ex30.trans ezx30.symm
                refine va_put (D := D) (ci := 10) (v := .int x30) (ty := .int) (C := RX10) (T := TX10) (N := 20) hx hb hts (mus hf_X10) tyX10 tyX10_ok nmX10 hown hK hP hD hS a (wld_o ct ad G M8 hc hk (by decide)) rfl 17 (by decide) (hts (.fieldLink RX10 128 "VideoSuite$Writer" "prefix" "I") (mu mw_756)) (fun _ h9 => h9) rfl (by decide +kernel) rfl rfl (Nat.le_of_ble_eq_true rfl) dX10_cut_152 (fun H locs hP hD hS => ?_)
                obtain ⟨M31, eM31, hF⟩ := ltt_some hF
                rw [set_oI ct ad G M8 hc hk (by decide) (by rfl), ← eM31] at hP hD
                refine lv_aload_n hx hb dX10_cut_155 rfl (lv_at hl 1 rfl) ?_
                refine lv_iload_n hx hb dX10_cut_156 rfl (lv_at hl 2 rfl) ?_
                refine va_put (D := D) (ci := 10) (v := .int p0) (ty := .int) (C := RX10) (T := TX10) (N := 20) hx hb hts (mus hf_X10) tyX10 tyX10_ok nmX10 hown hK hP hD hS a (wld_o ct ad G M31 hc hk (by decide)) rfl 19 (by decide) (hts (.fieldLink RX10 134 "VideoSuite$Writer" "suffixBits" "I") (mu mw_758)) (fun _ h9 => h9) rfl (by decide +kernel) rfl rfl (Nat.le_of_ble_eq_true rfl) dX10_cut_157 (fun H locs hP hD hS => ?_)
                obtain ⟨M32, eM32, hF⟩ := ltt_some hF
                rw [set_oI ct ad G M31 hc hk (by decide) (by rfl), ← eM32] at hP hD
                refine lv_aload_n hx hb dX10_cut_160 rfl (lv_at hl 1 rfl) ?_
                refine lv_iload hx hb dX10_cut_161 (lv_at hl 0 rfl) ?_
                refine lv_iconst (v := (1 : Int32)) hx hb dX10_cut_163 (by decide) ?_
                refine lv_iload_n hx hb dX10_cut_164 rfl (lv_at hl 2 rfl) ?_
                refine lv_ishl hx hb dX10_cut_165 ?_
                obtain ⟨x33, ex33, hF⟩ := ltt_some hF
                refine lv_topi (fun zx33 ezx33 => ?_)
                obtain rfl : x33 = zx33 := ex33.trans ezx33.symm
                refine lv_iconst (v := (1 : Int32)) hx hb dX10_cut_166 (by decide) ?_
                refine lv_isub hx hb dX10_cut_167 ?_
                obtain ⟨x34, ex34, hF⟩ := ltt_some hF
                refine lv_topi (fun zx34 ezx34 => ?_)
                obtain rfl : x34 = zx34 := ex34.trans ezx34.symm
                refine lv_iand hx hb dX10_cut_168 ?_
                obtain ⟨x35, ex35, hF⟩ := ltt_some hF
                refine lv_topi (fun zx35 ezx35 => ?_)
                obtain rfl : x35 = zx35 := ex35.trans ezx35.symm
                refine va_put (D := D) (ci := 10) (v := .int x35) (ty := .int) (C := RX10) (T := TX10) (N := 20) hx hb hts (mus hf_X10) tyX10 tyX10_ok nmX10 hown hK hP hD hS a (wld_o ct ad G M32 hc hk (by decide)) rfl 18 (by decide) (hts (.fieldLink RX10 131 "VideoSuite$Writer" "suffix" "I") (mu mw_757)) (fun _ h9 => h9) rfl (by decide +kernel) rfl rfl (Nat.le_of_ble_eq_true rfl) dX10_cut_169 (fun H locs hP hD hS => ?_)
                obtain ⟨M36, eM36, hF⟩ := ltt_some hF
                rw [set_oI ct ad G M32 hc hk (by decide) (by rfl), ← eM36] at hP hD
                obtain rfl := Option.some.inj hF
                exact J28 _ _ _ hP hD hS (lv_sub hl [0, 1, 2, 3, 4] rfl)
          · rw [if_neg c24] at hF
            refine lv_aload_n hx hb dX10_cut_77 rfl (lv_at hl 1 rfl) ?_
            refine lv_iload hx hb dX10_cut_78 (lv_at hl 0 rfl) ?_
            refine lv_bipush (v := (14 : Int32)) hx hb dX10_cut_80 (by decide) ?_
            obtain ⟨y37, hy37, hF⟩ := bnd_some hF
            have J37 : ∀ (H : Heap) (locs : List Loc) (ls : Array Slot), va_P D classes (wld ct ad G M8) H → va_D A (wld ct ad G M8) → va_S A s.heap H locs → lv_has ls 5 [(4, .int x3), (0, .ref (ad a)), (1, .int p0), (2, .int p1), (3, .int p2)] → W p l e (headSpec wuX10_cut ({ frames := 0, cells := 0, slots := 0, locals := 0 })).room s m ([.ref (ad a), .int p0, .int p1, .int p2] : List Value).toArray below meth c H locs 0 0 (MQ below (va_Qv (fun (_ : Unit) => True) (fun _ t => kE D ct ad G A y t) A) ([.ref (ad a), .int p0, .int p1, .int p2] : List Value).toArray s 0 0 A) (F0 m 92 ls [.int y37, .ref (ad a)]) := by
              intro H locs ls hP hD hS hl
              refine va_put (D := D) (ci := 10) (v := .int y37) (ty := .int) (C := RX10) (T := TX10) (N := 20) hx hb hts (mus hf_X10) tyX10 tyX10_ok nmX10 hown hK hP hD hS a (wld_o ct ad G M8 hc hk (by decide)) rfl 17 (by decide) (hts (.fieldLink RX10 128 "VideoSuite$Writer" "prefix" "I") (mu mw_756)) (fun _ h9 => h9) rfl (by decide +kernel) rfl rfl (Nat.le_of_ble_eq_true rfl) dX10_cut_92 (fun H locs hP hD hS => ?_)
              obtain ⟨M38, eM38, hF⟩ := ltt_some hF
              rw [set_oI ct ad G M8 hc hk (by decide) (by rfl), ← eM38] at hP hD
              refine lv_aload_n hx hb dX10_cut_95 rfl (lv_at hl 1 rfl) ?_
              refine lv_iload hx hb dX10_cut_96 (lv_at hl 0 rfl) ?_
              refine lv_bipush (v := (14 : Int32)) hx hb dX10_cut_98 (by decide) ?_
              obtain ⟨y39, hy39, hF⟩ := bnd_some hF
              have J39 : ∀ (H : Heap) (locs : List Loc) (ls : Array Slot), va_P D classes (wld ct ad G M38) H → va_D A (wld ct ad G M38) → va_S A s.heap H locs → lv_has ls 5 [(4, .int x3), (0, .ref (ad a)), (1, .int p0), (2, .int p1), (3, .int p2)] → W p l e (headSpec wuX10_cut ({ frames := 0, cells := 0, slots := 0, locals := 0 })).room s m ([.ref (ad a), .int p0, .int p1, .int p2] : List Value).toArray below meth c H locs 0 0 (MQ below (va_Qv (fun (_ : Unit) => True) (fun _ t => kE D ct ad G A y t) A) ([.ref (ad a), .int p0, .int p1, .int p2] : List Value).toArray s 0 0 A) (F0 m 108 ls [.int y39, .ref (ad a)]) := by
                intro H locs ls hP hD hS hl
                refine va_put (D := D) (ci := 10) (v := .int y39) (ty := .int) (C := RX10) (T := TX10) (N := 20) hx hb hts (mus hf_X10) tyX10 tyX10_ok nmX10 hown hK hP hD hS a (wld_o ct ad G M38 hc hk (by decide)) rfl 19 (by decide) (hts (.fieldLink RX10 134 "VideoSuite$Writer" "suffixBits" "I") (mu mw_758)) (fun _ h9 => h9) rfl (by decide +kernel) rfl rfl (Nat.le_of_ble_eq_true rfl) dX10_cut_108 (fun H locs hP hD hS => ?_)
                obtain ⟨M40, eM40, hF⟩ := ltt_some hF
                rw [set_oI ct ad G M38 hc hk (by decide) (by rfl), ← eM40] at hP hD
                refine lv_aload_n hx hb dX10_cut_111 rfl (lv_at hl 1 rfl) ?_
                refine lv_iload hx hb dX10_cut_112 (lv_at hl 0 rfl) ?_
                refine lv_bipush (v := (14 : Int32)) hx hb dX10_cut_114 (by decide) ?_
                obtain ⟨y41, hy41, hF⟩ := bnd_some hF
                have J41 : ∀ (H : Heap) (locs : List Loc) (ls : Array Slot), va_P D classes (wld ct ad G M40) H → va_D A (wld ct ad G M40) → va_S A s.heap H locs → lv_has ls 5 [(4, .int x3), (0, .ref (ad a)), (1, .int p0), (2, .int p1), (3, .int p2)] → W p l e (headSpec wuX10_cut ({ frames := 0, cells := 0, slots := 0, locals := 0 })).room s m ([.ref (ad a), .int p0, .int p1, .int p2] : List Value).toArray below meth c H locs 0 0 (MQ below (va_Qv (fun (_ : Unit) => True) (fun _ t => kE D ct ad G A y t) A) ([.ref (ad a), .int p0, .int p1, .int p2] : List Value).toArray s 0 0 A) (F0 m 128 ls [.int y41, .ref (ad a)]) := by
                  intro H locs ls hP hD hS hl
                  refine va_put (D := D) (ci := 10) (v := .int y41) (ty := .int) (C := RX10) (T := TX10) (N := 20) hx hb hts (mus hf_X10) tyX10 tyX10_ok nmX10 hown hK hP hD hS a (wld_o ct ad G M40 hc hk (by decide)) rfl 18 (by decide) (hts (.fieldLink RX10 131 "VideoSuite$Writer" "suffix" "I") (mu mw_757)) (fun _ h9 => h9) rfl (by decide +kernel) rfl rfl (Nat.le_of_ble_eq_true rfl) dX10_cut_128 (fun H locs hP hD hS => ?_)
                  obtain ⟨M42, eM42, hF⟩ := ltt_some hF
                  rw [set_oI ct ad G M40 hc hk (by decide) (by rfl), ← eM42] at hP hD
                  refine lv_goto (tgt := 172) hx hb dX10_cut_131 (by decide) ?_
                  obtain rfl := Option.some.inj hF
                  exact J23 _ _ _ hP hD hS (lv_sub hl [0, 1, 2, 3, 4] rfl)
                clear hF
                have hF := hy41
                clear hy41
                refine lv_icmp_ge (tgt := 123) hx hb dX10_cut_116 (by decide) (fun c43 => ?_) (fun c43 => ?_)
                · rw [if_pos c43] at hF
                  refine lv_iload hx hb dX10_cut_123 (lv_at hl 0 rfl) ?_
                  refine lv_bipush (v := (14 : Int32)) hx hb dX10_cut_125 (by decide) ?_
                  refine lv_isub hx hb dX10_cut_127 ?_
                  obtain ⟨x44, ex44, hF⟩ := ltt_some hF
                  refine lv_topi (fun zx44 ezx44 => ?_)
                  obtain rfl : x44 = zx44 := ex44.trans ezx44.symm
                  obtain rfl := Option.some.inj hF
                  exact J41 _ _ _ hP hD hS (lv_sub hl [0, 1, 2, 3, 4] rfl)
                · rw [if_neg c43] at hF
                  refine lv_iconst (v := (0 : Int32)) hx hb dX10_cut_119 (by decide) ?_
                  refine lv_goto (tgt := 128) hx hb dX10_cut_120 (by decide) ?_
                  obtain rfl := Option.some.inj hF
                  exact J41 _ _ _ hP hD hS (lv_sub hl [0, 1, 2, 3, 4] rfl)
              clear hF
              have hF := hy39
              clear hy39
              refine lv_icmp_ge (tgt := 107) hx hb dX10_cut_100 (by decide) (fun c45 => ?_) (fun c45 => ?_)
              · rw [if_pos c45] at hF
                refine lv_iconst (v := (4 : Int32)) hx hb dX10_cut_107 (by decide) ?_
                obtain rfl := Option.some.inj hF
                exact J39 _ _ _ hP hD hS (lv_sub hl [0, 1, 2, 3, 4] rfl)
              · rw [if_neg c45] at hF
                refine lv_iconst (v := (0 : Int32)) hx hb dX10_cut_103 (by decide) ?_
                refine lv_goto (tgt := 108) hx hb dX10_cut_104 (by decide) ?_
                obtain rfl := Option.some.inj hF
                exact J39 _ _ _ hP hD hS (lv_sub hl [0, 1, 2, 3, 4] rfl)
            clear hF
            have hF := hy37
            clear hy37
            refine lv_icmp_ge (tgt := 90) hx hb dX10_cut_82 (by decide) (fun c46 => ?_) (fun c46 => ?_)
            · rw [if_pos c46] at hF
              refine lv_bipush (v := (14 : Int32)) hx hb dX10_cut_90 (by decide) ?_
              obtain rfl := Option.some.inj hF
              exact J37 _ _ _ hP hD hS (lv_sub hl [0, 1, 2, 3, 4] rfl)
            · rw [if_neg c46] at hF
              refine lv_iload hx hb dX10_cut_85 (lv_at hl 0 rfl) ?_
              refine lv_goto (tgt := 92) hx hb dX10_cut_87 (by decide) ?_
              obtain rfl := Option.some.inj hF
              exact J37 _ _ _ hP hD hS (lv_sub hl [0, 1, 2, 3, 4] rfl)
      clear hF
      have hF := hy6
      clear hy6
      refine lv_if_ne (tgt := 58) hx hb dX10_cut_50 (by decide) (fun c47 => ?_) (fun c47 => ?_)
      · rw [if_neg c47] at hF
        refine lv_bipush (v := (15 : Int32)) hx hb dX10_cut_58 (by decide) ?_
        refine lv_iload_n hx hb dX10_cut_60 rfl (lv_at hl 2 rfl) ?_
        refine lv_ishl hx hb dX10_cut_61 ?_
        obtain ⟨x48, ex48, hF⟩ := ltt_some hF
        refine lv_topi (fun zx48 ezx48 => ?_)
        obtain rfl : x48 = zx48 := ex48.trans ezx48.symm
        obtain rfl := Option.some.inj hF
        exact J6 _ _ _ hP hD hS (lv_sub hl [0, 1, 2, 3, 4] rfl)
      · rw [if_pos c47] at hF
        refine lv_bipush (v := (30 : Int32)) hx hb dX10_cut_53 (by decide) ?_
        refine lv_goto (tgt := 62) hx hb dX10_cut_55 (by decide) ?_
        obtain rfl := Option.some.inj hF
        exact J6 _ _ _ hP hD hS (lv_sub hl [0, 1, 2, 3, 4] rfl)
    clear hF
    have hF := hy2
    clear hy2
    refine lv_if_eq (tgt := 30) hx hb dX10_cut_23 (by decide) (fun c49 => ?_) (fun c49 => ?_)
    · rw [if_pos c49] at hF
      refine lv_iconst (v := (0 : Int32)) hx hb dX10_cut_30 (by decide) ?_
      obtain rfl := Option.some.inj hF
      exact J2 _ _ _ hP hD hS (lv_sub hl [0, 1, 2, 3, 4] rfl)
    · rw [if_neg c49] at hF
      refine lv_iconst (v := (2 : Int32)) hx hb dX10_cut_26 (by decide) ?_
      refine lv_goto (tgt := 31) hx hb dX10_cut_27 (by decide) ?_
      obtain rfl := Option.some.inj hF
      exact J2 _ _ _ hP hD hS (lv_sub hl [0, 1, 2, 3, 4] rfl)
  clear hF
  have hF := hy1
  clear hy1
  refine lv_if_le (tgt := 12) hx hb dX10_cut_1 (by decide) (fun c50 => ?_) (fun c50 => ?_)
  · rw [if_pos c50] at hF
    refine lv_bipush (v := (-2 : Int32)) hx hb dX10_cut_12 (by decide) ?_
    refine lv_iload_n hx hb dX10_cut_14 rfl (lv_at hl 2 rfl) ?_
    refine lv_imul hx hb dX10_cut_15 ?_
    obtain ⟨x51, ex51, hF⟩ := ltt_some hF
    refine lv_topi (fun zx51 ezx51 => ?_)
    obtain rfl : x51 = zx51 := ex51.trans ezx51.symm
    refine lv_iconst (v := (1 : Int32)) hx hb dX10_cut_16 (by decide) ?_
    refine lv_isub hx hb dX10_cut_17 ?_
    obtain ⟨x52, ex52, hF⟩ := ltt_some hF
    refine lv_topi (fun zx52 ezx52 => ?_)
    obtain rfl : x52 = zx52 := ex52.trans ezx52.symm
    obtain rfl := Option.some.inj hF
    exact J1 _ _ _ hP hD hS (lv_sub hl [0, 1, 2, 3] rfl)
  · rw [if_neg c50] at hF
    refine lv_iconst (v := (2 : Int32)) hx hb dX10_cut_4 (by decide) ?_
    refine lv_iload_n hx hb dX10_cut_5 rfl (lv_at hl 2 rfl) ?_
    refine lv_imul hx hb dX10_cut_6 ?_
    obtain ⟨x53, ex53, hF⟩ := ltt_some hF
    refine lv_topi (fun zx53 ezx53 => ?_)
    obtain rfl : x53 = zx53 := ex53.trans ezx53.symm
    refine lv_iconst (v := (2 : Int32)) hx hb dX10_cut_7 (by decide) ?_
    refine lv_isub hx hb dX10_cut_8 ?_
    obtain ⟨x54, ex54, hF⟩ := ltt_some hF
    refine lv_topi (fun zx54 ezx54 => ?_)
    obtain rfl : x54 = zx54 := ex54.trans ezx54.symm
    refine lv_goto (tgt := 18) hx hb dX10_cut_9 (by decide) ?_
    obtain rfl := Option.some.inj hF
    exact J1 _ _ _ hP hD hS (lv_sub hl [0, 1, 2, 3] rfl)
