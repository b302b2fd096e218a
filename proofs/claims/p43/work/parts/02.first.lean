abbrev classes : List vw_C := [(RX10, TX10, 20), (RX4, TX4, 18), (RX3, TX3, 4), (RX5, TX5, 17)]
theorem dX10_beginArith_0 : decode cX10_beginArith 0 = .ok (.aload_n 0, 1) := by decide +kernel
theorem dX10_beginArith_1 : decode cX10_beginArith 1 = .ok (.iconst 0, 1) := by decide +kernel
theorem dX10_beginArith_2 : decode cX10_beginArith 2 = .ok (.putfield 78, 3) := by decide +kernel
theorem dX10_beginArith_5 : decode cX10_beginArith 5 = .ok (.aload_n 0, 1) := by decide +kernel
theorem dX10_beginArith_6 : decode cX10_beginArith 6 = .ok (.sipush 510, 3) := by decide +kernel
theorem dX10_beginArith_9 : decode cX10_beginArith 9 = .ok (.putfield 75, 3) := by decide +kernel
theorem dX10_beginArith_12 : decode cX10_beginArith 12 = .ok (.aload_n 0, 1) := by decide +kernel
theorem dX10_beginArith_13 : decode cX10_beginArith 13 = .ok (.iconst 0, 1) := by decide +kernel
theorem dX10_beginArith_14 : decode cX10_beginArith 14 = .ok (.putfield 37, 3) := by decide +kernel
theorem dX10_beginArith_17 : decode cX10_beginArith 17 = .ok (.aload_n 0, 1) := by decide +kernel
theorem dX10_beginArith_18 : decode cX10_beginArith 18 = .ok (.iconst 1, 1) := by decide +kernel
theorem dX10_beginArith_19 : decode cX10_beginArith 19 = .ok (.putfield 34, 3) := by decide +kernel
theorem dX10_beginArith_22 : decode cX10_beginArith 22 = .ok (.aload_n 0, 1) := by decide +kernel
theorem dX10_beginArith_23 : decode cX10_beginArith 23 = .ok (.iconst 1, 1) := by decide +kernel
theorem dX10_beginArith_24 : decode cX10_beginArith 24 = .ok (.putfield 30, 3) := by decide +kernel
theorem dX10_beginArith_27 : decode cX10_beginArith 27 = .ok (.return_, 1) := by decide +kernel
theorem dX10_beginUnit_0 : decode cX10_beginUnit 0 = .ok (.aload_n 0, 1) := by decide +kernel
theorem dX10_beginUnit_1 : decode cX10_beginUnit 1 = .ok (.iconst 0, 1) := by decide +kernel
theorem dX10_beginUnit_2 : decode cX10_beginUnit 2 = .ok (.putfield 30, 3) := by decide +kernel
theorem dX10_beginUnit_5 : decode cX10_beginUnit 5 = .ok (.aload_n 0, 1) := by decide +kernel
theorem dX10_beginUnit_6 : decode cX10_beginUnit 6 = .ok (.iconst 0, 1) := by decide +kernel
theorem dX10_beginUnit_7 : decode cX10_beginUnit 7 = .ok (.putfield 34, 3) := by decide +kernel
theorem dX10_beginUnit_10 : decode cX10_beginUnit 10 = .ok (.aload_n 0, 1) := by decide +kernel
theorem dX10_beginUnit_11 : decode cX10_beginUnit 11 = .ok (.iconst 0, 1) := by decide +kernel
theorem dX10_beginUnit_12 : decode cX10_beginUnit 12 = .ok (.putfield 37, 3) := by decide +kernel
theorem dX10_beginUnit_15 : decode cX10_beginUnit 15 = .ok (.aload_n 0, 1) := by decide +kernel
theorem dX10_beginUnit_16 : decode cX10_beginUnit 16 = .ok (.iconst 0, 1) := by decide +kernel
theorem dX10_beginUnit_17 : decode cX10_beginUnit 17 = .ok (.putfield 41, 3) := by decide +kernel
theorem dX10_beginUnit_20 : decode cX10_beginUnit 20 = .ok (.aload_n 0, 1) := by decide +kernel
theorem dX10_beginUnit_21 : decode cX10_beginUnit 21 = .ok (.iconst 0, 1) := by decide +kernel
theorem dX10_beginUnit_22 : decode cX10_beginUnit 22 = .ok (.putfield 44, 3) := by decide +kernel
theorem dX10_beginUnit_25 : decode cX10_beginUnit 25 = .ok (.aload_n 0, 1) := by decide +kernel
theorem dX10_beginUnit_26 : decode cX10_beginUnit 26 = .ok (.iconst 1, 1) := by decide +kernel
theorem dX10_beginUnit_27 : decode cX10_beginUnit 27 = .ok (.putfield 47, 3) := by decide +kernel
theorem dX10_beginUnit_30 : decode cX10_beginUnit 30 = .ok (.aload_n 0, 1) := by decide +kernel
theorem dX10_beginUnit_31 : decode cX10_beginUnit 31 = .ok (.getfield 15, 3) := by decide +kernel
theorem dX10_beginUnit_34 : decode cX10_beginUnit 34 = .ok (.iconst 0, 1) := by decide +kernel
theorem dX10_beginUnit_35 : decode cX10_beginUnit 35 = .ok (.iload_n 1, 1) := by decide +kernel
theorem dX10_beginUnit_36 : decode cX10_beginUnit 36 = .ok (.i2b, 1) := by decide +kernel
theorem dX10_beginUnit_37 : decode cX10_beginUnit 37 = .ok (.bastore, 1) := by decide +kernel
theorem dX10_beginUnit_38 : decode cX10_beginUnit 38 = .ok (.return_, 1) := by decide +kernel
theorem dX4_blocks_0 : decode cX4_blocks 0 = .ok (.aload_n 0, 1) := by decide +kernel
theorem dX4_blocks_1 : decode cX4_blocks 1 = .ok (.getfield 33, 3) := by decide +kernel
theorem dX4_blocks_4 : decode cX4_blocks 4 = .ok (.aload_n 0, 1) := by decide +kernel
theorem dX4_blocks_5 : decode cX4_blocks 5 = .ok (.getfield 36, 3) := by decide +kernel
theorem dX4_blocks_8 : decode cX4_blocks 8 = .ok (.imul, 1) := by decide +kernel
theorem dX4_blocks_9 : decode cX4_blocks 9 = .ok (.ireturn, 1) := by decide +kernel
theorem dX3_isOwn_0 : decode cX3_isOwn 0 = .ok (.aload_n 0, 1) := by decide +kernel
theorem dX3_isOwn_1 : decode cX3_isOwn 1 = .ok (.getfield 7, 3) := by decide +kernel
theorem dX3_isOwn_4 : decode cX3_isOwn 4 = .ok (.bipush 18, 2) := by decide +kernel
theorem dX3_isOwn_6 : decode cX3_isOwn 6 = .ok (.iaload, 1) := by decide +kernel
theorem dX3_isOwn_7 : decode cX3_isOwn 7 = .ok (.iconst 5, 1) := by decide +kernel
theorem dX3_isOwn_8 : decode cX3_isOwn 8 = .ok (.if_icmp .ne 7, 3) := by decide +kernel
theorem dX3_isOwn_11 : decode cX3_isOwn 11 = .ok (.iconst 1, 1) := by decide +kernel
theorem dX3_isOwn_12 : decode cX3_isOwn 12 = .ok (.goto 4, 3) := by decide +kernel
theorem dX3_isOwn_15 : decode cX3_isOwn 15 = .ok (.iconst 0, 1) := by decide +kernel
theorem dX3_isOwn_16 : decode cX3_isOwn 16 = .ok (.ireturn, 1) := by decide +kernel
theorem dX5_more_0 : decode cX5_more 0 = .ok (.aload_n 0, 1) := by decide +kernel
theorem dX5_more_1 : decode cX5_more 1 = .ok (.getfield 57, 3) := by decide +kernel
theorem dX5_more_4 : decode cX5_more 4 = .ok (.aload_n 0, 1) := by decide +kernel
theorem dX5_more_5 : decode cX5_more 5 = .ok (.getfield 54, 3) := by decide +kernel
theorem dX5_more_8 : decode cX5_more 8 = .ok (.if_icmp .ge 7, 3) := by decide +kernel
theorem dX5_more_11 : decode cX5_more 11 = .ok (.iconst 1, 1) := by decide +kernel
theorem dX5_more_12 : decode cX5_more 12 = .ok (.goto 4, 3) := by decide +kernel
theorem dX5_more_15 : decode cX5_more 15 = .ok (.iconst 0, 1) := by decide +kernel
theorem dX5_more_16 : decode cX5_more 16 = .ok (.ireturn, 1) := by decide +kernel
set_option maxHeartbeats 4000000 in
set_option maxRecDepth 100000 in
theorem kX10_beginArith (l : Launch) (dC : Nat → ClassId) (dI : Nat → Nat → Nat) (h0 w_made w_unit w_state w_size w_before : Nat) (w_length w_units w_run w_unitSize w_held w_heldBits w_arith w_low w_range w_owed w_isFirst w_zeros w_prefix w_suffix w_suffixBits : Int32)  (sz : Nat) : Met l yX10_beginArith wsX10_beginArith ({ frames := 0, cells := 0, slots := 0, locals := 0 }) (va_Pc [.ref h0] (fun U => U.heap.size = sz ∧ va_P (dC, dI) classes [(h0, .inr (0, [.ref w_made, .int w_length, .int w_units, .int w_run, .ref w_unit, .int w_unitSize, .int w_held, .int w_heldBits, .int w_arith, .int w_low, .int w_range, .int w_owed, .int w_isFirst, .ref w_state, .ref w_size, .ref w_before, .int w_zeros, .int w_prefix, .int w_suffix, .int w_suffixBits]))] U.heap ∧ va_K (dC, dI) classes [] U ∧ va_D (fun _ => True) [(h0, .inr (0, [.ref w_made, .int w_length, .int w_units, .int w_run, .ref w_unit, .int w_unitSize, .int w_held, .int w_heldBits, .int w_arith, .int w_low, .int w_range, .int w_owed, .int w_isFirst, .ref w_state, .ref w_size, .ref w_before, .int w_zeros, .int w_prefix, .int w_suffix, .int w_suffixBits]))])) (va_Qv (fun (u : Unit) => match u with | () => True) (fun (u : Unit) t => match u with | () => va_P (dC, dI) classes [(h0, .inr (0, [.ref w_made, .int w_length, .int w_units, .int w_run, .ref w_unit, .int w_unitSize, .int w_held, .int w_heldBits, .int (1), .int (0), .int (510), .int (0), .int (1), .ref w_state, .ref w_size, .ref w_before, .int w_zeros, .int w_prefix, .int w_suffix, .int w_suffixBits]))] t.heap ∧ va_K (dC, dI) classes [] t ∧ va_D (va_A [(h0, .inr (0, [.ref w_made, .int w_length, .int w_units, .int w_run, .ref w_unit, .int w_unitSize, .int w_held, .int w_heldBits, .int w_arith, .int w_low, .int w_range, .int w_owed, .int w_isFirst, .ref w_state, .ref w_size, .ref w_before, .int w_zeros, .int w_prefix, .int w_suffix, .int w_suffixBits]))] sz) [(h0, .inr (0, [.ref w_made, .int w_length, .int w_units, .int w_run, .ref w_unit, .int w_unitSize, .int w_held, .int w_heldBits, .int (1), .int (0), .int (510), .int (0), .int (1), .ref w_state, .ref w_size, .ref w_before, .int w_zeros, .int w_prefix, .int w_suffix, .int w_suffixBits]))]) (va_A [(h0, .inr (0, [.ref w_made, .int w_length, .int w_units, .int w_run, .ref w_unit, .int w_unitSize, .int w_held, .int w_heldBits, .int w_arith, .int w_low, .int w_range, .int w_owed, .int w_isFirst, .ref w_state, .ref w_size, .ref w_before, .int w_zeros, .int w_prefix, .int w_suffix, .int w_suffixBits]))] sz)) 0 0 (va_A [(h0, .inr (0, [.ref w_made, .int w_length, .int w_units, .int w_run, .ref w_unit, .int w_unitSize, .int w_held, .int w_heldBits, .int w_arith, .int w_low, .int w_range, .int w_owed, .int w_isFirst, .ref w_state, .ref w_size, .ref w_before, .int w_zeros, .int w_prefix, .int w_suffix, .int w_suffixBits]))] sz) := by
  refine Met.ofW (cc := cX10_beginArith) (maxL := 1) (ret := none) (by decide) rfl ?_
  intro p e s m args below meth c s₁ B hml hv
  obtain ⟨rfl, hsz, hP, hK, hD0⟩ := hv
  have hx := B.exec
  have hb := B.bytes
  have hr := B.returns
  have hts := atoms_spec (ws := wsX10_beginArith) B.pre
  have hown : s.vm.findClass RX10 = some m.cls := findClass_of_methodNamed B.named
  have hlocks := B.notSynchronized
  subst hsz
  have hD := hD0.self (sz := s.heap.size)
  generalize hAe : va_A [(h0, .inr (0, [.ref w_made, .int w_length, .int w_units, .int w_run, .ref w_unit, .int w_unitSize, .int w_held, .int w_heldBits, .int w_arith, .int w_low, .int w_range, .int w_owed, .int w_isFirst, .ref w_state, .ref w_size, .ref w_before, .int w_zeros, .int w_prefix, .int w_suffix, .int w_suffixBits]))] s.heap.size = A at hD ⊢
  have hA : ∀ q : Nat, s.heap.size ≤ q → A q := fun q h => by rw [← hAe]; exact Or.inr h
  have hS : va_S A s.heap s.heap [] := va_S.rf
  have hP : va_P (dC, dI) classes [(h0, .inr (0, [.ref w_made, .int w_length, .int w_units, .int w_run, .ref w_unit, .int w_unitSize, .int w_held, .int w_heldBits, .int w_arith, .int w_low, .int w_range, .int w_owed, .int w_isFirst, .ref w_state, .ref w_size, .ref w_before, .int w_zeros, .int w_prefix, .int w_suffix, .int w_suffixBits]))] s.heap := hP
  have hl := lv_entry ([.ref h0]) (n := 1) (Nat.le_of_ble_eq_true rfl)
  rw [lg_entry_eq]
  generalize (lg_sl ([.ref h0]) ++ List.replicate (1 - (lg_sl ([.ref h0])).length) Slot.unset).toArray = ls at hl ⊢
  have hl : lv_has ls 1 [(0, .ref h0)] := hl
  refine lv_aload_n hx hb dX10_beginArith_0 rfl (lv_at hl 0 rfl) ?_
  refine lv_iconst (v := (0 : Int32)) hx hb dX10_beginArith_1 (by decide) ?_
  refine va_put (D := (dC, dI)) (ci := 0) (v := .int (0 : Int32)) (ty := .int) (C := RX10) (T := TX10) (N := 20) hx hb hts (by decide +kernel) tyX10 tyX10_ok nmX10 hown hK hP hD hS 0 rfl rfl 9 (by decide) (hts (.fieldLink RX10 78 "VideoSuite$Writer" "low" "I") (by decide +kernel)) (fun _ h9 => h9) rfl (by decide +kernel) rfl rfl (Nat.le_of_ble_eq_true rfl) dX10_beginArith_2 (fun H locs hP hD hS => ?_)
  have hP : va_P (dC, dI) classes [(h0, .inr (0, [.ref w_made, .int w_length, .int w_units, .int w_run, .ref w_unit, .int w_unitSize, .int w_held, .int w_heldBits, .int w_arith, .int (0 : Int32), .int w_range, .int w_owed, .int w_isFirst, .ref w_state, .ref w_size, .ref w_before, .int w_zeros, .int w_prefix, .int w_suffix, .int w_suffixBits]))] H := hP
  have hD : va_D A [(h0, .inr (0, [.ref w_made, .int w_length, .int w_units, .int w_run, .ref w_unit, .int w_unitSize, .int w_held, .int w_heldBits, .int w_arith, .int (0 : Int32), .int w_range, .int w_owed, .int w_isFirst, .ref w_state, .ref w_size, .ref w_before, .int w_zeros, .int w_prefix, .int w_suffix, .int w_suffixBits]))] := hD
  refine lv_aload_n hx hb dX10_beginArith_5 rfl (lv_at hl 0 rfl) ?_
  refine lv_sipush (v := (510 : Int32)) hx hb dX10_beginArith_6 (by decide) ?_
  refine va_put (D := (dC, dI)) (ci := 0) (v := .int (510 : Int32)) (ty := .int) (C := RX10) (T := TX10) (N := 20) hx hb hts (by decide +kernel) tyX10 tyX10_ok nmX10 hown hK hP hD hS 0 rfl rfl 10 (by decide) (hts (.fieldLink RX10 75 "VideoSuite$Writer" "range" "I") (by decide +kernel)) (fun _ h9 => h9) rfl (by decide +kernel) rfl rfl (Nat.le_of_ble_eq_true rfl) dX10_beginArith_9 (fun H locs hP hD hS => ?_)
  have hP : va_P (dC, dI) classes [(h0, .inr (0, [.ref w_made, .int w_length, .int w_units, .int w_run, .ref w_unit, .int w_unitSize, .int w_held, .int w_heldBits, .int w_arith, .int (0 : Int32), .int (510 : Int32), .int w_owed, .int w_isFirst, .ref w_state, .ref w_size, .ref w_before, .int w_zeros, .int w_prefix, .int w_suffix, .int w_suffixBits]))] H := hP
  have hD : va_D A [(h0, .inr (0, [.ref w_made, .int w_length, .int w_units, .int w_run, .ref w_unit, .int w_unitSize, .int w_held, .int w_heldBits, .int w_arith, .int (0 : Int32), .int (510 : Int32), .int w_owed, .int w_isFirst, .ref w_state, .ref w_size, .ref w_before, .int w_zeros, .int w_prefix, .int w_suffix, .int w_suffixBits]))] := hD
  refine lv_aload_n hx hb dX10_beginArith_12 rfl (lv_at hl 0 rfl) ?_
  refine lv_iconst (v := (0 : Int32)) hx hb dX10_beginArith_13 (by decide) ?_
  refine va_put (D := (dC, dI)) (ci := 0) (v := .int (0 : Int32)) (ty := .int) (C := RX10) (T := TX10) (N := 20) hx hb hts (by decide +kernel) tyX10 tyX10_ok nmX10 hown hK hP hD hS 0 rfl rfl 11 (by decide) (hts (.fieldLink RX10 37 "VideoSuite$Writer" "owed" "I") (by decide +kernel)) (fun _ h9 => h9) rfl (by decide +kernel) rfl rfl (Nat.le_of_ble_eq_true rfl) dX10_beginArith_14 (fun H locs hP hD hS => ?_)
  have hP : va_P (dC, dI) classes [(h0, .inr (0, [.ref w_made, .int w_length, .int w_units, .int w_run, .ref w_unit, .int w_unitSize, .int w_held, .int w_heldBits, .int w_arith, .int (0 : Int32), .int (510 : Int32), .int (0 : Int32), .int w_isFirst, .ref w_state, .ref w_size, .ref w_before, .int w_zeros, .int w_prefix, .int w_suffix, .int w_suffixBits]))] H := hP
  have hD : va_D A [(h0, .inr (0, [.ref w_made, .int w_length, .int w_units, .int w_run, .ref w_unit, .int w_unitSize, .int w_held, .int w_heldBits, .int w_arith, .int (0 : Int32), .int (510 : Int32), .int (0 : Int32), .int w_isFirst, .ref w_state, .ref w_size, .ref w_before, .int w_zeros, .int w_prefix, .int w_suffix, .int w_suffixBits]))] := hD
  refine lv_aload_n hx hb dX10_beginArith_17 rfl (lv_at hl 0 rfl) ?_
  refine lv_iconst (v := (1 : Int32)) hx hb dX10_beginArith_18 (by decide) ?_
  refine va_put (D := (dC, dI)) (ci := 0) (v := .int (1 : Int32)) (ty := .boolean) (C := RX10) (T := TX10) (N := 20) hx hb hts (by decide +kernel) tyX10 tyX10_ok nmX10 hown hK hP hD hS 0 rfl rfl 12 (by decide) (hts (.fieldLink RX10 34 "VideoSuite$Writer" "isFirst" "Z") (by decide +kernel)) (fun _ h9 => h9) rfl (by decide +kernel) (by decide +kernel) (by decide +kernel) (Nat.le_of_ble_eq_true rfl) dX10_beginArith_19 (fun H locs hP hD hS => ?_)
  have hP : va_P (dC, dI) classes [(h0, .inr (0, [.ref w_made, .int w_length, .int w_units, .int w_run, .ref w_unit, .int w_unitSize, .int w_held, .int w_heldBits, .int w_arith, .int (0 : Int32), .int (510 : Int32), .int (0 : Int32), .int (1 : Int32), .ref w_state, .ref w_size, .ref w_before, .int w_zeros, .int w_prefix, .int w_suffix, .int w_suffixBits]))] H := hP
  have hD : va_D A [(h0, .inr (0, [.ref w_made, .int w_length, .int w_units, .int w_run, .ref w_unit, .int w_unitSize, .int w_held, .int w_heldBits, .int w_arith, .int (0 : Int32), .int (510 : Int32), .int (0 : Int32), .int (1 : Int32), .ref w_state, .ref w_size, .ref w_before, .int w_zeros, .int w_prefix, .int w_suffix, .int w_suffixBits]))] := hD
  refine lv_aload_n hx hb dX10_beginArith_22 rfl (lv_at hl 0 rfl) ?_
  refine lv_iconst (v := (1 : Int32)) hx hb dX10_beginArith_23 (by decide) ?_
  refine va_put (D := (dC, dI)) (ci := 0) (v := .int (1 : Int32)) (ty := .boolean) (C := RX10) (T := TX10) (N := 20) hx hb hts (by decide +kernel) tyX10 tyX10_ok nmX10 hown hK hP hD hS 0 rfl rfl 8 (by decide) (hts (.fieldLink RX10 30 "VideoSuite$Writer" "arith" "Z") (by decide +kernel)) (fun _ h9 => h9) rfl (by decide +kernel) (by decide +kernel) (by decide +kernel) (Nat.le_of_ble_eq_true rfl) dX10_beginArith_24 (fun H locs hP hD hS => ?_)
  have hP : va_P (dC, dI) classes [(h0, .inr (0, [.ref w_made, .int w_length, .int w_units, .int w_run, .ref w_unit, .int w_unitSize, .int w_held, .int w_heldBits, .int (1 : Int32), .int (0 : Int32), .int (510 : Int32), .int (0 : Int32), .int (1 : Int32), .ref w_state, .ref w_size, .ref w_before, .int w_zeros, .int w_prefix, .int w_suffix, .int w_suffixBits]))] H := hP
  have hD : va_D A [(h0, .inr (0, [.ref w_made, .int w_length, .int w_units, .int w_run, .ref w_unit, .int w_unitSize, .int w_held, .int w_heldBits, .int (1 : Int32), .int (0 : Int32), .int (510 : Int32), .int (0 : Int32), .int (1 : Int32), .ref w_state, .ref w_size, .ref w_before, .int w_zeros, .int w_prefix, .int w_suffix, .int w_suffixBits]))] := hD
  have hP9 := hP.sub (ws' := [(h0, .inr (0, [.ref w_made, .int w_length, .int w_units, .int w_run, .ref w_unit, .int w_unitSize, .int w_held, .int w_heldBits, .int (1 : Int32), .int (0 : Int32), .int (510 : Int32), .int (0 : Int32), .int (1 : Int32), .ref w_state, .ref w_size, .ref w_before, .int w_zeros, .int w_prefix, .int w_suffix, .int w_suffixBits]))]) [0] rfl
  have hD9 := hD.sub (ws' := [(h0, .inr (0, [.ref w_made, .int w_length, .int w_units, .int w_run, .ref w_unit, .int w_unitSize, .int w_held, .int w_heldBits, .int (1 : Int32), .int (0 : Int32), .int (510 : Int32), .int (0 : Int32), .int (1 : Int32), .ref w_state, .ref w_size, .ref w_before, .int w_zeros, .int w_prefix, .int w_suffix, .int w_suffixBits]))]) [0] (by decide) rfl
  have hK9 := hK.sub (tys' := []) [] rfl
  exact W.vret hx hb hr (fun t ht hW => ⟨⟨(), rfl, trivial, ⟨by rw [ht]; exact hP9, va_K.moved hW.alike hK9, hD9⟩⟩, hS.F ht⟩) hS.2.2 dX10_beginArith_27
set_option maxHeartbeats 4000000 in
set_option maxRecDepth 100000 in
theorem kX10_beginUnit (l : Launch) (dC : Nat → ClassId) (dI : Nat → Nat → Nat) (h0 w_made w_unit w_state w_size w_before n_unit : Nat) (w_length w_units w_run w_unitSize w_held w_heldBits w_arith w_low w_range w_owed w_isFirst w_zeros w_prefix w_suffix w_suffixBits fi : Int32) (a_unit : Nat → Int32) (c_byte : ClassId) (hn : 0 < n_unit ∧ n_unit < 2 ^ 31) (sz : Nat) : Met l yX10_beginUnit wsX10_beginUnit ({ frames := 0, cells := 0, slots := 0, locals := 0 }) (va_Pc [.ref h0, .int fi] (fun U => U.heap.size = sz ∧ va_P (dC, dI) classes [(h0, .inr (0, [.ref w_made, .int w_length, .int w_units, .int w_run, .ref w_unit, .int w_unitSize, .int w_held, .int w_heldBits, .int w_arith, .int w_low, .int w_range, .int w_owed, .int w_isFirst, .ref w_state, .ref w_size, .ref w_before, .int w_zeros, .int w_prefix, .int w_suffix, .int w_suffixBits])), (w_unit, .inl (c_byte, n_unit, .inl a_unit))] U.heap ∧ va_K (dC, dI) classes [(c_byte, .byte)] U ∧ va_D (fun _ => True) [(h0, .inr (0, [.ref w_made, .int w_length, .int w_units, .int w_run, .ref w_unit, .int w_unitSize, .int w_held, .int w_heldBits, .int w_arith, .int w_low, .int w_range, .int w_owed, .int w_isFirst, .ref w_state, .ref w_size, .ref w_before, .int w_zeros, .int w_prefix, .int w_suffix, .int w_suffixBits])), (w_unit, .inl (c_byte, n_unit, .inl a_unit))])) (va_Qv (fun (u : Unit) => match u with | () => True) (fun (u : Unit) t => match u with | () => va_P (dC, dI) classes [(h0, .inr (0, [.ref w_made, .int w_length, .int w_units, .int w_run, .ref w_unit, .int (1), .int (0), .int (0), .int (0), .int w_low, .int w_range, .int (0), .int (0), .ref w_state, .ref w_size, .ref w_before, .int w_zeros, .int w_prefix, .int w_suffix, .int w_suffixBits])), (w_unit, .inl (c_byte, n_unit, .inl (upd a_unit 0 (vp_nar .byte fi.toInt8.toInt32))))] t.heap ∧ va_K (dC, dI) classes [(c_byte, .byte)] t ∧ va_D (va_A [(h0, .inr (0, [.ref w_made, .int w_length, .int w_units, .int w_run, .ref w_unit, .int w_unitSize, .int w_held, .int w_heldBits, .int w_arith, .int w_low, .int w_range, .int w_owed, .int w_isFirst, .ref w_state, .ref w_size, .ref w_before, .int w_zeros, .int w_prefix, .int w_suffix, .int w_suffixBits])), (w_unit, .inl (c_byte, n_unit, .inl a_unit))] sz) [(h0, .inr (0, [.ref w_made, .int w_length, .int w_units, .int w_run, .ref w_unit, .int (1), .int (0), .int (0), .int (0), .int w_low, .int w_range, .int (0), .int (0), .ref w_state, .ref w_size, .ref w_before, .int w_zeros, .int w_prefix, .int w_suffix, .int w_suffixBits])), (w_unit, .inl (c_byte, n_unit, .inl (upd a_unit 0 (vp_nar .byte fi.toInt8.toInt32))))]) (va_A [(h0, .inr (0, [.ref w_made, .int w_length, .int w_units, .int w_run, .ref w_unit, .int w_unitSize, .int w_held, .int w_heldBits, .int w_arith, .int w_low, .int w_range, .int w_owed, .int w_isFirst, .ref w_state, .ref w_size, .ref w_before, .int w_zeros, .int w_prefix, .int w_suffix, .int w_suffixBits])), (w_unit, .inl (c_byte, n_unit, .inl a_unit))] sz)) 0 0 (va_A [(h0, .inr (0, [.ref w_made, .int w_length, .int w_units, .int w_run, .ref w_unit, .int w_unitSize, .int w_held, .int w_heldBits, .int w_arith, .int w_low, .int w_range, .int w_owed, .int w_isFirst, .ref w_state, .ref w_size, .ref w_before, .int w_zeros, .int w_prefix, .int w_suffix, .int w_suffixBits])), (w_unit, .inl (c_byte, n_unit, .inl a_unit))] sz) := by
  refine Met.ofW (cc := cX10_beginUnit) (maxL := 2) (ret := none) (by decide) rfl ?_
  intro p e s m args below meth c s₁ B hml hv
  obtain ⟨rfl, hsz, hP, hK, hD0⟩ := hv
  have hx := B.exec
  have hb := B.bytes
  have hr := B.returns
  have hts := atoms_spec (ws := wsX10_beginUnit) B.pre
  have hown : s.vm.findClass RX10 = some m.cls := findClass_of_methodNamed B.named
  have hlocks := B.notSynchronized
  subst hsz
  have hD := hD0.self (sz := s.heap.size)
  generalize hAe : va_A [(h0, .inr (0, [.ref w_made, .int w_length, .int w_units, .int w_run, .ref w_unit, .int w_unitSize, .int w_held, .int w_heldBits, .int w_arith, .int w_low, .int w_range, .int w_owed, .int w_isFirst, .ref w_state, .ref w_size, .ref w_before, .int w_zeros, .int w_prefix, .int w_suffix, .int w_suffixBits])), (w_unit, .inl (c_byte, n_unit, .inl a_unit))] s.heap.size = A at hD ⊢
  have hA : ∀ q : Nat, s.heap.size ≤ q → A q := fun q h => by rw [← hAe]; exact Or.inr h
  have hS : va_S A s.heap s.heap [] := va_S.rf
  have hP : va_P (dC, dI) classes [(h0, .inr (0, [.ref w_made, .int w_length, .int w_units, .int w_run, .ref w_unit, .int w_unitSize, .int w_held, .int w_heldBits, .int w_arith, .int w_low, .int w_range, .int w_owed, .int w_isFirst, .ref w_state, .ref w_size, .ref w_before, .int w_zeros, .int w_prefix, .int w_suffix, .int w_suffixBits])), (w_unit, .inl (c_byte, n_unit, .inl a_unit))] s.heap := hP
  have hl := lv_entry ([.ref h0, .int fi]) (n := 2) (Nat.le_of_ble_eq_true rfl)
  rw [lg_entry_eq]
  generalize (lg_sl ([.ref h0, .int fi]) ++ List.replicate (2 - (lg_sl ([.ref h0, .int fi])).length) Slot.unset).toArray = ls at hl ⊢
  have hl : lv_has ls 2 [(0, .ref h0), (1, .int fi)] := hl
  refine lv_aload_n hx hb dX10_beginUnit_0 rfl (lv_at hl 0 rfl) ?_
  refine lv_iconst (v := (0 : Int32)) hx hb dX10_beginUnit_1 (by decide) ?_
  refine va_put (D := (dC, dI)) (ci := 0) (v := .int (0 : Int32)) (ty := .boolean) (C := RX10) (T := TX10) (N := 20) hx hb hts (by decide +kernel) tyX10 tyX10_ok nmX10 hown hK hP hD hS 0 rfl rfl 8 (by decide) (hts (.fieldLink RX10 30 "VideoSuite$Writer" "arith" "Z") (by decide +kernel)) (fun _ h9 => h9) rfl (by decide +kernel) (by decide +kernel) (by decide +kernel) (Nat.le_of_ble_eq_true rfl) dX10_beginUnit_2 (fun H locs hP hD hS => ?_)
  have hP : va_P (dC, dI) classes [(h0, .inr (0, [.ref w_made, .int w_length, .int w_units, .int w_run, .ref w_unit, .int w_unitSize, .int w_held, .int w_heldBits, .int (0 : Int32), .int w_low, .int w_range, .int w_owed, .int w_isFirst, .ref w_state, .ref w_size, .ref w_before, .int w_zeros, .int w_prefix, .int w_suffix, .int w_suffixBits])), (w_unit, .inl (c_byte, n_unit, .inl a_unit))] H := hP
  have hD : va_D A [(h0, .inr (0, [.ref w_made, .int w_length, .int w_units, .int w_run, .ref w_unit, .int w_unitSize, .int w_held, .int w_heldBits, .int (0 : Int32), .int w_low, .int w_range, .int w_owed, .int w_isFirst, .ref w_state, .ref w_size, .ref w_before, .int w_zeros, .int w_prefix, .int w_suffix, .int w_suffixBits])), (w_unit, .inl (c_byte, n_unit, .inl a_unit))] := hD
  refine lv_aload_n hx hb dX10_beginUnit_5 rfl (lv_at hl 0 rfl) ?_
  refine lv_iconst (v := (0 : Int32)) hx hb dX10_beginUnit_6 (by decide) ?_
  refine va_put (D := (dC, dI)) (ci := 0) (v := .int (0 : Int32)) (ty := .boolean) (C := RX10) (T := TX10) (N := 20) hx hb hts (by decide +kernel) tyX10 tyX10_ok nmX10 hown hK hP hD hS 0 rfl rfl 12 (by decide) (hts (.fieldLink RX10 34 "VideoSuite$Writer" "isFirst" "Z") (by decide +kernel)) (fun _ h9 => h9) rfl (by decide +kernel) (by decide +kernel) (by decide +kernel) (Nat.le_of_ble_eq_true rfl) dX10_beginUnit_7 (fun H locs hP hD hS => ?_)
  have hP : va_P (dC, dI) classes [(h0, .inr (0, [.ref w_made, .int w_length, .int w_units, .int w_run, .ref w_unit, .int w_unitSize, .int w_held, .int w_heldBits, .int (0 : Int32), .int w_low, .int w_range, .int w_owed, .int (0 : Int32), .ref w_state, .ref w_size, .ref w_before, .int w_zeros, .int w_prefix, .int w_suffix, .int w_suffixBits])), (w_unit, .inl (c_byte, n_unit, .inl a_unit))] H := hP
  have hD : va_D A [(h0, .inr (0, [.ref w_made, .int w_length, .int w_units, .int w_run, .ref w_unit, .int w_unitSize, .int w_held, .int w_heldBits, .int (0 : Int32), .int w_low, .int w_range, .int w_owed, .int (0 : Int32), .ref w_state, .ref w_size, .ref w_before, .int w_zeros, .int w_prefix, .int w_suffix, .int w_suffixBits])), (w_unit, .inl (c_byte, n_unit, .inl a_unit))] := hD
  refine lv_aload_n hx hb dX10_beginUnit_10 rfl (lv_at hl 0 rfl) ?_
  refine lv_iconst (v := (0 : Int32)) hx hb dX10_beginUnit_11 (by decide) ?_
  refine va_put (D := (dC, dI)) (ci := 0) (v := .int (0 : Int32)) (ty := .int) (C := RX10) (T := TX10) (N := 20) hx hb hts (by decide +kernel) tyX10 tyX10_ok nmX10 hown hK hP hD hS 0 rfl rfl 11 (by decide) (hts (.fieldLink RX10 37 "VideoSuite$Writer" "owed" "I") (by decide +kernel)) (fun _ h9 => h9) rfl (by decide +kernel) rfl rfl (Nat.le_of_ble_eq_true rfl) dX10_beginUnit_12 (fun H locs hP hD hS => ?_)
  have hP : va_P (dC, dI) classes [(h0, .inr (0, [.ref w_made, .int w_length, .int w_units, .int w_run, .ref w_unit, .int w_unitSize, .int w_held, .int w_heldBits, .int (0 : Int32), .int w_low, .int w_range, .int (0 : Int32), .int (0 : Int32), .ref w_state, .ref w_size, .ref w_before, .int w_zeros, .int w_prefix, .int w_suffix, .int w_suffixBits])), (w_unit, .inl (c_byte, n_unit, .inl a_unit))] H := hP
  have hD : va_D A [(h0, .inr (0, [.ref w_made, .int w_length, .int w_units, .int w_run, .ref w_unit, .int w_unitSize, .int w_held, .int w_heldBits, .int (0 : Int32), .int w_low, .int w_range, .int (0 : Int32), .int (0 : Int32), .ref w_state, .ref w_size, .ref w_before, .int w_zeros, .int w_prefix, .int w_suffix, .int w_suffixBits])), (w_unit, .inl (c_byte, n_unit, .inl a_unit))] := hD
  refine lv_aload_n hx hb dX10_beginUnit_15 rfl (lv_at hl 0 rfl) ?_
  refine lv_iconst (v := (0 : Int32)) hx hb dX10_beginUnit_16 (by decide) ?_
  refine va_put (D := (dC, dI)) (ci := 0) (v := .int (0 : Int32)) (ty := .int) (C := RX10) (T := TX10) (N := 20) hx hb hts (by decide +kernel) tyX10 tyX10_ok nmX10 hown hK hP hD hS 0 rfl rfl 6 (by decide) (hts (.fieldLink RX10 41 "VideoSuite$Writer" "held" "I") (by decide +kernel)) (fun _ h9 => h9) rfl (by decide +kernel) rfl rfl (Nat.le_of_ble_eq_true rfl) dX10_beginUnit_17 (fun H locs hP hD hS => ?_)
  have hP : va_P (dC, dI) classes [(h0, .inr (0, [.ref w_made, .int w_length, .int w_units, .int w_run, .ref w_unit, .int w_unitSize, .int (0 : Int32), .int w_heldBits, .int (0 : Int32), .int w_low, .int w_range, .int (0 : Int32), .int (0 : Int32), .ref w_state, .ref w_size, .ref w_before, .int w_zeros, .int w_prefix, .int w_suffix, .int w_suffixBits])), (w_unit, .inl (c_byte, n_unit, .inl a_unit))] H := hP
  have hD : va_D A [(h0, .inr (0, [.ref w_made, .int w_length, .int w_units, .int w_run, .ref w_unit, .int w_unitSize, .int (0 : Int32), .int w_heldBits, .int (0 : Int32), .int w_low, .int w_range, .int (0 : Int32), .int (0 : Int32), .ref w_state, .ref w_size, .ref w_before, .int w_zeros, .int w_prefix, .int w_suffix, .int w_suffixBits])), (w_unit, .inl (c_byte, n_unit, .inl a_unit))] := hD
  refine lv_aload_n hx hb dX10_beginUnit_20 rfl (lv_at hl 0 rfl) ?_
  refine lv_iconst (v := (0 : Int32)) hx hb dX10_beginUnit_21 (by decide) ?_
  refine va_put (D := (dC, dI)) (ci := 0) (v := .int (0 : Int32)) (ty := .int) (C := RX10) (T := TX10) (N := 20) hx hb hts (by decide +kernel) tyX10 tyX10_ok nmX10 hown hK hP hD hS 0 rfl rfl 7 (by decide) (hts (.fieldLink RX10 44 "VideoSuite$Writer" "heldBits" "I") (by decide +kernel)) (fun _ h9 => h9) rfl (by decide +kernel) rfl rfl (Nat.le_of_ble_eq_true rfl) dX10_beginUnit_22 (fun H locs hP hD hS => ?_)
  have hP : va_P (dC, dI) classes [(h0, .inr (0, [.ref w_made, .int w_length, .int w_units, .int w_run, .ref w_unit, .int w_unitSize, .int (0 : Int32), .int (0 : Int32), .int (0 : Int32), .int w_low, .int w_range, .int (0 : Int32), .int (0 : Int32), .ref w_state, .ref w_size, .ref w_before, .int w_zeros, .int w_prefix, .int w_suffix, .int w_suffixBits])), (w_unit, .inl (c_byte, n_unit, .inl a_unit))] H := hP
  have hD : va_D A [(h0, .inr (0, [.ref w_made, .int w_length, .int w_units, .int w_run, .ref w_unit, .int w_unitSize, .int (0 : Int32), .int (0 : Int32), .int (0 : Int32), .int w_low, .int w_range, .int (0 : Int32), .int (0 : Int32), .ref w_state, .ref w_size, .ref w_before, .int w_zeros, .int w_prefix, .int w_suffix, .int w_suffixBits])), (w_unit, .inl (c_byte, n_unit, .inl a_unit))] := hD
  refine lv_aload_n hx hb dX10_beginUnit_25 rfl (lv_at hl 0 rfl) ?_
  refine lv_iconst (v := (1 : Int32)) hx hb dX10_beginUnit_26 (by decide) ?_
  refine va_put (D := (dC, dI)) (ci := 0) (v := .int (1 : Int32)) (ty := .int) (C := RX10) (T := TX10) (N := 20) hx hb hts (by decide +kernel) tyX10 tyX10_ok nmX10 hown hK hP hD hS 0 rfl rfl 5 (by decide) (hts (.fieldLink RX10 47 "VideoSuite$Writer" "unitSize" "I") (by decide +kernel)) (fun _ h9 => h9) rfl (by decide +kernel) rfl rfl (Nat.le_of_ble_eq_true rfl) dX10_beginUnit_27 (fun H locs hP hD hS => ?_)
  have hP : va_P (dC, dI) classes [(h0, .inr (0, [.ref w_made, .int w_length, .int w_units, .int w_run, .ref w_unit, .int (1 : Int32), .int (0 : Int32), .int (0 : Int32), .int (0 : Int32), .int w_low, .int w_range, .int (0 : Int32), .int (0 : Int32), .ref w_state, .ref w_size, .ref w_before, .int w_zeros, .int w_prefix, .int w_suffix, .int w_suffixBits])), (w_unit, .inl (c_byte, n_unit, .inl a_unit))] H := hP
  have hD : va_D A [(h0, .inr (0, [.ref w_made, .int w_length, .int w_units, .int w_run, .ref w_unit, .int (1 : Int32), .int (0 : Int32), .int (0 : Int32), .int (0 : Int32), .int w_low, .int w_range, .int (0 : Int32), .int (0 : Int32), .ref w_state, .ref w_size, .ref w_before, .int w_zeros, .int w_prefix, .int w_suffix, .int w_suffixBits])), (w_unit, .inl (c_byte, n_unit, .inl a_unit))] := hD
  refine lv_aload_n hx hb dX10_beginUnit_30 rfl (lv_at hl 0 rfl) ?_
  refine va_get (D := (dC, dI)) (ci := 0) (v := .ref w_unit) (C := RX10) (T := TX10) (N := 20) hx hb hts (by decide +kernel) hown hK hP 0 rfl rfl 4 (by decide) (hts (.fieldLink RX10 15 "VideoSuite$Writer" "unit" "[B") (by decide +kernel)) (fun _ h9 => h9) rfl dX10_beginUnit_31 ?_
  refine lv_iconst (v := (0 : Int32)) hx hb dX10_beginUnit_34 (by decide) ?_
  refine lv_iload_n hx hb dX10_beginUnit_35 rfl (lv_at hl 1 rfl) ?_
  refine lv_i2b hx hb dX10_beginUnit_36 rfl ?_
  refine lv_topi (fun x1 ex1 => ?_)
  have hvc : vp_in (0 : Int32) n_unit := by exact vp_in_nI (n := 0) hn.1 hn.2
  refine va_bast hx hb hK hP hD hS 1 0 rfl rfl hvc dX10_beginUnit_37 (fun H locs hP hD hS => ?_)
  have hP : va_P (dC, dI) classes [(h0, .inr (0, [.ref w_made, .int w_length, .int w_units, .int w_run, .ref w_unit, .int (1 : Int32), .int (0 : Int32), .int (0 : Int32), .int (0 : Int32), .int w_low, .int w_range, .int (0 : Int32), .int (0 : Int32), .ref w_state, .ref w_size, .ref w_before, .int w_zeros, .int w_prefix, .int w_suffix, .int w_suffixBits])), (w_unit, .inl (c_byte, n_unit, .inl (upd a_unit (0 : Int32).toNatClampNeg vp_nar .byte x1)))] H := hP
  have hD : va_D A [(h0, .inr (0, [.ref w_made, .int w_length, .int w_units, .int w_run, .ref w_unit, .int (1 : Int32), .int (0 : Int32), .int (0 : Int32), .int (0 : Int32), .int w_low, .int w_range, .int (0 : Int32), .int (0 : Int32), .ref w_state, .ref w_size, .ref w_before, .int w_zeros, .int w_prefix, .int w_suffix, .int w_suffixBits])), (w_unit, .inl (c_byte, n_unit, .inl (upd a_unit (0 : Int32).toNatClampNeg vp_nar .byte x1)))] := hD
  have hP9 := hP.sub (ws' := [(h0, .inr (0, [.ref w_made, .int w_length, .int w_units, .int w_run, .ref w_unit, .int (1 : Int32), .int (0 : Int32), .int (0 : Int32), .int (0 : Int32), .int w_low, .int w_range, .int (0 : Int32), .int (0 : Int32), .ref w_state, .ref w_size, .ref w_before, .int w_zeros, .int w_prefix, .int w_suffix, .int w_suffixBits])), (w_unit, .inl (c_byte, n_unit, .inl (upd a_unit (0 : Int32).toNatClampNeg vp_nar .byte x1)))]) [0, 1] rfl
  have hD9 := hD.sub (ws' := [(h0, .inr (0, [.ref w_made, .int w_length, .int w_units, .int w_run, .ref w_unit, .int (1 : Int32), .int (0 : Int32), .int (0 : Int32), .int (0 : Int32), .int w_low, .int w_range, .int (0 : Int32), .int (0 : Int32), .ref w_state, .ref w_size, .ref w_before, .int w_zeros, .int w_prefix, .int w_suffix, .int w_suffixBits])), (w_unit, .inl (c_byte, n_unit, .inl (upd a_unit (0 : Int32).toNatClampNeg vp_nar .byte x1)))]) [0, 1] (by decide) rfl
  have hK9 := hK.sub (tys' := [(c_byte, .byte)]) [0] rfl
  exact W.vret hx hb hr (fun t ht hW => ⟨⟨(), rfl, trivial, ⟨by rw [ht]; exact hP9, va_K.moved hW.alike hK9, hD9⟩⟩, hS.F ht⟩) hS.2.2 dX10_beginUnit_38
set_option maxHeartbeats 4000000 in
set_option maxRecDepth 100000 in
theorem kX4_blocks (l : Launch) (dC : Nat → ClassId) (dI : Nat → Nat → Nat) (h0 p_crop p_plane p_reference p_referenceId p_move : Nat) (p_id p_width p_height p_frame p_order p_use p_number p_isWaiting p_isMadeUp p_isTrusted p_sort p_ref p_mended : Int32)  (sz : Nat) : Met l yX4_blocks wsX4_blocks ({ frames := 0, cells := 0, slots := 0, locals := 0 }) (va_Pc [.ref h0] (fun U => U.heap.size = sz ∧ va_P (dC, dI) classes [(h0, .inr (1, [.int p_id, .int p_width, .int p_height, .ref p_crop, .ref p_plane, .ref p_reference, .ref p_referenceId, .ref p_move, .int p_frame, .int p_order, .int p_use, .int p_number, .int p_isWaiting, .int p_isMadeUp, .int p_isTrusted, .int p_sort, .int p_ref, .int p_mended]))] U.heap ∧ va_K (dC, dI) classes [] U ∧ va_D (fun _ => True) [(h0, .inr (1, [.int p_id, .int p_width, .int p_height, .ref p_crop, .ref p_plane, .ref p_reference, .ref p_referenceId, .ref p_move, .int p_frame, .int p_order, .int p_use, .int p_number, .int p_isWaiting, .int p_isMadeUp, .int p_isTrusted, .int p_sort, .int p_ref, .int p_mended]))])) (va_Qi (fun (r : Int32) (u : Unit) => match u with | () => r = p_width * p_height) (fun (u : Unit) t => match u with | () => va_P (dC, dI) classes [(h0, .inr (1, [.int p_id, .int p_width, .int p_height, .ref p_crop, .ref p_plane, .ref p_reference, .ref p_referenceId, .ref p_move, .int p_frame, .int p_order, .int p_use, .int p_number, .int p_isWaiting, .int p_isMadeUp, .int p_isTrusted, .int p_sort, .int p_ref, .int p_mended]))] t.heap ∧ va_K (dC, dI) classes [] t ∧ va_D (va_A [(h0, .inr (1, [.int p_id, .int p_width, .int p_height, .ref p_crop, .ref p_plane, .ref p_reference, .ref p_referenceId, .ref p_move, .int p_frame, .int p_order, .int p_use, .int p_number, .int p_isWaiting, .int p_isMadeUp, .int p_isTrusted, .int p_sort, .int p_ref, .int p_mended]))] sz) [(h0, .inr (1, [.int p_id, .int p_width, .int p_height, .ref p_crop, .ref p_plane, .ref p_reference, .ref p_referenceId, .ref p_move, .int p_frame, .int p_order, .int p_use, .int p_number, .int p_isWaiting, .int p_isMadeUp, .int p_isTrusted, .int p_sort, .int p_ref, .int p_mended]))]) (va_A [(h0, .inr (1, [.int p_id, .int p_width, .int p_height, .ref p_crop, .ref p_plane, .ref p_reference, .ref p_referenceId, .ref p_move, .int p_frame, .int p_order, .int p_use, .int p_number, .int p_isWaiting, .int p_isMadeUp, .int p_isTrusted, .int p_sort, .int p_ref, .int p_mended]))] sz)) 0 0 (va_A [(h0, .inr (1, [.int p_id, .int p_width, .int p_height, .ref p_crop, .ref p_plane, .ref p_reference, .ref p_referenceId, .ref p_move, .int p_frame, .int p_order, .int p_use, .int p_number, .int p_isWaiting, .int p_isMadeUp, .int p_isTrusted, .int p_sort, .int p_ref, .int p_mended]))] sz) := by
  refine Met.ofW (cc := cX4_blocks) (maxL := 1) (ret := (some .int)) (by decide) rfl ?_
  intro p e s m args below meth c s₁ B hml hv
  obtain ⟨rfl, hsz, hP, hK, hD0⟩ := hv
  have hx := B.exec
  have hb := B.bytes
  have hr := B.returns
  have hts := atoms_spec (ws := wsX4_blocks) B.pre
  have hown : s.vm.findClass RX4 = some m.cls := findClass_of_methodNamed B.named
  have hlocks := B.notSynchronized
  subst hsz
  have hD := hD0.self (sz := s.heap.size)
  generalize hAe : va_A [(h0, .inr (1, [.int p_id, .int p_width, .int p_height, .ref p_crop, .ref p_plane, .ref p_reference, .ref p_referenceId, .ref p_move, .int p_frame, .int p_order, .int p_use, .int p_number, .int p_isWaiting, .int p_isMadeUp, .int p_isTrusted, .int p_sort, .int p_ref, .int p_mended]))] s.heap.size = A at hD ⊢
  have hA : ∀ q : Nat, s.heap.size ≤ q → A q := fun q h => by rw [← hAe]; exact Or.inr h
  have hS : va_S A s.heap s.heap [] := va_S.rf
  have hP : va_P (dC, dI) classes [(h0, .inr (1, [.int p_id, .int p_width, .int p_height, .ref p_crop, .ref p_plane, .ref p_reference, .ref p_referenceId, .ref p_move, .int p_frame, .int p_order, .int p_use, .int p_number, .int p_isWaiting, .int p_isMadeUp, .int p_isTrusted, .int p_sort, .int p_ref, .int p_mended]))] s.heap := hP
  have hl := lv_entry ([.ref h0]) (n := 1) (Nat.le_of_ble_eq_true rfl)
  rw [lg_entry_eq]
  generalize (lg_sl ([.ref h0]) ++ List.replicate (1 - (lg_sl ([.ref h0])).length) Slot.unset).toArray = ls at hl ⊢
  have hl : lv_has ls 1 [(0, .ref h0)] := hl
  refine lv_aload_n hx hb dX4_blocks_0 rfl (lv_at hl 0 rfl) ?_
  refine va_get (D := (dC, dI)) (ci := 1) (v := .int p_width) (C := RX4) (T := TX4) (N := 18) hx hb hts (by decide +kernel) hown hK hP 0 rfl rfl 1 (by decide) (hts (.fieldLink RX4 33 "VideoSuite$Picture" "width" "I") (by decide +kernel)) (fun _ h9 => h9) rfl dX4_blocks_1 ?_
  refine lv_aload_n hx hb dX4_blocks_4 rfl (lv_at hl 0 rfl) ?_
  refine va_get (D := (dC, dI)) (ci := 1) (v := .int p_height) (C := RX4) (T := TX4) (N := 18) hx hb hts (by decide +kernel) hown hK hP 0 rfl rfl 2 (by decide) (hts (.fieldLink RX4 36 "VideoSuite$Picture" "height" "I") (by decide +kernel)) (fun _ h9 => h9) rfl dX4_blocks_5 ?_
  refine lv_imul hx hb dX4_blocks_8 ?_
  refine lv_topi (fun x1 ex1 => ?_)
  have hP9 := hP.sub (ws' := [(h0, .inr (1, [.int p_id, .int p_width, .int p_height, .ref p_crop, .ref p_plane, .ref p_reference, .ref p_referenceId, .ref p_move, .int p_frame, .int p_order, .int p_use, .int p_number, .int p_isWaiting, .int p_isMadeUp, .int p_isTrusted, .int p_sort, .int p_ref, .int p_mended]))]) [0] rfl
  have hD9 := hD.sub (ws' := [(h0, .inr (1, [.int p_id, .int p_width, .int p_height, .ref p_crop, .ref p_plane, .ref p_reference, .ref p_referenceId, .ref p_move, .int p_frame, .int p_order, .int p_use, .int p_number, .int p_isWaiting, .int p_isMadeUp, .int p_isTrusted, .int p_sort, .int p_ref, .int p_mended]))]) [0] (by decide) rfl
  have hK9 := hK.sub (tys' := []) [] rfl
  exact W.iret (v := x1) hx hb hr (fun t ht hW => ⟨⟨x1, (), rfl, by rw [ex1], ⟨by rw [ht]; exact hP9, va_K.moved hW.alike hK9, hD9⟩⟩, hS.F ht⟩) hS.2.2 dX4_blocks_9
set_option maxHeartbeats 4000000 in
set_option maxRecDepth 100000 in
theorem kX3_isOwn (l : Launch) (dC : Nat → ClassId) (dI : Nat → Nat → Nat) (h0 p_v p_move p_op p_weight : Nat) (a_v : Nat → Int32) (c_int : ClassId)  (sz : Nat) : Met l yX3_isOwn wsX3_isOwn ({ frames := 0, cells := 0, slots := 0, locals := 0 }) (va_Pc [.ref h0] (fun U => U.heap.size = sz ∧ va_P (dC, dI) classes [(h0, .inr (2, [.ref p_v, .ref p_move, .ref p_op, .ref p_weight])), (p_v, .inl (c_int, 27, .inl a_v))] U.heap ∧ va_K (dC, dI) classes [(c_int, .int)] U ∧ va_D (fun _ => True) [(h0, .inr (2, [.ref p_v, .ref p_move, .ref p_op, .ref p_weight])), (p_v, .inl (c_int, 27, .inl a_v))])) (va_Qi (fun (r : Int32) (u : Unit) => match u with | () => r = if a_v 18 = 5 then 1 else 0) (fun (u : Unit) t => match u with | () => va_P (dC, dI) classes [(h0, .inr (2, [.ref p_v, .ref p_move, .ref p_op, .ref p_weight])), (p_v, .inl (c_int, 27, .inl a_v))] t.heap ∧ va_K (dC, dI) classes [(c_int, .int)] t ∧ va_D (va_A [(h0, .inr (2, [.ref p_v, .ref p_move, .ref p_op, .ref p_weight])), (p_v, .inl (c_int, 27, .inl a_v))] sz) [(h0, .inr (2, [.ref p_v, .ref p_move, .ref p_op, .ref p_weight])), (p_v, .inl (c_int, 27, .inl a_v))]) (va_A [(h0, .inr (2, [.ref p_v, .ref p_move, .ref p_op, .ref p_weight])), (p_v, .inl (c_int, 27, .inl a_v))] sz)) 0 0 (va_A [(h0, .inr (2, [.ref p_v, .ref p_move, .ref p_op, .ref p_weight])), (p_v, .inl (c_int, 27, .inl a_v))] sz) := by
  refine Met.ofW (cc := cX3_isOwn) (maxL := 1) (ret := (some .boolean)) (by decide) rfl ?_
  intro p e s m args below meth c s₁ B hml hv
  obtain ⟨rfl, hsz, hP, hK, hD0⟩ := hv
  have hx := B.exec
  have hb := B.bytes
  have hr := B.returns
  have hts := atoms_spec (ws := wsX3_isOwn) B.pre
  have hown : s.vm.findClass RX3 = some m.cls := findClass_of_methodNamed B.named
  have hlocks := B.notSynchronized
  subst hsz
  have hD := hD0.self (sz := s.heap.size)
  generalize hAe : va_A [(h0, .inr (2, [.ref p_v, .ref p_move, .ref p_op, .ref p_weight])), (p_v, .inl (c_int, 27, .inl a_v))] s.heap.size = A at hD ⊢
  have hA : ∀ q : Nat, s.heap.size ≤ q → A q := fun q h => by rw [← hAe]; exact Or.inr h
  have hS : va_S A s.heap s.heap [] := va_S.rf
  have hP : va_P (dC, dI) classes [(h0, .inr (2, [.ref p_v, .ref p_move, .ref p_op, .ref p_weight])), (p_v, .inl (c_int, 27, .inl a_v))] s.heap := hP
  have hl := lv_entry ([.ref h0]) (n := 1) (Nat.le_of_ble_eq_true rfl)
  rw [lg_entry_eq]
  generalize (lg_sl ([.ref h0]) ++ List.replicate (1 - (lg_sl ([.ref h0])).length) Slot.unset).toArray = ls at hl ⊢
  have hl : lv_has ls 1 [(0, .ref h0)] := hl
  refine lv_aload_n hx hb dX3_isOwn_0 rfl (lv_at hl 0 rfl) ?_
  refine va_get (D := (dC, dI)) (ci := 2) (v := .ref p_v) (C := RX3) (T := TX3) (N := 4) hx hb hts (by decide +kernel) hown hK hP 0 rfl rfl 0 (by decide) (hts (.fieldLink RX3 7 "VideoSuite$Header" "v" "[I") (by decide +kernel)) (fun _ h9 => h9) rfl dX3_isOwn_1 ?_
  refine lv_bipush (v := (18 : Int32)) hx hb dX3_isOwn_4 (by decide) ?_
  have hvc : vp_in (18 : Int32) 27 := by exact vp_in_nI (n := 18) (by decide) (by decide)
  refine va_iald hx hb hK hP 1 0 rfl rfl hvc dX3_isOwn_6 ?_
  refine lv_topi (fun x1 ex1 => ?_)
  refine lv_iconst (v := (5 : Int32)) hx hb dX3_isOwn_7 (by decide) ?_
  refine lv_icmp_ne (tgt := 15) hx hb dX3_isOwn_8 (by decide) (fun c2 => ?_) (fun c2 => ?_)
  · skip
    refine lv_iconst (v := (0 : Int32)) hx hb dX3_isOwn_15 (by decide) ?_
    have hP9 := hP.sub (ws' := [(h0, .inr (2, [.ref p_v, .ref p_move, .ref p_op, .ref p_weight])), (p_v, .inl (c_int, 27, .inl a_v))]) [0, 1] rfl
    have hD9 := hD.sub (ws' := [(h0, .inr (2, [.ref p_v, .ref p_move, .ref p_op, .ref p_weight])), (p_v, .inl (c_int, 27, .inl a_v))]) [0, 1] (by decide) rfl
    have hK9 := hK.sub (tys' := [(c_int, .int)]) [0] rfl
    exact W.zret (v := (0 : Int32)) (ty := .boolean) hx hb hr (by decide +kernel) (fun t ht hW => ⟨⟨(0 : Int32), (), rfl, by (try subst ex1); first | exact (if_pos (by assumption)).symm | exact (if_neg (by assumption)).symm, ⟨by rw [ht]; exact hP9, va_K.moved hW.alike hK9, hD9⟩⟩, hS.F ht⟩) hS.2.2 dX3_isOwn_16
  · skip
    refine lv_iconst (v := (1 : Int32)) hx hb dX3_isOwn_11 (by decide) ?_
    refine lv_goto (tgt := 16) hx hb dX3_isOwn_12 (by decide) ?_
    have hP9 := hP.sub (ws' := [(h0, .inr (2, [.ref p_v, .ref p_move, .ref p_op, .ref p_weight])), (p_v, .inl (c_int, 27, .inl a_v))]) [0, 1] rfl
    have hD9 := hD.sub (ws' := [(h0, .inr (2, [.ref p_v, .ref p_move, .ref p_op, .ref p_weight])), (p_v, .inl (c_int, 27, .inl a_v))]) [0, 1] (by decide) rfl
    have hK9 := hK.sub (tys' := [(c_int, .int)]) [0] rfl
    exact W.zret (v := (1 : Int32)) (ty := .boolean) hx hb hr (by decide +kernel) (fun t ht hW => ⟨⟨(1 : Int32), (), rfl, by (try subst ex1); first | exact (if_pos (by assumption)).symm | exact (if_neg (by assumption)).symm, ⟨by rw [ht]; exact hP9, va_K.moved hW.alike hK9, hD9⟩⟩, hS.F ht⟩) hS.2.2 dX3_isOwn_16
set_option maxHeartbeats 4000000 in
set_option maxRecDepth 100000 in
theorem kX5_more (l : Launch) (dC : Nat → ClassId) (dI : Nat → Nat → Nat) (h0 p_data p_state p_element p_tree p_size : Nat) (p_total p_place p_stop p_begin p_lastBegin p_arith p_inData p_range p_offset p_elementCount p_faultKind p_faultPlace : Int32)  (sz : Nat) : Met l yX5_more wsX5_more ({ frames := 0, cells := 0, slots := 0, locals := 0 }) (va_Pc [.ref h0] (fun U => U.heap.size = sz ∧ va_P (dC, dI) classes [(h0, .inr (3, [.ref p_data, .int p_total, .int p_place, .int p_stop, .int p_begin, .int p_lastBegin, .int p_arith, .int p_inData, .int p_range, .int p_offset, .ref p_state, .ref p_element, .int p_elementCount, .ref p_tree, .ref p_size, .int p_faultKind, .int p_faultPlace]))] U.heap ∧ va_K (dC, dI) classes [] U ∧ va_D (fun _ => True) [(h0, .inr (3, [.ref p_data, .int p_total, .int p_place, .int p_stop, .int p_begin, .int p_lastBegin, .int p_arith, .int p_inData, .int p_range, .int p_offset, .ref p_state, .ref p_element, .int p_elementCount, .ref p_tree, .ref p_size, .int p_faultKind, .int p_faultPlace]))])) (va_Qi (fun (r : Int32) (u : Unit) => match u with | () => r = if p_place < p_stop then 1 else 0) (fun (u : Unit) t => match u with | () => va_P (dC, dI) classes [(h0, .inr (3, [.ref p_data, .int p_total, .int p_place, .int p_stop, .int p_begin, .int p_lastBegin, .int p_arith, .int p_inData, .int p_range, .int p_offset, .ref p_state, .ref p_element, .int p_elementCount, .ref p_tree, .ref p_size, .int p_faultKind, .int p_faultPlace]))] t.heap ∧ va_K (dC, dI) classes [] t ∧ va_D (va_A [(h0, .inr (3, [.ref p_data, .int p_total, .int p_place, .int p_stop, .int p_begin, .int p_lastBegin, .int p_arith, .int p_inData, .int p_range, .int p_offset, .ref p_state, .ref p_element, .int p_elementCount, .ref p_tree, .ref p_size, .int p_faultKind, .int p_faultPlace]))] sz) [(h0, .inr (3, [.ref p_data, .int p_total, .int p_place, .int p_stop, .int p_begin, .int p_lastBegin, .int p_arith, .int p_inData, .int p_range, .int p_offset, .ref p_state, .ref p_element, .int p_elementCount, .ref p_tree, .ref p_size, .int p_faultKind, .int p_faultPlace]))]) (va_A [(h0, .inr (3, [.ref p_data, .int p_total, .int p_place, .int p_stop, .int p_begin, .int p_lastBegin, .int p_arith, .int p_inData, .int p_range, .int p_offset, .ref p_state, .ref p_element, .int p_elementCount, .ref p_tree, .ref p_size, .int p_faultKind, .int p_faultPlace]))] sz)) 0 0 (va_A [(h0, .inr (3, [.ref p_data, .int p_total, .int p_place, .int p_stop, .int p_begin, .int p_lastBegin, .int p_arith, .int p_inData, .int p_range, .int p_offset, .ref p_state, .ref p_element, .int p_elementCount, .ref p_tree, .ref p_size, .int p_faultKind, .int p_faultPlace]))] sz) := by
  refine Met.ofW (cc := cX5_more) (maxL := 1) (ret := (some .boolean)) (by decide) rfl ?_
  intro p e s m args below meth c s₁ B hml hv
  obtain ⟨rfl, hsz, hP, hK, hD0⟩ := hv
  have hx := B.exec
  have hb := B.bytes
  have hr := B.returns
  have hts := atoms_spec (ws := wsX5_more) B.pre
  have hown : s.vm.findClass RX5 = some m.cls := findClass_of_methodNamed B.named
  have hlocks := B.notSynchronized
  subst hsz
  have hD := hD0.self (sz := s.heap.size)
  generalize hAe : va_A [(h0, .inr (3, [.ref p_data, .int p_total, .int p_place, .int p_stop, .int p_begin, .int p_lastBegin, .int p_arith, .int p_inData, .int p_range, .int p_offset, .ref p_state, .ref p_element, .int p_elementCount, .ref p_tree, .ref p_size, .int p_faultKind, .int p_faultPlace]))] s.heap.size = A at hD ⊢
  have hA : ∀ q : Nat, s.heap.size ≤ q → A q := fun q h => by rw [← hAe]; exact Or.inr h
  have hS : va_S A s.heap s.heap [] := va_S.rf
  have hP : va_P (dC, dI) classes [(h0, .inr (3, [.ref p_data, .int p_total, .int p_place, .int p_stop, .int p_begin, .int p_lastBegin, .int p_arith, .int p_inData, .int p_range, .int p_offset, .ref p_state, .ref p_element, .int p_elementCount, .ref p_tree, .ref p_size, .int p_faultKind, .int p_faultPlace]))] s.heap := hP
  have hl := lv_entry ([.ref h0]) (n := 1) (Nat.le_of_ble_eq_true rfl)
  rw [lg_entry_eq]
  generalize (lg_sl ([.ref h0]) ++ List.replicate (1 - (lg_sl ([.ref h0])).length) Slot.unset).toArray = ls at hl ⊢
  have hl : lv_has ls 1 [(0, .ref h0)] := hl
  refine lv_aload_n hx hb dX5_more_0 rfl (lv_at hl 0 rfl) ?_
  refine va_get (D := (dC, dI)) (ci := 3) (v := .int p_place) (C := RX5) (T := TX5) (N := 17) hx hb hts (by decide +kernel) hown hK hP 0 rfl rfl 2 (by decide) (hts (.fieldLink RX5 57 "VideoSuite$Reader" "place" "I") (by decide +kernel)) (fun _ h9 => h9) rfl dX5_more_1 ?_
  refine lv_aload_n hx hb dX5_more_4 rfl (lv_at hl 0 rfl) ?_
  refine va_get (D := (dC, dI)) (ci := 3) (v := .int p_stop) (C := RX5) (T := TX5) (N := 17) hx hb hts (by decide +kernel) hown hK hP 0 rfl rfl 3 (by decide) (hts (.fieldLink RX5 54 "VideoSuite$Reader" "stop" "I") (by decide +kernel)) (fun _ h9 => h9) rfl dX5_more_5 ?_
  refine lv_icmp_ge (tgt := 15) hx hb dX5_more_8 (by decide) (fun c1 => ?_) (fun c1 => ?_)
  · skip
    refine lv_iconst (v := (0 : Int32)) hx hb dX5_more_15 (by decide) ?_
    have hP9 := hP.sub (ws' := [(h0, .inr (3, [.ref p_data, .int p_total, .int p_place, .int p_stop, .int p_begin, .int p_lastBegin, .int p_arith, .int p_inData, .int p_range, .int p_offset, .ref p_state, .ref p_element, .int p_elementCount, .ref p_tree, .ref p_size, .int p_faultKind, .int p_faultPlace]))]) [0] rfl
    have hD9 := hD.sub (ws' := [(h0, .inr (3, [.ref p_data, .int p_total, .int p_place, .int p_stop, .int p_begin, .int p_lastBegin, .int p_arith, .int p_inData, .int p_range, .int p_offset, .ref p_state, .ref p_element, .int p_elementCount, .ref p_tree, .ref p_size, .int p_faultKind, .int p_faultPlace]))]) [0] (by decide) rfl
    have hK9 := hK.sub (tys' := []) [] rfl
    exact W.zret (v := (0 : Int32)) (ty := .boolean) hx hb hr (by decide +kernel) (fun t ht hW => ⟨⟨(0 : Int32), (), rfl, by first | exact (if_neg (Int32.not_lt.mpr (by assumption))).symm | exact (if_pos (Int32.not_le.mp (by assumption))).symm, ⟨by rw [ht]; exact hP9, va_K.moved hW.alike hK9, hD9⟩⟩, hS.F ht⟩) hS.2.2 dX5_more_16
  · skip
    refine lv_iconst (v := (1 : Int32)) hx hb dX5_more_11 (by decide) ?_
    refine lv_goto (tgt := 16) hx hb dX5_more_12 (by decide) ?_
    have hP9 := hP.sub (ws' := [(h0, .inr (3, [.ref p_data, .int p_total, .int p_place, .int p_stop, .int p_begin, .int p_lastBegin, .int p_arith, .int p_inData, .int p_range, .int p_offset, .ref p_state, .ref p_element, .int p_elementCount, .ref p_tree, .ref p_size, .int p_faultKind, .int p_faultPlace]))]) [0] rfl
    have hD9 := hD.sub (ws' := [(h0, .inr (3, [.ref p_data, .int p_total, .int p_place, .int p_stop, .int p_begin, .int p_lastBegin, .int p_arith, .int p_inData, .int p_range, .int p_offset, .ref p_state, .ref p_element, .int p_elementCount, .ref p_tree, .ref p_size, .int p_faultKind, .int p_faultPlace]))]) [0] (by decide) rfl
    have hK9 := hK.sub (tys' := []) [] rfl
    exact W.zret (v := (1 : Int32)) (ty := .boolean) hx hb hr (by decide +kernel) (fun t ht hW => ⟨⟨(1 : Int32), (), rfl, by first | exact (if_neg (Int32.not_lt.mpr (by assumption))).symm | exact (if_pos (Int32.not_le.mp (by assumption))).symm, ⟨by rw [ht]; exact hP9, va_K.moved hW.alike hK9, hD9⟩⟩, hS.F ht⟩) hS.2.2 dX5_more_16
