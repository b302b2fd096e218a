theorem z_and (x : Int32) : x &&& 0 = 0 := Int32.toBitVec_inj.mp (by simp)
theorem dX11_clip_0 : decode cX11_clip 0 = .ok (.iload_n 0, 1) := by decide +kernel
theorem dX11_clip_1 : decode cX11_clip 1 = .ok (.ifCond .ge 7, 3) := by decide +kernel
theorem dX11_clip_4 : decode cX11_clip 4 = .ok (.iconst 0, 1) := by decide +kernel
theorem dX11_clip_5 : decode cX11_clip 5 = .ok (.goto 17, 3) := by decide +kernel
theorem dX11_clip_8 : decode cX11_clip 8 = .ok (.iload_n 0, 1) := by decide +kernel
theorem dX11_clip_9 : decode cX11_clip 9 = .ok (.sipush 255, 3) := by decide +kernel
theorem dX11_clip_12 : decode cX11_clip 12 = .ok (.if_icmp .le 9, 3) := by decide +kernel
theorem dX11_clip_15 : decode cX11_clip 15 = .ok (.sipush 255, 3) := by decide +kernel
theorem dX11_clip_18 : decode cX11_clip 18 = .ok (.goto 4, 3) := by decide +kernel
theorem dX11_clip_21 : decode cX11_clip 21 = .ok (.iload_n 0, 1) := by decide +kernel
theorem dX11_clip_22 : decode cX11_clip 22 = .ok (.ireturn, 1) := by decide +kernel
def f_X11_clip (x : Int32) : Int32 := (if (0 : Int32) ≤ x then (if x ≤ (255 : Int32) then x else (255 : Int32)) else (0 : Int32))
set_option maxHeartbeats 1000000 in
theorem k_X11_clip (l : Launch) (x : Int32) : Met l yX11_clip wsX11_clip ({ frames := 0, cells := 0, slots := 0, locals := 0 }) (va_Pc [.int x] (fun _ => True)) (vp_Si (fun r => r = f_X11_clip x)) 0 0 (fun _ => False) := by
  refine Met.ofW (cc := cX11_clip) (maxL := 1) (ret := (some .int)) (by decide) rfl ?_
  intro p e s m args below meth c s₁ B hml hv
  obtain ⟨rfl, -⟩ := hv
  have hx := B.exec
  have hb := B.bytes
  have hr := B.returns
  have hlocks := B.notSynchronized
  have hl := lv_entry ([.int x]) (n := 1) (Nat.le_of_ble_eq_true rfl)
  rw [lg_entry_eq]
  generalize (lg_sl ([.int x]) ++ List.replicate (1 - (lg_sl ([.int x])).length) Slot.unset).toArray = ls at hl ⊢
  have hl : lv_has ls 1 [(0, .int x)] := hl
  refine lv_iload_n hx hb dX11_clip_0 rfl (lv_at hl 0 rfl) ?_
  refine lv_if_ge (tgt := 8) hx hb dX11_clip_1 (by decide) (fun c_1 => ?_) (fun c_1 => ?_)
  · skip
    refine lv_iload_n hx hb dX11_clip_8 rfl (lv_at hl 0 rfl) ?_
    refine lv_sipush (v := (255 : Int32)) hx hb dX11_clip_9 (by decide) ?_
    refine lv_icmp_le (tgt := 21) hx hb dX11_clip_12 (by decide) (fun c_2 => ?_) (fun c_2 => ?_)
    · skip
      refine lv_iload_n hx hb dX11_clip_21 rfl (lv_at hl 0 rfl) ?_
      exact W.iret (v := x) hx hb hr (fun t ht _ => ⟨_, rfl, by simp only [f_X11_clip]; simp [*] <;> simp_all [z_and], ht⟩) (fun _ h => absurd h List.not_mem_nil) dX11_clip_22
    · skip
      refine lv_sipush (v := (255 : Int32)) hx hb dX11_clip_15 (by decide) ?_
      refine lv_goto (tgt := 22) hx hb dX11_clip_18 (by decide) ?_
      exact W.iret (v := (255 : Int32)) hx hb hr (fun t ht _ => ⟨_, rfl, by simp only [f_X11_clip]; simp [*] <;> simp_all [z_and], ht⟩) (fun _ h => absurd h List.not_mem_nil) dX11_clip_22
  · skip
    refine lv_iconst (v := (0 : Int32)) hx hb dX11_clip_4 (by decide) ?_
    refine lv_goto (tgt := 22) hx hb dX11_clip_5 (by decide) ?_
    exact W.iret (v := (0 : Int32)) hx hb hr (fun t ht _ => ⟨_, rfl, by simp only [f_X11_clip]; simp [*] <;> simp_all [z_and], ht⟩) (fun _ h => absurd h List.not_mem_nil) dX11_clip_22
theorem dX11_clamp_0 : decode cX11_clamp 0 = .ok (.iload_n 2, 1) := by decide +kernel
theorem dX11_clamp_1 : decode cX11_clamp 1 = .ok (.iload_n 0, 1) := by decide +kernel
theorem dX11_clamp_2 : decode cX11_clamp 2 = .ok (.if_icmp .ge 7, 3) := by decide +kernel
theorem dX11_clamp_5 : decode cX11_clamp 5 = .ok (.iload_n 0, 1) := by decide +kernel
theorem dX11_clamp_6 : decode cX11_clamp 6 = .ok (.goto 13, 3) := by decide +kernel
theorem dX11_clamp_9 : decode cX11_clamp 9 = .ok (.iload_n 2, 1) := by decide +kernel
theorem dX11_clamp_10 : decode cX11_clamp 10 = .ok (.iload_n 1, 1) := by decide +kernel
theorem dX11_clamp_11 : decode cX11_clamp 11 = .ok (.if_icmp .le 7, 3) := by decide +kernel
theorem dX11_clamp_14 : decode cX11_clamp 14 = .ok (.iload_n 1, 1) := by decide +kernel
theorem dX11_clamp_15 : decode cX11_clamp 15 = .ok (.goto 4, 3) := by decide +kernel
theorem dX11_clamp_18 : decode cX11_clamp 18 = .ok (.iload_n 2, 1) := by decide +kernel
theorem dX11_clamp_19 : decode cX11_clamp 19 = .ok (.ireturn, 1) := by decide +kernel
def f_X11_clamp (lo hi x : Int32) : Int32 := (if lo ≤ x then (if x ≤ hi then x else hi) else lo)
set_option maxHeartbeats 1000000 in
theorem k_X11_clamp (l : Launch) (lo hi x : Int32) : Met l yX11_clamp wsX11_clamp ({ frames := 0, cells := 0, slots := 0, locals := 0 }) (va_Pc [.int lo, .int hi, .int x] (fun _ => True)) (vp_Si (fun r => r = f_X11_clamp lo hi x)) 0 0 (fun _ => False) := by
  refine Met.ofW (cc := cX11_clamp) (maxL := 3) (ret := (some .int)) (by decide) rfl ?_
  intro p e s m args below meth c s₁ B hml hv
  obtain ⟨rfl, -⟩ := hv
  have hx := B.exec
  have hb := B.bytes
  have hr := B.returns
  have hlocks := B.notSynchronized
  have hl := lv_entry ([.int lo, .int hi, .int x]) (n := 3) (Nat.le_of_ble_eq_true rfl)
  rw [lg_entry_eq]
  generalize (lg_sl ([.int lo, .int hi, .int x]) ++ List.replicate (3 - (lg_sl ([.int lo, .int hi, .int x])).length) Slot.unset).toArray = ls at hl ⊢
  have hl : lv_has ls 3 [(0, .int lo), (1, .int hi), (2, .int x)] := hl
  refine lv_iload_n hx hb dX11_clamp_0 rfl (lv_at hl 2 rfl) ?_
  refine lv_iload_n hx hb dX11_clamp_1 rfl (lv_at hl 0 rfl) ?_
  refine lv_icmp_ge (tgt := 9) hx hb dX11_clamp_2 (by decide) (fun c_1 => ?_) (fun c_1 => ?_)
  · skip
    refine lv_iload_n hx hb dX11_clamp_9 rfl (lv_at hl 2 rfl) ?_
    refine lv_iload_n hx hb dX11_clamp_10 rfl (lv_at hl 1 rfl) ?_
    refine lv_icmp_le (tgt := 18) hx hb dX11_clamp_11 (by decide) (fun c_2 => ?_) (fun c_2 => ?_)
    · skip
      refine lv_iload_n hx hb dX11_clamp_18 rfl (lv_at hl 2 rfl) ?_
      exact W.iret (v := x) hx hb hr (fun t ht _ => ⟨_, rfl, by simp only [f_X11_clamp]; simp [*] <;> simp_all [z_and], ht⟩) (fun _ h => absurd h List.not_mem_nil) dX11_clamp_19
    · skip
      refine lv_iload_n hx hb dX11_clamp_14 rfl (lv_at hl 1 rfl) ?_
      refine lv_goto (tgt := 19) hx hb dX11_clamp_15 (by decide) ?_
      exact W.iret (v := hi) hx hb hr (fun t ht _ => ⟨_, rfl, by simp only [f_X11_clamp]; simp [*] <;> simp_all [z_and], ht⟩) (fun _ h => absurd h List.not_mem_nil) dX11_clamp_19
  · skip
    refine lv_iload_n hx hb dX11_clamp_5 rfl (lv_at hl 0 rfl) ?_
    refine lv_goto (tgt := 19) hx hb dX11_clamp_6 (by decide) ?_
    exact W.iret (v := lo) hx hb hr (fun t ht _ => ⟨_, rfl, by simp only [f_X11_clamp]; simp [*] <;> simp_all [z_and], ht⟩) (fun _ h => absurd h List.not_mem_nil) dX11_clamp_19
theorem dX4_at_0 : decode cX4_at 0 = .ok (.sipush 512, 3) := by decide +kernel
theorem dX4_at_3 : decode cX4_at 3 = .ok (.iload_n 0, 1) := by decide +kernel
theorem dX4_at_4 : decode cX4_at 4 = .ok (.imul, 1) := by decide +kernel
theorem dX4_at_5 : decode cX4_at 5 = .ok (.iload_n 1, 1) := by decide +kernel
theorem dX4_at_6 : decode cX4_at 6 = .ok (.iadd, 1) := by decide +kernel
theorem dX4_at_7 : decode cX4_at 7 = .ok (.ireturn, 1) := by decide +kernel
def f_X4_at (a b : Int32) : Int32 := (((512 : Int32) * a) + b)
set_option maxHeartbeats 1000000 in
theorem k_X4_at (l : Launch) (a b : Int32) : Met l yX4_at wsX4_at ({ frames := 0, cells := 0, slots := 0, locals := 0 }) (va_Pc [.int a, .int b] (fun _ => True)) (vp_Si (fun r => r = f_X4_at a b)) 0 0 (fun _ => False) := by
  refine Met.ofW (cc := cX4_at) (maxL := 2) (ret := (some .int)) (by decide) rfl ?_
  intro p e s m args below meth c s₁ B hml hv
  obtain ⟨rfl, -⟩ := hv
  have hx := B.exec
  have hb := B.bytes
  have hr := B.returns
  have hlocks := B.notSynchronized
  have hl := lv_entry ([.int a, .int b]) (n := 2) (Nat.le_of_ble_eq_true rfl)
  rw [lg_entry_eq]
  generalize (lg_sl ([.int a, .int b]) ++ List.replicate (2 - (lg_sl ([.int a, .int b])).length) Slot.unset).toArray = ls at hl ⊢
  have hl : lv_has ls 2 [(0, .int a), (1, .int b)] := hl
  refine lv_sipush (v := (512 : Int32)) hx hb dX4_at_0 (by decide) ?_
  refine lv_iload_n hx hb dX4_at_3 rfl (lv_at hl 0 rfl) ?_
  refine lv_imul hx hb dX4_at_4 ?_
  refine lv_iload_n hx hb dX4_at_5 rfl (lv_at hl 1 rfl) ?_
  refine lv_iadd hx hb dX4_at_6 ?_
  exact W.iret (v := (((512 : Int32) * a) + b)) hx hb hr (fun t ht _ => ⟨_, rfl, rfl, ht⟩) (fun _ h => absurd h List.not_mem_nil) dX4_at_7
theorem dX9_levelAt_0 : decode cX9_levelAt 0 = .ok (.bipush 16, 2) := by decide +kernel
theorem dX9_levelAt_2 : decode cX9_levelAt 2 = .ok (.bipush 27, 2) := by decide +kernel
theorem dX9_levelAt_4 : decode cX9_levelAt 4 = .ok (.iload_n 0, 1) := by decide +kernel
theorem dX9_levelAt_5 : decode cX9_levelAt 5 = .ok (.imul, 1) := by decide +kernel
theorem dX9_levelAt_6 : decode cX9_levelAt 6 = .ok (.iload_n 1, 1) := by decide +kernel
theorem dX9_levelAt_7 : decode cX9_levelAt 7 = .ok (.iadd, 1) := by decide +kernel
theorem dX9_levelAt_8 : decode cX9_levelAt 8 = .ok (.imul, 1) := by decide +kernel
theorem dX9_levelAt_9 : decode cX9_levelAt 9 = .ok (.ireturn, 1) := by decide +kernel
def f_X9_levelAt (a b : Int32) : Int32 := ((16 : Int32) * (((27 : Int32) * a) + b))
set_option maxHeartbeats 1000000 in
theorem k_X9_levelAt (l : Launch) (a b : Int32) : Met l yX9_levelAt wsX9_levelAt ({ frames := 0, cells := 0, slots := 0, locals := 0 }) (va_Pc [.int a, .int b] (fun _ => True)) (vp_Si (fun r => r = f_X9_levelAt a b)) 0 0 (fun _ => False) := by
  refine Met.ofW (cc := cX9_levelAt) (maxL := 2) (ret := (some .int)) (by decide) rfl ?_
  intro p e s m args below meth c s₁ B hml hv
  obtain ⟨rfl, -⟩ := hv
  have hx := B.exec
  have hb := B.bytes
  have hr := B.returns
  have hlocks := B.notSynchronized
  have hl := lv_entry ([.int a, .int b]) (n := 2) (Nat.le_of_ble_eq_true rfl)
  rw [lg_entry_eq]
  generalize (lg_sl ([.int a, .int b]) ++ List.replicate (2 - (lg_sl ([.int a, .int b])).length) Slot.unset).toArray = ls at hl ⊢
  have hl : lv_has ls 2 [(0, .int a), (1, .int b)] := hl
  refine lv_bipush (v := (16 : Int32)) hx hb dX9_levelAt_0 (by decide) ?_
  refine lv_bipush (v := (27 : Int32)) hx hb dX9_levelAt_2 (by decide) ?_
  refine lv_iload_n hx hb dX9_levelAt_4 rfl (lv_at hl 0 rfl) ?_
  refine lv_imul hx hb dX9_levelAt_5 ?_
  refine lv_iload_n hx hb dX9_levelAt_6 rfl (lv_at hl 1 rfl) ?_
  refine lv_iadd hx hb dX9_levelAt_7 ?_
  refine lv_imul hx hb dX9_levelAt_8 ?_
  exact W.iret (v := ((16 : Int32) * (((27 : Int32) * a) + b))) hx hb hr (fun t ht _ => ⟨_, rfl, rfl, ht⟩) (fun _ h => absurd h List.not_mem_nil) dX9_levelAt_9
theorem dX9_pieceX_0 : decode cX9_pieceX 0 = .ok (.bipush 8, 2) := by decide +kernel
theorem dX9_pieceX_2 : decode cX9_pieceX 2 = .ok (.iload_n 0, 1) := by decide +kernel
theorem dX9_pieceX_3 : decode cX9_pieceX 3 = .ok (.iconst 4, 1) := by decide +kernel
theorem dX9_pieceX_4 : decode cX9_pieceX 4 = .ok (.idiv, 1) := by decide +kernel
theorem dX9_pieceX_5 : decode cX9_pieceX 5 = .ok (.iconst 2, 1) := by decide +kernel
theorem dX9_pieceX_6 : decode cX9_pieceX 6 = .ok (.irem, 1) := by decide +kernel
theorem dX9_pieceX_7 : decode cX9_pieceX 7 = .ok (.imul, 1) := by decide +kernel
theorem dX9_pieceX_8 : decode cX9_pieceX 8 = .ok (.iconst 4, 1) := by decide +kernel
theorem dX9_pieceX_9 : decode cX9_pieceX 9 = .ok (.iload_n 0, 1) := by decide +kernel
theorem dX9_pieceX_10 : decode cX9_pieceX 10 = .ok (.iconst 2, 1) := by decide +kernel
theorem dX9_pieceX_11 : decode cX9_pieceX 11 = .ok (.irem, 1) := by decide +kernel
theorem dX9_pieceX_12 : decode cX9_pieceX 12 = .ok (.imul, 1) := by decide +kernel
theorem dX9_pieceX_13 : decode cX9_pieceX 13 = .ok (.iadd, 1) := by decide +kernel
theorem dX9_pieceX_14 : decode cX9_pieceX 14 = .ok (.ireturn, 1) := by decide +kernel
def f_X9_pieceX (b : Int32) : Int32 := (((8 : Int32) * ((b / (4 : Int32)) - (b / (4 : Int32)) / (2 : Int32) * (2 : Int32))) + ((4 : Int32) * (b - b / (2 : Int32) * (2 : Int32))))
set_option maxHeartbeats 1000000 in
theorem k_X9_pieceX (l : Launch) (b : Int32) : Met l yX9_pieceX wsX9_pieceX ({ frames := 0, cells := 0, slots := 0, locals := 0 }) (va_Pc [.int b] (fun _ => True)) (vp_Si (fun r => r = f_X9_pieceX b)) 0 0 (fun _ => False) := by
  refine Met.ofW (cc := cX9_pieceX) (maxL := 1) (ret := (some .int)) (by decide) rfl ?_
  intro p e s m args below meth c s₁ B hml hv
  obtain ⟨rfl, -⟩ := hv
  have hx := B.exec
  have hb := B.bytes
  have hr := B.returns
  have hlocks := B.notSynchronized
  have hl := lv_entry ([.int b]) (n := 1) (Nat.le_of_ble_eq_true rfl)
  rw [lg_entry_eq]
  generalize (lg_sl ([.int b]) ++ List.replicate (1 - (lg_sl ([.int b])).length) Slot.unset).toArray = ls at hl ⊢
  have hl : lv_has ls 1 [(0, .int b)] := hl
  refine lv_bipush (v := (8 : Int32)) hx hb dX9_pieceX_0 (by decide) ?_
  refine lv_iload_n hx hb dX9_pieceX_2 rfl (lv_at hl 0 rfl) ?_
  refine lv_iconst (v := (4 : Int32)) hx hb dX9_pieceX_3 (by decide) ?_
  refine lv_idiv hx hb dX9_pieceX_4 (by decide) ?_
  refine lv_iconst (v := (2 : Int32)) hx hb dX9_pieceX_5 (by decide) ?_
  refine lv_irem hx hb dX9_pieceX_6 (by decide) ?_
  refine lv_imul hx hb dX9_pieceX_7 ?_
  refine lv_iconst (v := (4 : Int32)) hx hb dX9_pieceX_8 (by decide) ?_
  refine lv_iload_n hx hb dX9_pieceX_9 rfl (lv_at hl 0 rfl) ?_
  refine lv_iconst (v := (2 : Int32)) hx hb dX9_pieceX_10 (by decide) ?_
  refine lv_irem hx hb dX9_pieceX_11 (by decide) ?_
  refine lv_imul hx hb dX9_pieceX_12 ?_
  refine lv_iadd hx hb dX9_pieceX_13 ?_
  exact W.iret (v := (((8 : Int32) * ((b / (4 : Int32)) - (b / (4 : Int32)) / (2 : Int32) * (2 : Int32))) + ((4 : Int32) * (b - b / (2 : Int32) * (2 : Int32))))) hx hb hr (fun t ht _ => ⟨_, rfl, rfl, ht⟩) (fun _ h => absurd h List.not_mem_nil) dX9_pieceX_14
theorem dX9_pieceY_0 : decode cX9_pieceY 0 = .ok (.bipush 8, 2) := by decide +kernel
theorem dX9_pieceY_2 : decode cX9_pieceY 2 = .ok (.iload_n 0, 1) := by decide +kernel
theorem dX9_pieceY_3 : decode cX9_pieceY 3 = .ok (.bipush 8, 2) := by decide +kernel
theorem dX9_pieceY_5 : decode cX9_pieceY 5 = .ok (.idiv, 1) := by decide +kernel
theorem dX9_pieceY_6 : decode cX9_pieceY 6 = .ok (.imul, 1) := by decide +kernel
theorem dX9_pieceY_7 : decode cX9_pieceY 7 = .ok (.iconst 4, 1) := by decide +kernel
theorem dX9_pieceY_8 : decode cX9_pieceY 8 = .ok (.iload_n 0, 1) := by decide +kernel
theorem dX9_pieceY_9 : decode cX9_pieceY 9 = .ok (.iconst 2, 1) := by decide +kernel
theorem dX9_pieceY_10 : decode cX9_pieceY 10 = .ok (.idiv, 1) := by decide +kernel
theorem dX9_pieceY_11 : decode cX9_pieceY 11 = .ok (.iconst 2, 1) := by decide +kernel
theorem dX9_pieceY_12 : decode cX9_pieceY 12 = .ok (.irem, 1) := by decide +kernel
theorem dX9_pieceY_13 : decode cX9_pieceY 13 = .ok (.imul, 1) := by decide +kernel
theorem dX9_pieceY_14 : decode cX9_pieceY 14 = .ok (.iadd, 1) := by decide +kernel
theorem dX9_pieceY_15 : decode cX9_pieceY 15 = .ok (.ireturn, 1) := by decide +kernel
def f_X9_pieceY (b : Int32) : Int32 := (((8 : Int32) * (b / (8 : Int32))) + ((4 : Int32) * ((b / (2 : Int32)) - (b / (2 : Int32)) / (2 : Int32) * (2 : Int32))))
set_option maxHeartbeats 1000000 in
theorem k_X9_pieceY (l : Launch) (b : Int32) : Met l yX9_pieceY wsX9_pieceY ({ frames := 0, cells := 0, slots := 0, locals := 0 }) (va_Pc [.int b] (fun _ => True)) (vp_Si (fun r => r = f_X9_pieceY b)) 0 0 (fun _ => False) := by
  refine Met.ofW (cc := cX9_pieceY) (maxL := 1) (ret := (some .int)) (by decide) rfl ?_
  intro p e s m args below meth c s₁ B hml hv
  obtain ⟨rfl, -⟩ := hv
  have hx := B.exec
  have hb := B.bytes
  have hr := B.returns
  have hlocks := B.notSynchronized
  have hl := lv_entry ([.int b]) (n := 1) (Nat.le_of_ble_eq_true rfl)
  rw [lg_entry_eq]
  generalize (lg_sl ([.int b]) ++ List.replicate (1 - (lg_sl ([.int b])).length) Slot.unset).toArray = ls at hl ⊢
  have hl : lv_has ls 1 [(0, .int b)] := hl
  refine lv_bipush (v := (8 : Int32)) hx hb dX9_pieceY_0 (by decide) ?_
  refine lv_iload_n hx hb dX9_pieceY_2 rfl (lv_at hl 0 rfl) ?_
  refine lv_bipush (v := (8 : Int32)) hx hb dX9_pieceY_3 (by decide) ?_
  refine lv_idiv hx hb dX9_pieceY_5 (by decide) ?_
  refine lv_imul hx hb dX9_pieceY_6 ?_
  refine lv_iconst (v := (4 : Int32)) hx hb dX9_pieceY_7 (by decide) ?_
  refine lv_iload_n hx hb dX9_pieceY_8 rfl (lv_at hl 0 rfl) ?_
  refine lv_iconst (v := (2 : Int32)) hx hb dX9_pieceY_9 (by decide) ?_
  refine lv_idiv hx hb dX9_pieceY_10 (by decide) ?_
  refine lv_iconst (v := (2 : Int32)) hx hb dX9_pieceY_11 (by decide) ?_
  refine lv_irem hx hb dX9_pieceY_12 (by decide) ?_
  refine lv_imul hx hb dX9_pieceY_13 ?_
  refine lv_iadd hx hb dX9_pieceY_14 ?_
  exact W.iret (v := (((8 : Int32) * (b / (8 : Int32))) + ((4 : Int32) * ((b / (2 : Int32)) - (b / (2 : Int32)) / (2 : Int32) * (2 : Int32))))) hx hb hr (fun t ht _ => ⟨_, rfl, rfl, ht⟩) (fun _ h => absurd h List.not_mem_nil) dX9_pieceY_15
theorem dX3_weightAt_0 : decode cX3_weightAt 0 = .ok (.iconst 2, 1) := by decide +kernel
theorem dX3_weightAt_1 : decode cX3_weightAt 1 = .ok (.iconst 3, 1) := by decide +kernel
theorem dX3_weightAt_2 : decode cX3_weightAt 2 = .ok (.bipush 8, 2) := by decide +kernel
theorem dX3_weightAt_4 : decode cX3_weightAt 4 = .ok (.iload_n 0, 1) := by decide +kernel
theorem dX3_weightAt_5 : decode cX3_weightAt 5 = .ok (.imul, 1) := by decide +kernel
theorem dX3_weightAt_6 : decode cX3_weightAt 6 = .ok (.iload_n 1, 1) := by decide +kernel
theorem dX3_weightAt_7 : decode cX3_weightAt 7 = .ok (.iadd, 1) := by decide +kernel
theorem dX3_weightAt_8 : decode cX3_weightAt 8 = .ok (.imul, 1) := by decide +kernel
theorem dX3_weightAt_9 : decode cX3_weightAt 9 = .ok (.iload_n 2, 1) := by decide +kernel
theorem dX3_weightAt_10 : decode cX3_weightAt 10 = .ok (.iadd, 1) := by decide +kernel
theorem dX3_weightAt_11 : decode cX3_weightAt 11 = .ok (.imul, 1) := by decide +kernel
theorem dX3_weightAt_12 : decode cX3_weightAt 12 = .ok (.ireturn, 1) := by decide +kernel
def f_X3_weightAt (a b c0 : Int32) : Int32 := ((2 : Int32) * (((3 : Int32) * (((8 : Int32) * a) + b)) + c0))
set_option maxHeartbeats 1000000 in
theorem k_X3_weightAt (l : Launch) (a b c0 : Int32) : Met l yX3_weightAt wsX3_weightAt ({ frames := 0, cells := 0, slots := 0, locals := 0 }) (va_Pc [.int a, .int b, .int c0] (fun _ => True)) (vp_Si (fun r => r = f_X3_weightAt a b c0)) 0 0 (fun _ => False) := by
  refine Met.ofW (cc := cX3_weightAt) (maxL := 3) (ret := (some .int)) (by decide) rfl ?_
  intro p e s m args below meth c s₁ B hml hv
  obtain ⟨rfl, -⟩ := hv
  have hx := B.exec
  have hb := B.bytes
  have hr := B.returns
  have hlocks := B.notSynchronized
  have hl := lv_entry ([.int a, .int b, .int c0]) (n := 3) (Nat.le_of_ble_eq_true rfl)
  rw [lg_entry_eq]
  generalize (lg_sl ([.int a, .int b, .int c0]) ++ List.replicate (3 - (lg_sl ([.int a, .int b, .int c0])).length) Slot.unset).toArray = ls at hl ⊢
  have hl : lv_has ls 3 [(0, .int a), (1, .int b), (2, .int c0)] := hl
  refine lv_iconst (v := (2 : Int32)) hx hb dX3_weightAt_0 (by decide) ?_
  refine lv_iconst (v := (3 : Int32)) hx hb dX3_weightAt_1 (by decide) ?_
  refine lv_bipush (v := (8 : Int32)) hx hb dX3_weightAt_2 (by decide) ?_
  refine lv_iload_n hx hb dX3_weightAt_4 rfl (lv_at hl 0 rfl) ?_
  refine lv_imul hx hb dX3_weightAt_5 ?_
  refine lv_iload_n hx hb dX3_weightAt_6 rfl (lv_at hl 1 rfl) ?_
  refine lv_iadd hx hb dX3_weightAt_7 ?_
  refine lv_imul hx hb dX3_weightAt_8 ?_
  refine lv_iload_n hx hb dX3_weightAt_9 rfl (lv_at hl 2 rfl) ?_
  refine lv_iadd hx hb dX3_weightAt_10 ?_
  refine lv_imul hx hb dX3_weightAt_11 ?_
  exact W.iret (v := ((2 : Int32) * (((3 : Int32) * (((8 : Int32) * a) + b)) + c0))) hx hb hr (fun t ht _ => ⟨_, rfl, rfl, ht⟩) (fun _ h => absurd h List.not_mem_nil) dX3_weightAt_12
theorem dX9_timeBetween_0 : decode cX9_timeBetween 0 = .ok (.iload_n 1, 1) := by decide +kernel
theorem dX9_timeBetween_1 : decode cX9_timeBetween 1 = .ok (.iload_n 0, 1) := by decide +kernel
theorem dX9_timeBetween_2 : decode cX9_timeBetween 2 = .ok (.isub, 1) := by decide +kernel
theorem dX9_timeBetween_3 : decode cX9_timeBetween 3 = .ok (.istore_n 2, 1) := by decide +kernel
theorem dX9_timeBetween_4 : decode cX9_timeBetween 4 = .ok (.iload_n 2, 1) := by decide +kernel
theorem dX9_timeBetween_5 : decode cX9_timeBetween 5 = .ok (.bipush (-128), 2) := by decide +kernel
theorem dX9_timeBetween_7 : decode cX9_timeBetween 7 = .ok (.if_icmp .ge 8, 3) := by decide +kernel
theorem dX9_timeBetween_10 : decode cX9_timeBetween 10 = .ok (.bipush (-128), 2) := by decide +kernel
theorem dX9_timeBetween_12 : decode cX9_timeBetween 12 = .ok (.goto 15, 3) := by decide +kernel
theorem dX9_timeBetween_15 : decode cX9_timeBetween 15 = .ok (.iload_n 2, 1) := by decide +kernel
theorem dX9_timeBetween_16 : decode cX9_timeBetween 16 = .ok (.bipush 127, 2) := by decide +kernel
theorem dX9_timeBetween_18 : decode cX9_timeBetween 18 = .ok (.if_icmp .le 8, 3) := by decide +kernel
theorem dX9_timeBetween_21 : decode cX9_timeBetween 21 = .ok (.bipush 127, 2) := by decide +kernel
theorem dX9_timeBetween_23 : decode cX9_timeBetween 23 = .ok (.goto 4, 3) := by decide +kernel
theorem dX9_timeBetween_26 : decode cX9_timeBetween 26 = .ok (.iload_n 2, 1) := by decide +kernel
theorem dX9_timeBetween_27 : decode cX9_timeBetween 27 = .ok (.ireturn, 1) := by decide +kernel
def f_X9_timeBetween (a b : Int32) : Int32 := (if (-128 : Int32) ≤ (b - a) then (if (b - a) ≤ (127 : Int32) then (b - a) else (127 : Int32)) else (-128 : Int32))
set_option maxHeartbeats 1000000 in
theorem k_X9_timeBetween (l : Launch) (a b : Int32) : Met l yX9_timeBetween wsX9_timeBetween ({ frames := 0, cells := 0, slots := 0, locals := 0 }) (va_Pc [.int a, .int b] (fun _ => True)) (vp_Si (fun r => r = f_X9_timeBetween a b)) 0 0 (fun _ => False) := by
  refine Met.ofW (cc := cX9_timeBetween) (maxL := 3) (ret := (some .int)) (by decide) rfl ?_
  intro p e s m args below meth c s₁ B hml hv
  obtain ⟨rfl, -⟩ := hv
  have hx := B.exec
  have hb := B.bytes
  have hr := B.returns
  have hlocks := B.notSynchronized
  have hl := lv_entry ([.int a, .int b]) (n := 3) (Nat.le_of_ble_eq_true rfl)
  rw [lg_entry_eq]
  generalize (lg_sl ([.int a, .int b]) ++ List.replicate (3 - (lg_sl ([.int a, .int b])).length) Slot.unset).toArray = ls at hl ⊢
  have hl : lv_has ls 3 [(0, .int a), (1, .int b)] := hl
  refine lv_iload_n hx hb dX9_timeBetween_0 rfl (lv_at hl 1 rfl) ?_
  refine lv_iload_n hx hb dX9_timeBetween_1 rfl (lv_at hl 0 rfl) ?_
  refine lv_isub hx hb dX9_timeBetween_2 ?_
  refine lv_istore_n (lv' := [(2, .int (b - a)), (0, .int a), (1, .int b)]) hx hb dX9_timeBetween_3 rfl hl (by decide) rfl (fun ls hl => ?_)
  refine lv_iload_n hx hb dX9_timeBetween_4 rfl (lv_at hl 0 rfl) ?_
  refine lv_bipush (v := (-128 : Int32)) hx hb dX9_timeBetween_5 (by decide) ?_
  refine lv_icmp_ge (tgt := 15) hx hb dX9_timeBetween_7 (by decide) (fun c_1 => ?_) (fun c_1 => ?_)
  · skip
    refine lv_iload_n hx hb dX9_timeBetween_15 rfl (lv_at hl 0 rfl) ?_
    refine lv_bipush (v := (127 : Int32)) hx hb dX9_timeBetween_16 (by decide) ?_
    refine lv_icmp_le (tgt := 26) hx hb dX9_timeBetween_18 (by decide) (fun c_2 => ?_) (fun c_2 => ?_)
    · skip
      refine lv_iload_n hx hb dX9_timeBetween_26 rfl (lv_at hl 0 rfl) ?_
      exact W.iret (v := (b - a)) hx hb hr (fun t ht _ => ⟨_, rfl, by simp only [f_X9_timeBetween]; simp [*] <;> simp_all [z_and], ht⟩) (fun _ h => absurd h List.not_mem_nil) dX9_timeBetween_27
    · skip
      refine lv_bipush (v := (127 : Int32)) hx hb dX9_timeBetween_21 (by decide) ?_
      refine lv_goto (tgt := 27) hx hb dX9_timeBetween_23 (by decide) ?_
      exact W.iret (v := (127 : Int32)) hx hb hr (fun t ht _ => ⟨_, rfl, by simp only [f_X9_timeBetween]; simp [*] <;> simp_all [z_and], ht⟩) (fun _ h => absurd h List.not_mem_nil) dX9_timeBetween_27
  · skip
    refine lv_bipush (v := (-128 : Int32)) hx hb dX9_timeBetween_10 (by decide) ?_
    refine lv_goto (tgt := 27) hx hb dX9_timeBetween_12 (by decide) ?_
    exact W.iret (v := (-128 : Int32)) hx hb hr (fun t ht _ => ⟨_, rfl, by simp only [f_X9_timeBetween]; simp [*] <;> simp_all [z_and], ht⟩) (fun _ h => absurd h List.not_mem_nil) dX9_timeBetween_27
theorem dX10_indexOfSe_0 : decode cX10_indexOfSe 0 = .ok (.iload_n 0, 1) := by decide +kernel
theorem dX10_indexOfSe_1 : decode cX10_indexOfSe 1 = .ok (.ifCond .le 11, 3) := by decide +kernel
theorem dX10_indexOfSe_4 : decode cX10_indexOfSe 4 = .ok (.iconst 2, 1) := by decide +kernel
theorem dX10_indexOfSe_5 : decode cX10_indexOfSe 5 = .ok (.iload_n 0, 1) := by decide +kernel
theorem dX10_indexOfSe_6 : decode cX10_indexOfSe 6 = .ok (.imul, 1) := by decide +kernel
theorem dX10_indexOfSe_7 : decode cX10_indexOfSe 7 = .ok (.iconst 1, 1) := by decide +kernel
theorem dX10_indexOfSe_8 : decode cX10_indexOfSe 8 = .ok (.isub, 1) := by decide +kernel
theorem dX10_indexOfSe_9 : decode cX10_indexOfSe 9 = .ok (.goto 7, 3) := by decide +kernel
theorem dX10_indexOfSe_12 : decode cX10_indexOfSe 12 = .ok (.bipush (-2), 2) := by decide +kernel
theorem dX10_indexOfSe_14 : decode cX10_indexOfSe 14 = .ok (.iload_n 0, 1) := by decide +kernel
theorem dX10_indexOfSe_15 : decode cX10_indexOfSe 15 = .ok (.imul, 1) := by decide +kernel
theorem dX10_indexOfSe_16 : decode cX10_indexOfSe 16 = .ok (.ireturn, 1) := by decide +kernel
def f_X10_indexOfSe (v : Int32) : Int32 := (if v ≤ (0 : Int32) then ((-2 : Int32) * v) else (((2 : Int32) * v) - (1 : Int32)))
set_option maxHeartbeats 1000000 in
theorem k_X10_indexOfSe (l : Launch) (v : Int32) : Met l yX10_indexOfSe wsX10_indexOfSe ({ frames := 0, cells := 0, slots := 0, locals := 0 }) (va_Pc [.int v] (fun _ => True)) (vp_Si (fun r => r = f_X10_indexOfSe v)) 0 0 (fun _ => False) := by
  refine Met.ofW (cc := cX10_indexOfSe) (maxL := 1) (ret := (some .int)) (by decide) rfl ?_
  intro p e s m args below meth c s₁ B hml hv
  obtain ⟨rfl, -⟩ := hv
  have hx := B.exec
  have hb := B.bytes
  have hr := B.returns
  have hlocks := B.notSynchronized
  have hl := lv_entry ([.int v]) (n := 1) (Nat.le_of_ble_eq_true rfl)
  rw [lg_entry_eq]
  generalize (lg_sl ([.int v]) ++ List.replicate (1 - (lg_sl ([.int v])).length) Slot.unset).toArray = ls at hl ⊢
  have hl : lv_has ls 1 [(0, .int v)] := hl
  refine lv_iload_n hx hb dX10_indexOfSe_0 rfl (lv_at hl 0 rfl) ?_
  refine lv_if_le (tgt := 12) hx hb dX10_indexOfSe_1 (by decide) (fun c_1 => ?_) (fun c_1 => ?_)
  · skip
    refine lv_bipush (v := (-2 : Int32)) hx hb dX10_indexOfSe_12 (by decide) ?_
    refine lv_iload_n hx hb dX10_indexOfSe_14 rfl (lv_at hl 0 rfl) ?_
    refine lv_imul hx hb dX10_indexOfSe_15 ?_
    exact W.iret (v := ((-2 : Int32) * v)) hx hb hr (fun t ht _ => ⟨_, rfl, by simp only [f_X10_indexOfSe]; simp [*] <;> simp_all [z_and], ht⟩) (fun _ h => absurd h List.not_mem_nil) dX10_indexOfSe_16
  · skip
    refine lv_iconst (v := (2 : Int32)) hx hb dX10_indexOfSe_4 (by decide) ?_
    refine lv_iload_n hx hb dX10_indexOfSe_5 rfl (lv_at hl 0 rfl) ?_
    refine lv_imul hx hb dX10_indexOfSe_6 ?_
    refine lv_iconst (v := (1 : Int32)) hx hb dX10_indexOfSe_7 (by decide) ?_
    refine lv_isub hx hb dX10_indexOfSe_8 ?_
    refine lv_goto (tgt := 16) hx hb dX10_indexOfSe_9 (by decide) ?_
    exact W.iret (v := (((2 : Int32) * v) - (1 : Int32))) hx hb hr (fun t ht _ => ⟨_, rfl, by simp only [f_X10_indexOfSe]; simp [*] <;> simp_all [z_and], ht⟩) (fun _ h => absurd h List.not_mem_nil) dX10_indexOfSe_16
theorem dX9_mayBeSixteen_0 : decode cX9_mayBeSixteen 0 = .ok (.iload_n 0, 1) := by decide +kernel
theorem dX9_mayBeSixteen_1 : decode cX9_mayBeSixteen 1 = .ok (.ifCond .ne 7, 3) := by decide +kernel
theorem dX9_mayBeSixteen_4 : decode cX9_mayBeSixteen 4 = .ok (.iconst 2, 1) := by decide +kernel
theorem dX9_mayBeSixteen_5 : decode cX9_mayBeSixteen 5 = .ok (.goto 23, 3) := by decide +kernel
theorem dX9_mayBeSixteen_8 : decode cX9_mayBeSixteen 8 = .ok (.iload_n 0, 1) := by decide +kernel
theorem dX9_mayBeSixteen_9 : decode cX9_mayBeSixteen 9 = .ok (.iconst 1, 1) := by decide +kernel
theorem dX9_mayBeSixteen_10 : decode cX9_mayBeSixteen 10 = .ok (.if_icmp .ne 7, 3) := by decide +kernel
theorem dX9_mayBeSixteen_13 : decode cX9_mayBeSixteen 13 = .ok (.iconst 1, 1) := by decide +kernel
theorem dX9_mayBeSixteen_14 : decode cX9_mayBeSixteen 14 = .ok (.goto 14, 3) := by decide +kernel
theorem dX9_mayBeSixteen_17 : decode cX9_mayBeSixteen 17 = .ok (.iload_n 0, 1) := by decide +kernel
theorem dX9_mayBeSixteen_18 : decode cX9_mayBeSixteen 18 = .ok (.iconst 2, 1) := by decide +kernel
theorem dX9_mayBeSixteen_19 : decode cX9_mayBeSixteen 19 = .ok (.if_icmp .ne 7, 3) := by decide +kernel
theorem dX9_mayBeSixteen_22 : decode cX9_mayBeSixteen 22 = .ok (.iconst 0, 1) := by decide +kernel
theorem dX9_mayBeSixteen_23 : decode cX9_mayBeSixteen 23 = .ok (.goto 5, 3) := by decide +kernel
theorem dX9_mayBeSixteen_26 : decode cX9_mayBeSixteen 26 = .ok (.bipush 7, 2) := by decide +kernel
theorem dX9_mayBeSixteen_28 : decode cX9_mayBeSixteen 28 = .ok (.istore_n 2, 1) := by decide +kernel
theorem dX9_mayBeSixteen_29 : decode cX9_mayBeSixteen 29 = .ok (.iload_n 1, 1) := by decide +kernel
theorem dX9_mayBeSixteen_30 : decode cX9_mayBeSixteen 30 = .ok (.iload_n 2, 1) := by decide +kernel
theorem dX9_mayBeSixteen_31 : decode cX9_mayBeSixteen 31 = .ok (.iand, 1) := by decide +kernel
theorem dX9_mayBeSixteen_32 : decode cX9_mayBeSixteen 32 = .ok (.iload_n 2, 1) := by decide +kernel
theorem dX9_mayBeSixteen_33 : decode cX9_mayBeSixteen 33 = .ok (.if_icmp .ne 7, 3) := by decide +kernel
theorem dX9_mayBeSixteen_36 : decode cX9_mayBeSixteen 36 = .ok (.iconst 1, 1) := by decide +kernel
theorem dX9_mayBeSixteen_37 : decode cX9_mayBeSixteen 37 = .ok (.goto 4, 3) := by decide +kernel
theorem dX9_mayBeSixteen_40 : decode cX9_mayBeSixteen 40 = .ok (.iconst 0, 1) := by decide +kernel
theorem dX9_mayBeSixteen_41 : decode cX9_mayBeSixteen 41 = .ok (.ireturn, 1) := by decide +kernel
def f_X9_mayBeSixteen (mo si : Int32) : Int32 := (if mo = (0 : Int32) then (if (si &&& (2 : Int32)) = (2 : Int32) then (1 : Int32) else (0 : Int32)) else (if mo = (1 : Int32) then (if (si &&& (1 : Int32)) = (1 : Int32) then (1 : Int32) else (0 : Int32)) else (if mo = (2 : Int32) then (if (si &&& (0 : Int32)) = (0 : Int32) then (1 : Int32) else (0 : Int32)) else (if (si &&& (7 : Int32)) = (7 : Int32) then (1 : Int32) else (0 : Int32)))))
set_option maxHeartbeats 1000000 in
theorem k_X9_mayBeSixteen (l : Launch) (mo si : Int32) : Met l yX9_mayBeSixteen wsX9_mayBeSixteen ({ frames := 0, cells := 0, slots := 0, locals := 0 }) (va_Pc [.int mo, .int si] (fun _ => True)) (vp_Si (fun r => r = f_X9_mayBeSixteen mo si)) 0 0 (fun _ => False) := by
  refine Met.ofW (cc := cX9_mayBeSixteen) (maxL := 3) (ret := (some .boolean)) (by decide) rfl ?_
  intro p e s m args below meth c s₁ B hml hv
  obtain ⟨rfl, -⟩ := hv
  have hx := B.exec
  have hb := B.bytes
  have hr := B.returns
  have hlocks := B.notSynchronized
  have hl := lv_entry ([.int mo, .int si]) (n := 3) (Nat.le_of_ble_eq_true rfl)
  rw [lg_entry_eq]
  generalize (lg_sl ([.int mo, .int si]) ++ List.replicate (3 - (lg_sl ([.int mo, .int si])).length) Slot.unset).toArray = ls at hl ⊢
  have hl : lv_has ls 3 [(0, .int mo), (1, .int si)] := hl
  refine lv_iload_n hx hb dX9_mayBeSixteen_0 rfl (lv_at hl 0 rfl) ?_
  refine lv_if_ne (tgt := 8) hx hb dX9_mayBeSixteen_1 (by decide) (fun c_1 => ?_) (fun c_1 => ?_)
  · skip
    refine lv_iload_n hx hb dX9_mayBeSixteen_8 rfl (lv_at hl 0 rfl) ?_
    refine lv_iconst (v := (1 : Int32)) hx hb dX9_mayBeSixteen_9 (by decide) ?_
    refine lv_icmp_ne (tgt := 17) hx hb dX9_mayBeSixteen_10 (by decide) (fun c_2 => ?_) (fun c_2 => ?_)
    · skip
      refine lv_iload_n hx hb dX9_mayBeSixteen_17 rfl (lv_at hl 0 rfl) ?_
      refine lv_iconst (v := (2 : Int32)) hx hb dX9_mayBeSixteen_18 (by decide) ?_
      refine lv_icmp_ne (tgt := 26) hx hb dX9_mayBeSixteen_19 (by decide) (fun c_3 => ?_) (fun c_3 => ?_)
      · skip
        refine lv_bipush (v := (7 : Int32)) hx hb dX9_mayBeSixteen_26 (by decide) ?_
        refine lv_istore_n (lv' := [(2, .int (7 : Int32)), (0, .int mo), (1, .int si)]) hx hb dX9_mayBeSixteen_28 rfl hl (by decide) rfl (fun ls hl => ?_)
        refine lv_iload_n hx hb dX9_mayBeSixteen_29 rfl (lv_at hl 2 rfl) ?_
        refine lv_iload_n hx hb dX9_mayBeSixteen_30 rfl (lv_at hl 0 rfl) ?_
        refine lv_iand hx hb dX9_mayBeSixteen_31 ?_
        refine lv_iload_n hx hb dX9_mayBeSixteen_32 rfl (lv_at hl 0 rfl) ?_
        refine lv_icmp_ne (tgt := 40) hx hb dX9_mayBeSixteen_33 (by decide) (fun c_4 => ?_) (fun c_4 => ?_)
        · skip
          refine lv_iconst (v := (0 : Int32)) hx hb dX9_mayBeSixteen_40 (by decide) ?_
          exact W.zret (v := (0 : Int32)) (ty := .boolean) hx hb hr (by decide +kernel) (fun t ht _ => ⟨_, rfl, by simp only [f_X9_mayBeSixteen]; simp [*] <;> simp_all [z_and], ht⟩) (fun _ h => absurd h List.not_mem_nil) dX9_mayBeSixteen_41
        · skip
          refine lv_iconst (v := (1 : Int32)) hx hb dX9_mayBeSixteen_36 (by decide) ?_
          refine lv_goto (tgt := 41) hx hb dX9_mayBeSixteen_37 (by decide) ?_
          exact W.zret (v := (1 : Int32)) (ty := .boolean) hx hb hr (by decide +kernel) (fun t ht _ => ⟨_, rfl, by simp only [f_X9_mayBeSixteen]; simp [*] <;> simp_all [z_and], ht⟩) (fun _ h => absurd h List.not_mem_nil) dX9_mayBeSixteen_41
      · skip
        refine lv_iconst (v := (0 : Int32)) hx hb dX9_mayBeSixteen_22 (by decide) ?_
        refine lv_goto (tgt := 28) hx hb dX9_mayBeSixteen_23 (by decide) ?_
        refine lv_istore_n (lv' := [(2, .int (0 : Int32)), (0, .int mo), (1, .int si)]) hx hb dX9_mayBeSixteen_28 rfl hl (by decide) rfl (fun ls hl => ?_)
        refine lv_iload_n hx hb dX9_mayBeSixteen_29 rfl (lv_at hl 2 rfl) ?_
        refine lv_iload_n hx hb dX9_mayBeSixteen_30 rfl (lv_at hl 0 rfl) ?_
        refine lv_iand hx hb dX9_mayBeSixteen_31 ?_
        refine lv_iload_n hx hb dX9_mayBeSixteen_32 rfl (lv_at hl 0 rfl) ?_
        refine lv_icmp_ne (tgt := 40) hx hb dX9_mayBeSixteen_33 (by decide) (fun c_5 => ?_) (fun c_5 => ?_)
        · skip
          refine lv_iconst (v := (0 : Int32)) hx hb dX9_mayBeSixteen_40 (by decide) ?_
          exact W.zret (v := (0 : Int32)) (ty := .boolean) hx hb hr (by decide +kernel) (fun t ht _ => ⟨_, rfl, by simp only [f_X9_mayBeSixteen]; simp [*] <;> simp_all [z_and], ht⟩) (fun _ h => absurd h List.not_mem_nil) dX9_mayBeSixteen_41
        · skip
          refine lv_iconst (v := (1 : Int32)) hx hb dX9_mayBeSixteen_36 (by decide) ?_
          refine lv_goto (tgt := 41) hx hb dX9_mayBeSixteen_37 (by decide) ?_
          exact W.zret (v := (1 : Int32)) (ty := .boolean) hx hb hr (by decide +kernel) (fun t ht _ => ⟨_, rfl, by simp only [f_X9_mayBeSixteen]; simp [*] <;> simp_all [z_and], ht⟩) (fun _ h => absurd h List.not_mem_nil) dX9_mayBeSixteen_41
    · skip
      refine lv_iconst (v := (1 : Int32)) hx hb dX9_mayBeSixteen_13 (by decide) ?_
      refine lv_goto (tgt := 28) hx hb dX9_mayBeSixteen_14 (by decide) ?_
      refine lv_istore_n (lv' := [(2, .int (1 : Int32)), (0, .int mo), (1, .int si)]) hx hb dX9_mayBeSixteen_28 rfl hl (by decide) rfl (fun ls hl => ?_)
      refine lv_iload_n hx hb dX9_mayBeSixteen_29 rfl (lv_at hl 2 rfl) ?_
      refine lv_iload_n hx hb dX9_mayBeSixteen_30 rfl (lv_at hl 0 rfl) ?_
      refine lv_iand hx hb dX9_mayBeSixteen_31 ?_
      refine lv_iload_n hx hb dX9_mayBeSixteen_32 rfl (lv_at hl 0 rfl) ?_
      refine lv_icmp_ne (tgt := 40) hx hb dX9_mayBeSixteen_33 (by decide) (fun c_6 => ?_) (fun c_6 => ?_)
      · skip
        refine lv_iconst (v := (0 : Int32)) hx hb dX9_mayBeSixteen_40 (by decide) ?_
        exact W.zret (v := (0 : Int32)) (ty := .boolean) hx hb hr (by decide +kernel) (fun t ht _ => ⟨_, rfl, by simp only [f_X9_mayBeSixteen]; simp [*] <;> simp_all [z_and], ht⟩) (fun _ h => absurd h List.not_mem_nil) dX9_mayBeSixteen_41
      · skip
        refine lv_iconst (v := (1 : Int32)) hx hb dX9_mayBeSixteen_36 (by decide) ?_
        refine lv_goto (tgt := 41) hx hb dX9_mayBeSixteen_37 (by decide) ?_
        exact W.zret (v := (1 : Int32)) (ty := .boolean) hx hb hr (by decide +kernel) (fun t ht _ => ⟨_, rfl, by simp only [f_X9_mayBeSixteen]; simp [*] <;> simp_all [z_and], ht⟩) (fun _ h => absurd h List.not_mem_nil) dX9_mayBeSixteen_41
  · skip
    refine lv_iconst (v := (2 : Int32)) hx hb dX9_mayBeSixteen_4 (by decide) ?_
    refine lv_goto (tgt := 28) hx hb dX9_mayBeSixteen_5 (by decide) ?_
    refine lv_istore_n (lv' := [(2, .int (2 : Int32)), (0, .int mo), (1, .int si)]) hx hb dX9_mayBeSixteen_28 rfl hl (by decide) rfl (fun ls hl => ?_)
    refine lv_iload_n hx hb dX9_mayBeSixteen_29 rfl (lv_at hl 2 rfl) ?_
    refine lv_iload_n hx hb dX9_mayBeSixteen_30 rfl (lv_at hl 0 rfl) ?_
    refine lv_iand hx hb dX9_mayBeSixteen_31 ?_
    refine lv_iload_n hx hb dX9_mayBeSixteen_32 rfl (lv_at hl 0 rfl) ?_
    refine lv_icmp_ne (tgt := 40) hx hb dX9_mayBeSixteen_33 (by decide) (fun c_7 => ?_) (fun c_7 => ?_)
    · skip
      refine lv_iconst (v := (0 : Int32)) hx hb dX9_mayBeSixteen_40 (by decide) ?_
      exact W.zret (v := (0 : Int32)) (ty := .boolean) hx hb hr (by decide +kernel) (fun t ht _ => ⟨_, rfl, by simp only [f_X9_mayBeSixteen]; simp [*] <;> simp_all [z_and], ht⟩) (fun _ h => absurd h List.not_mem_nil) dX9_mayBeSixteen_41
    · skip
      refine lv_iconst (v := (1 : Int32)) hx hb dX9_mayBeSixteen_36 (by decide) ?_
      refine lv_goto (tgt := 41) hx hb dX9_mayBeSixteen_37 (by decide) ?_
      exact W.zret (v := (1 : Int32)) (ty := .boolean) hx hb hr (by decide +kernel) (fun t ht _ => ⟨_, rfl, by simp only [f_X9_mayBeSixteen]; simp [*] <;> simp_all [z_and], ht⟩) (fun _ h => absurd h List.not_mem_nil) dX9_mayBeSixteen_41
theorem dX9_mayBeColours_0 : decode cX9_mayBeColours 0 = .ok (.iload_n 0, 1) := by decide +kernel
theorem dX9_mayBeColours_1 : decode cX9_mayBeColours 1 = .ok (.ifCond .ne 7, 3) := by decide +kernel
theorem dX9_mayBeColours_4 : decode cX9_mayBeColours 4 = .ok (.iconst 0, 1) := by decide +kernel
theorem dX9_mayBeColours_5 : decode cX9_mayBeColours 5 = .ok (.goto 23, 3) := by decide +kernel
theorem dX9_mayBeColours_8 : decode cX9_mayBeColours 8 = .ok (.iload_n 0, 1) := by decide +kernel
theorem dX9_mayBeColours_9 : decode cX9_mayBeColours 9 = .ok (.iconst 1, 1) := by decide +kernel
theorem dX9_mayBeColours_10 : decode cX9_mayBeColours 10 = .ok (.if_icmp .ne 7, 3) := by decide +kernel
theorem dX9_mayBeColours_13 : decode cX9_mayBeColours 13 = .ok (.iconst 1, 1) := by decide +kernel
theorem dX9_mayBeColours_14 : decode cX9_mayBeColours 14 = .ok (.goto 14, 3) := by decide +kernel
theorem dX9_mayBeColours_17 : decode cX9_mayBeColours 17 = .ok (.iload_n 0, 1) := by decide +kernel
theorem dX9_mayBeColours_18 : decode cX9_mayBeColours 18 = .ok (.iconst 2, 1) := by decide +kernel
theorem dX9_mayBeColours_19 : decode cX9_mayBeColours 19 = .ok (.if_icmp .ne 7, 3) := by decide +kernel
theorem dX9_mayBeColours_22 : decode cX9_mayBeColours 22 = .ok (.iconst 2, 1) := by decide +kernel
theorem dX9_mayBeColours_23 : decode cX9_mayBeColours 23 = .ok (.goto 5, 3) := by decide +kernel
theorem dX9_mayBeColours_26 : decode cX9_mayBeColours 26 = .ok (.bipush 7, 2) := by decide +kernel
theorem dX9_mayBeColours_28 : decode cX9_mayBeColours 28 = .ok (.istore_n 2, 1) := by decide +kernel
theorem dX9_mayBeColours_29 : decode cX9_mayBeColours 29 = .ok (.iload_n 1, 1) := by decide +kernel
theorem dX9_mayBeColours_30 : decode cX9_mayBeColours 30 = .ok (.iload_n 2, 1) := by decide +kernel
theorem dX9_mayBeColours_31 : decode cX9_mayBeColours 31 = .ok (.iand, 1) := by decide +kernel
theorem dX9_mayBeColours_32 : decode cX9_mayBeColours 32 = .ok (.iload_n 2, 1) := by decide +kernel
theorem dX9_mayBeColours_33 : decode cX9_mayBeColours 33 = .ok (.if_icmp .ne 7, 3) := by decide +kernel
theorem dX9_mayBeColours_36 : decode cX9_mayBeColours 36 = .ok (.iconst 1, 1) := by decide +kernel
theorem dX9_mayBeColours_37 : decode cX9_mayBeColours 37 = .ok (.goto 4, 3) := by decide +kernel
theorem dX9_mayBeColours_40 : decode cX9_mayBeColours 40 = .ok (.iconst 0, 1) := by decide +kernel
theorem dX9_mayBeColours_41 : decode cX9_mayBeColours 41 = .ok (.ireturn, 1) := by decide +kernel
def f_X9_mayBeColours (mo si : Int32) : Int32 := (if mo = (0 : Int32) then (if (si &&& (0 : Int32)) = (0 : Int32) then (1 : Int32) else (0 : Int32)) else (if mo = (1 : Int32) then (if (si &&& (1 : Int32)) = (1 : Int32) then (1 : Int32) else (0 : Int32)) else (if mo = (2 : Int32) then (if (si &&& (2 : Int32)) = (2 : Int32) then (1 : Int32) else (0 : Int32)) else (if (si &&& (7 : Int32)) = (7 : Int32) then (1 : Int32) else (0 : Int32)))))
set_option maxHeartbeats 1000000 in
theorem k_X9_mayBeColours (l : Launch) (mo si : Int32) : Met l yX9_mayBeColours wsX9_mayBeColours ({ frames := 0, cells := 0, slots := 0, locals := 0 }) (va_Pc [.int mo, .int si] (fun _ => True)) (vp_Si (fun r => r = f_X9_mayBeColours mo si)) 0 0 (fun _ => False) := by
  refine Met.ofW (cc := cX9_mayBeColours) (maxL := 3) (ret := (some .boolean)) (by decide) rfl ?_
  intro p e s m args below meth c s₁ B hml hv
  obtain ⟨rfl, -⟩ := hv
  have hx := B.exec
  have hb := B.bytes
  have hr := B.returns
  have hlocks := B.notSynchronized
  have hl := lv_entry ([.int mo, .int si]) (n := 3) (Nat.le_of_ble_eq_true rfl)
  rw [lg_entry_eq]
  generalize (lg_sl ([.int mo, .int si]) ++ List.replicate (3 - (lg_sl ([.int mo, .int si])).length) Slot.unset).toArray = ls at hl ⊢
  have hl : lv_has ls 3 [(0, .int mo), (1, .int si)] := hl
  refine lv_iload_n hx hb dX9_mayBeColours_0 rfl (lv_at hl 0 rfl) ?_
  refine lv_if_ne (tgt := 8) hx hb dX9_mayBeColours_1 (by decide) (fun c_1 => ?_) (fun c_1 => ?_)
  · skip
    refine lv_iload_n hx hb dX9_mayBeColours_8 rfl (lv_at hl 0 rfl) ?_
    refine lv_iconst (v := (1 : Int32)) hx hb dX9_mayBeColours_9 (by decide) ?_
    refine lv_icmp_ne (tgt := 17) hx hb dX9_mayBeColours_10 (by decide) (fun c_2 => ?_) (fun c_2 => ?_)
    · skip
      refine lv_iload_n hx hb dX9_mayBeColours_17 rfl (lv_at hl 0 rfl) ?_
      refine lv_iconst (v := (2 : Int32)) hx hb dX9_mayBeColours_18 (by decide) ?_
      refine lv_icmp_ne (tgt := 26) hx hb dX9_mayBeColours_19 (by decide) (fun c_3 => ?_) (fun c_3 => ?_)
      · skip
        refine lv_bipush (v := (7 : Int32)) hx hb dX9_mayBeColours_26 (by decide) ?_
        refine lv_istore_n (lv' := [(2, .int (7 : Int32)), (0, .int mo), (1, .int si)]) hx hb dX9_mayBeColours_28 rfl hl (by decide) rfl (fun ls hl => ?_)
        refine lv_iload_n hx hb dX9_mayBeColours_29 rfl (lv_at hl 2 rfl) ?_
        refine lv_iload_n hx hb dX9_mayBeColours_30 rfl (lv_at hl 0 rfl) ?_
        refine lv_iand hx hb dX9_mayBeColours_31 ?_
        refine lv_iload_n hx hb dX9_mayBeColours_32 rfl (lv_at hl 0 rfl) ?_
        refine lv_icmp_ne (tgt := 40) hx hb dX9_mayBeColours_33 (by decide) (fun c_4 => ?_) (fun c_4 => ?_)
        · skip
          refine lv_iconst (v := (0 : Int32)) hx hb dX9_mayBeColours_40 (by decide) ?_
          exact W.zret (v := (0 : Int32)) (ty := .boolean) hx hb hr (by decide +kernel) (fun t ht _ => ⟨_, rfl, by simp only [f_X9_mayBeColours]; simp [*] <;> simp_all [z_and], ht⟩) (fun _ h => absurd h List.not_mem_nil) dX9_mayBeColours_41
        · skip
          refine lv_iconst (v := (1 : Int32)) hx hb dX9_mayBeColours_36 (by decide) ?_
          refine lv_goto (tgt := 41) hx hb dX9_mayBeColours_37 (by decide) ?_
          exact W.zret (v := (1 : Int32)) (ty := .boolean) hx hb hr (by decide +kernel) (fun t ht _ => ⟨_, rfl, by simp only [f_X9_mayBeColours]; simp [*] <;> simp_all [z_and], ht⟩) (fun _ h => absurd h List.not_mem_nil) dX9_mayBeColours_41
      · skip
        refine lv_iconst (v := (2 : Int32)) hx hb dX9_mayBeColours_22 (by decide) ?_
        refine lv_goto (tgt := 28) hx hb dX9_mayBeColours_23 (by decide) ?_
        refine lv_istore_n (lv' := [(2, .int (2 : Int32)), (0, .int mo), (1, .int si)]) hx hb dX9_mayBeColours_28 rfl hl (by decide) rfl (fun ls hl => ?_)
        refine lv_iload_n hx hb dX9_mayBeColours_29 rfl (lv_at hl 2 rfl) ?_
        refine lv_iload_n hx hb dX9_mayBeColours_30 rfl (lv_at hl 0 rfl) ?_
        refine lv_iand hx hb dX9_mayBeColours_31 ?_
        refine lv_iload_n hx hb dX9_mayBeColours_32 rfl (lv_at hl 0 rfl) ?_
        refine lv_icmp_ne (tgt := 40) hx hb dX9_mayBeColours_33 (by decide) (fun c_5 => ?_) (fun c_5 => ?_)
        · skip
          refine lv_iconst (v := (0 : Int32)) hx hb dX9_mayBeColours_40 (by decide) ?_
          exact W.zret (v := (0 : Int32)) (ty := .boolean) hx hb hr (by decide +kernel) (fun t ht _ => ⟨_, rfl, by simp only [f_X9_mayBeColours]; simp [*] <;> simp_all [z_and], ht⟩) (fun _ h => absurd h List.not_mem_nil) dX9_mayBeColours_41
        · skip
          refine lv_iconst (v := (1 : Int32)) hx hb dX9_mayBeColours_36 (by decide) ?_
          refine lv_goto (tgt := 41) hx hb dX9_mayBeColours_37 (by decide) ?_
          exact W.zret (v := (1 : Int32)) (ty := .boolean) hx hb hr (by decide +kernel) (fun t ht _ => ⟨_, rfl, by simp only [f_X9_mayBeColours]; simp [*] <;> simp_all [z_and], ht⟩) (fun _ h => absurd h List.not_mem_nil) dX9_mayBeColours_41
    · skip
      refine lv_iconst (v := (1 : Int32)) hx hb dX9_mayBeColours_13 (by decide) ?_
      refine lv_goto (tgt := 28) hx hb dX9_mayBeColours_14 (by decide) ?_
      refine lv_istore_n (lv' := [(2, .int (1 : Int32)), (0, .int mo), (1, .int si)]) hx hb dX9_mayBeColours_28 rfl hl (by decide) rfl (fun ls hl => ?_)
      refine lv_iload_n hx hb dX9_mayBeColours_29 rfl (lv_at hl 2 rfl) ?_
      refine lv_iload_n hx hb dX9_mayBeColours_30 rfl (lv_at hl 0 rfl) ?_
      refine lv_iand hx hb dX9_mayBeColours_31 ?_
      refine lv_iload_n hx hb dX9_mayBeColours_32 rfl (lv_at hl 0 rfl) ?_
      refine lv_icmp_ne (tgt := 40) hx hb dX9_mayBeColours_33 (by decide) (fun c_6 => ?_) (fun c_6 => ?_)
      · skip
        refine lv_iconst (v := (0 : Int32)) hx hb dX9_mayBeColours_40 (by decide) ?_
        exact W.zret (v := (0 : Int32)) (ty := .boolean) hx hb hr (by decide +kernel) (fun t ht _ => ⟨_, rfl, by simp only [f_X9_mayBeColours]; simp [*] <;> simp_all [z_and], ht⟩) (fun _ h => absurd h List.not_mem_nil) dX9_mayBeColours_41
      · skip
        refine lv_iconst (v := (1 : Int32)) hx hb dX9_mayBeColours_36 (by decide) ?_
        refine lv_goto (tgt := 41) hx hb dX9_mayBeColours_37 (by decide) ?_
        exact W.zret (v := (1 : Int32)) (ty := .boolean) hx hb hr (by decide +kernel) (fun t ht _ => ⟨_, rfl, by simp only [f_X9_mayBeColours]; simp [*] <;> simp_all [z_and], ht⟩) (fun _ h => absurd h List.not_mem_nil) dX9_mayBeColours_41
  · skip
    refine lv_iconst (v := (0 : Int32)) hx hb dX9_mayBeColours_4 (by decide) ?_
    refine lv_goto (tgt := 28) hx hb dX9_mayBeColours_5 (by decide) ?_
    refine lv_istore_n (lv' := [(2, .int (0 : Int32)), (0, .int mo), (1, .int si)]) hx hb dX9_mayBeColours_28 rfl hl (by decide) rfl (fun ls hl => ?_)
    refine lv_iload_n hx hb dX9_mayBeColours_29 rfl (lv_at hl 2 rfl) ?_
    refine lv_iload_n hx hb dX9_mayBeColours_30 rfl (lv_at hl 0 rfl) ?_
    refine lv_iand hx hb dX9_mayBeColours_31 ?_
    refine lv_iload_n hx hb dX9_mayBeColours_32 rfl (lv_at hl 0 rfl) ?_
    refine lv_icmp_ne (tgt := 40) hx hb dX9_mayBeColours_33 (by decide) (fun c_7 => ?_) (fun c_7 => ?_)
    · skip
      refine lv_iconst (v := (0 : Int32)) hx hb dX9_mayBeColours_40 (by decide) ?_
      exact W.zret (v := (0 : Int32)) (ty := .boolean) hx hb hr (by decide +kernel) (fun t ht _ => ⟨_, rfl, by simp only [f_X9_mayBeColours]; simp [*] <;> simp_all [z_and], ht⟩) (fun _ h => absurd h List.not_mem_nil) dX9_mayBeColours_41
    · skip
      refine lv_iconst (v := (1 : Int32)) hx hb dX9_mayBeColours_36 (by decide) ?_
      refine lv_goto (tgt := 41) hx hb dX9_mayBeColours_37 (by decide) ?_
      exact W.zret (v := (1 : Int32)) (ty := .boolean) hx hb hr (by decide +kernel) (fun t ht _ => ⟨_, rfl, by simp only [f_X9_mayBeColours]; simp [*] <;> simp_all [z_and], ht⟩) (fun _ h => absurd h List.not_mem_nil) dX9_mayBeColours_41
theorem dX9_mayBeFour_0 : decode cX9_mayBeFour 0 = .ok (.iload_n 0, 1) := by decide +kernel
theorem dX9_mayBeFour_1 : decode cX9_mayBeFour 1 = .ok (.iconst 2, 1) := by decide +kernel
theorem dX9_mayBeFour_2 : decode cX9_mayBeFour 2 = .ok (.if_icmp .ne 7, 3) := by decide +kernel
theorem dX9_mayBeFour_5 : decode cX9_mayBeFour 5 = .ok (.iconst 0, 1) := by decide +kernel
theorem dX9_mayBeFour_6 : decode cX9_mayBeFour 6 = .ok (.goto 35, 3) := by decide +kernel
theorem dX9_mayBeFour_9 : decode cX9_mayBeFour 9 = .ok (.iload_n 0, 1) := by decide +kernel
theorem dX9_mayBeFour_10 : decode cX9_mayBeFour 10 = .ok (.iconst 1, 1) := by decide +kernel
theorem dX9_mayBeFour_11 : decode cX9_mayBeFour 11 = .ok (.if_icmp .eq 9, 3) := by decide +kernel
theorem dX9_mayBeFour_14 : decode cX9_mayBeFour 14 = .ok (.iload_n 0, 1) := by decide +kernel
theorem dX9_mayBeFour_15 : decode cX9_mayBeFour 15 = .ok (.bipush 8, 2) := by decide +kernel
theorem dX9_mayBeFour_17 : decode cX9_mayBeFour 17 = .ok (.if_icmp .ne 7, 3) := by decide +kernel
theorem dX9_mayBeFour_20 : decode cX9_mayBeFour 20 = .ok (.iconst 1, 1) := by decide +kernel
theorem dX9_mayBeFour_21 : decode cX9_mayBeFour 21 = .ok (.goto 20, 3) := by decide +kernel
theorem dX9_mayBeFour_24 : decode cX9_mayBeFour 24 = .ok (.iload_n 0, 1) := by decide +kernel
theorem dX9_mayBeFour_25 : decode cX9_mayBeFour 25 = .ok (.iconst 4, 1) := by decide +kernel
theorem dX9_mayBeFour_26 : decode cX9_mayBeFour 26 = .ok (.if_icmp .lt 9, 3) := by decide +kernel
theorem dX9_mayBeFour_29 : decode cX9_mayBeFour 29 = .ok (.iload_n 0, 1) := by decide +kernel
theorem dX9_mayBeFour_30 : decode cX9_mayBeFour 30 = .ok (.bipush 7, 2) := by decide +kernel
theorem dX9_mayBeFour_32 : decode cX9_mayBeFour 32 = .ok (.if_icmp .ne 7, 3) := by decide +kernel
theorem dX9_mayBeFour_35 : decode cX9_mayBeFour 35 = .ok (.iconst 2, 1) := by decide +kernel
theorem dX9_mayBeFour_36 : decode cX9_mayBeFour 36 = .ok (.goto 5, 3) := by decide +kernel
theorem dX9_mayBeFour_39 : decode cX9_mayBeFour 39 = .ok (.bipush 7, 2) := by decide +kernel
theorem dX9_mayBeFour_41 : decode cX9_mayBeFour 41 = .ok (.istore_n 2, 1) := by decide +kernel
theorem dX9_mayBeFour_42 : decode cX9_mayBeFour 42 = .ok (.iload_n 1, 1) := by decide +kernel
theorem dX9_mayBeFour_43 : decode cX9_mayBeFour 43 = .ok (.iload_n 2, 1) := by decide +kernel
theorem dX9_mayBeFour_44 : decode cX9_mayBeFour 44 = .ok (.iand, 1) := by decide +kernel
theorem dX9_mayBeFour_45 : decode cX9_mayBeFour 45 = .ok (.iload_n 2, 1) := by decide +kernel
theorem dX9_mayBeFour_46 : decode cX9_mayBeFour 46 = .ok (.if_icmp .ne 7, 3) := by decide +kernel
theorem dX9_mayBeFour_49 : decode cX9_mayBeFour 49 = .ok (.iconst 1, 1) := by decide +kernel
theorem dX9_mayBeFour_50 : decode cX9_mayBeFour 50 = .ok (.goto 4, 3) := by decide +kernel
theorem dX9_mayBeFour_53 : decode cX9_mayBeFour 53 = .ok (.iconst 0, 1) := by decide +kernel
theorem dX9_mayBeFour_54 : decode cX9_mayBeFour 54 = .ok (.ireturn, 1) := by decide +kernel
def f_X9_mayBeFour (mo si : Int32) : Int32 := (if mo = (2 : Int32) then (if (si &&& (0 : Int32)) = (0 : Int32) then (1 : Int32) else (0 : Int32)) else (if mo = (1 : Int32) then (if (si &&& (1 : Int32)) = (1 : Int32) then (1 : Int32) else (0 : Int32)) else (if mo = (8 : Int32) then (if (si &&& (1 : Int32)) = (1 : Int32) then (1 : Int32) else (0 : Int32)) else (if mo < (4 : Int32) then (if (si &&& (2 : Int32)) = (2 : Int32) then (1 : Int32) else (0 : Int32)) else (if mo = (7 : Int32) then (if (si &&& (2 : Int32)) = (2 : Int32) then (1 : Int32) else (0 : Int32)) else (if (si &&& (7 : Int32)) = (7 : Int32) then (1 : Int32) else (0 : Int32)))))))
set_option maxHeartbeats 1000000 in
theorem k_X9_mayBeFour (l : Launch) (mo si : Int32) : Met l yX9_mayBeFour wsX9_mayBeFour ({ frames := 0, cells := 0, slots := 0, locals := 0 }) (va_Pc [.int mo, .int si] (fun _ => True)) (vp_Si (fun r => r = f_X9_mayBeFour mo si)) 0 0 (fun _ => False) := by
  refine Met.ofW (cc := cX9_mayBeFour) (maxL := 3) (ret := (some .boolean)) (by decide) rfl ?_
  intro p e s m args below meth c s₁ B hml hv
  obtain ⟨rfl, -⟩ := hv
  have hx := B.exec
  have hb := B.bytes
  have hr := B.returns
  have hlocks := B.notSynchronized
  have hl := lv_entry ([.int mo, .int si]) (n := 3) (Nat.le_of_ble_eq_true rfl)
  rw [lg_entry_eq]
  generalize (lg_sl ([.int mo, .int si]) ++ List.replicate (3 - (lg_sl ([.int mo, .int si])).length) Slot.unset).toArray = ls at hl ⊢
  have hl : lv_has ls 3 [(0, .int mo), (1, .int si)] := hl
  refine lv_iload_n hx hb dX9_mayBeFour_0 rfl (lv_at hl 0 rfl) ?_
  refine lv_iconst (v := (2 : Int32)) hx hb dX9_mayBeFour_1 (by decide) ?_
  refine lv_icmp_ne (tgt := 9) hx hb dX9_mayBeFour_2 (by decide) (fun c_1 => ?_) (fun c_1 => ?_)
  · skip
    refine lv_iload_n hx hb dX9_mayBeFour_9 rfl (lv_at hl 0 rfl) ?_
    refine lv_iconst (v := (1 : Int32)) hx hb dX9_mayBeFour_10 (by decide) ?_
    refine lv_icmp_eq (tgt := 20) hx hb dX9_mayBeFour_11 (by decide) (fun c_2 => ?_) (fun c_2 => ?_)
    · skip
      refine lv_iconst (v := (1 : Int32)) hx hb dX9_mayBeFour_20 (by decide) ?_
      refine lv_goto (tgt := 41) hx hb dX9_mayBeFour_21 (by decide) ?_
      refine lv_istore_n (lv' := [(2, .int (1 : Int32)), (0, .int mo), (1, .int si)]) hx hb dX9_mayBeFour_41 rfl hl (by decide) rfl (fun ls hl => ?_)
      refine lv_iload_n hx hb dX9_mayBeFour_42 rfl (lv_at hl 2 rfl) ?_
      refine lv_iload_n hx hb dX9_mayBeFour_43 rfl (lv_at hl 0 rfl) ?_
      refine lv_iand hx hb dX9_mayBeFour_44 ?_
      refine lv_iload_n hx hb dX9_mayBeFour_45 rfl (lv_at hl 0 rfl) ?_
      refine lv_icmp_ne (tgt := 53) hx hb dX9_mayBeFour_46 (by decide) (fun c_3 => ?_) (fun c_3 => ?_)
      · skip
        refine lv_iconst (v := (0 : Int32)) hx hb dX9_mayBeFour_53 (by decide) ?_
        exact W.zret (v := (0 : Int32)) (ty := .boolean) hx hb hr (by decide +kernel) (fun t ht _ => ⟨_, rfl, by simp only [f_X9_mayBeFour]; simp [*] <;> simp_all [z_and], ht⟩) (fun _ h => absurd h List.not_mem_nil) dX9_mayBeFour_54
      · skip
        refine lv_iconst (v := (1 : Int32)) hx hb dX9_mayBeFour_49 (by decide) ?_
        refine lv_goto (tgt := 54) hx hb dX9_mayBeFour_50 (by decide) ?_
        exact W.zret (v := (1 : Int32)) (ty := .boolean) hx hb hr (by decide +kernel) (fun t ht _ => ⟨_, rfl, by simp only [f_X9_mayBeFour]; simp [*] <;> simp_all [z_and], ht⟩) (fun _ h => absurd h List.not_mem_nil) dX9_mayBeFour_54
    · skip
      refine lv_iload_n hx hb dX9_mayBeFour_14 rfl (lv_at hl 0 rfl) ?_
      refine lv_bipush (v := (8 : Int32)) hx hb dX9_mayBeFour_15 (by decide) ?_
      refine lv_icmp_ne (tgt := 24) hx hb dX9_mayBeFour_17 (by decide) (fun c_4 => ?_) (fun c_4 => ?_)
      · skip
        refine lv_iload_n hx hb dX9_mayBeFour_24 rfl (lv_at hl 0 rfl) ?_
        refine lv_iconst (v := (4 : Int32)) hx hb dX9_mayBeFour_25 (by decide) ?_
        refine lv_icmp_lt (tgt := 35) hx hb dX9_mayBeFour_26 (by decide) (fun c_5 => ?_) (fun c_5 => ?_)
        · skip
          refine lv_iconst (v := (2 : Int32)) hx hb dX9_mayBeFour_35 (by decide) ?_
          refine lv_goto (tgt := 41) hx hb dX9_mayBeFour_36 (by decide) ?_
          refine lv_istore_n (lv' := [(2, .int (2 : Int32)), (0, .int mo), (1, .int si)]) hx hb dX9_mayBeFour_41 rfl hl (by decide) rfl (fun ls hl => ?_)
          refine lv_iload_n hx hb dX9_mayBeFour_42 rfl (lv_at hl 2 rfl) ?_
          refine lv_iload_n hx hb dX9_mayBeFour_43 rfl (lv_at hl 0 rfl) ?_
          refine lv_iand hx hb dX9_mayBeFour_44 ?_
          refine lv_iload_n hx hb dX9_mayBeFour_45 rfl (lv_at hl 0 rfl) ?_
          refine lv_icmp_ne (tgt := 53) hx hb dX9_mayBeFour_46 (by decide) (fun c_6 => ?_) (fun c_6 => ?_)
          · skip
            refine lv_iconst (v := (0 : Int32)) hx hb dX9_mayBeFour_53 (by decide) ?_
            exact W.zret (v := (0 : Int32)) (ty := .boolean) hx hb hr (by decide +kernel) (fun t ht _ => ⟨_, rfl, by simp only [f_X9_mayBeFour]; simp [*] <;> simp_all [z_and], ht⟩) (fun _ h => absurd h List.not_mem_nil) dX9_mayBeFour_54
          · skip
            refine lv_iconst (v := (1 : Int32)) hx hb dX9_mayBeFour_49 (by decide) ?_
            refine lv_goto (tgt := 54) hx hb dX9_mayBeFour_50 (by decide) ?_
            exact W.zret (v := (1 : Int32)) (ty := .boolean) hx hb hr (by decide +kernel) (fun t ht _ => ⟨_, rfl, by simp only [f_X9_mayBeFour]; simp [*] <;> simp_all [z_and], ht⟩) (fun _ h => absurd h List.not_mem_nil) dX9_mayBeFour_54
        · skip
          refine lv_iload_n hx hb dX9_mayBeFour_29 rfl (lv_at hl 0 rfl) ?_
          refine lv_bipush (v := (7 : Int32)) hx hb dX9_mayBeFour_30 (by decide) ?_
          refine lv_icmp_ne (tgt := 39) hx hb dX9_mayBeFour_32 (by decide) (fun c_7 => ?_) (fun c_7 => ?_)
          · skip
            refine lv_bipush (v := (7 : Int32)) hx hb dX9_mayBeFour_39 (by decide) ?_
            refine lv_istore_n (lv' := [(2, .int (7 : Int32)), (0, .int mo), (1, .int si)]) hx hb dX9_mayBeFour_41 rfl hl (by decide) rfl (fun ls hl => ?_)
            refine lv_iload_n hx hb dX9_mayBeFour_42 rfl (lv_at hl 2 rfl) ?_
            refine lv_iload_n hx hb dX9_mayBeFour_43 rfl (lv_at hl 0 rfl) ?_
            refine lv_iand hx hb dX9_mayBeFour_44 ?_
            refine lv_iload_n hx hb dX9_mayBeFour_45 rfl (lv_at hl 0 rfl) ?_
            refine lv_icmp_ne (tgt := 53) hx hb dX9_mayBeFour_46 (by decide) (fun c_8 => ?_) (fun c_8 => ?_)
            · skip
              refine lv_iconst (v := (0 : Int32)) hx hb dX9_mayBeFour_53 (by decide) ?_
              exact W.zret (v := (0 : Int32)) (ty := .boolean) hx hb hr (by decide +kernel) (fun t ht _ => ⟨_, rfl, by simp only [f_X9_mayBeFour]; simp [*] <;> simp_all [z_and], ht⟩) (fun _ h => absurd h List.not_mem_nil) dX9_mayBeFour_54
            · skip
              refine lv_iconst (v := (1 : Int32)) hx hb dX9_mayBeFour_49 (by decide) ?_
              refine lv_goto (tgt := 54) hx hb dX9_mayBeFour_50 (by decide) ?_
              exact W.zret (v := (1 : Int32)) (ty := .boolean) hx hb hr (by decide +kernel) (fun t ht _ => ⟨_, rfl, by simp only [f_X9_mayBeFour]; simp [*] <;> simp_all [z_and], ht⟩) (fun _ h => absurd h List.not_mem_nil) dX9_mayBeFour_54
          · skip
            refine lv_iconst (v := (2 : Int32)) hx hb dX9_mayBeFour_35 (by decide) ?_
            refine lv_goto (tgt := 41) hx hb dX9_mayBeFour_36 (by decide) ?_
            refine lv_istore_n (lv' := [(2, .int (2 : Int32)), (0, .int mo), (1, .int si)]) hx hb dX9_mayBeFour_41 rfl hl (by decide) rfl (fun ls hl => ?_)
            refine lv_iload_n hx hb dX9_mayBeFour_42 rfl (lv_at hl 2 rfl) ?_
            refine lv_iload_n hx hb dX9_mayBeFour_43 rfl (lv_at hl 0 rfl) ?_
            refine lv_iand hx hb dX9_mayBeFour_44 ?_
            refine lv_iload_n hx hb dX9_mayBeFour_45 rfl (lv_at hl 0 rfl) ?_
            refine lv_icmp_ne (tgt := 53) hx hb dX9_mayBeFour_46 (by decide) (fun c_9 => ?_) (fun c_9 => ?_)
            · skip
              refine lv_iconst (v := (0 : Int32)) hx hb dX9_mayBeFour_53 (by decide) ?_
              exact W.zret (v := (0 : Int32)) (ty := .boolean) hx hb hr (by decide +kernel) (fun t ht _ => ⟨_, rfl, by simp only [f_X9_mayBeFour]; simp [*] <;> simp_all [z_and], ht⟩) (fun _ h => absurd h List.not_mem_nil) dX9_mayBeFour_54
            · skip
              refine lv_iconst (v := (1 : Int32)) hx hb dX9_mayBeFour_49 (by decide) ?_
              refine lv_goto (tgt := 54) hx hb dX9_mayBeFour_50 (by decide) ?_
              exact W.zret (v := (1 : Int32)) (ty := .boolean) hx hb hr (by decide +kernel) (fun t ht _ => ⟨_, rfl, by simp only [f_X9_mayBeFour]; simp [*] <;> simp_all [z_and], ht⟩) (fun _ h => absurd h List.not_mem_nil) dX9_mayBeFour_54
      · skip
        refine lv_iconst (v := (1 : Int32)) hx hb dX9_mayBeFour_20 (by decide) ?_
        refine lv_goto (tgt := 41) hx hb dX9_mayBeFour_21 (by decide) ?_
        refine lv_istore_n (lv' := [(2, .int (1 : Int32)), (0, .int mo), (1, .int si)]) hx hb dX9_mayBeFour_41 rfl hl (by decide) rfl (fun ls hl => ?_)
        refine lv_iload_n hx hb dX9_mayBeFour_42 rfl (lv_at hl 2 rfl) ?_
        refine lv_iload_n hx hb dX9_mayBeFour_43 rfl (lv_at hl 0 rfl) ?_
        refine lv_iand hx hb dX9_mayBeFour_44 ?_
        refine lv_iload_n hx hb dX9_mayBeFour_45 rfl (lv_at hl 0 rfl) ?_
        refine lv_icmp_ne (tgt := 53) hx hb dX9_mayBeFour_46 (by decide) (fun c_10 => ?_) (fun c_10 => ?_)
        · skip
          refine lv_iconst (v := (0 : Int32)) hx hb dX9_mayBeFour_53 (by decide) ?_
          exact W.zret (v := (0 : Int32)) (ty := .boolean) hx hb hr (by decide +kernel) (fun t ht _ => ⟨_, rfl, by simp only [f_X9_mayBeFour]; simp [*] <;> simp_all [z_and], ht⟩) (fun _ h => absurd h List.not_mem_nil) dX9_mayBeFour_54
        · skip
          refine lv_iconst (v := (1 : Int32)) hx hb dX9_mayBeFour_49 (by decide) ?_
          refine lv_goto (tgt := 54) hx hb dX9_mayBeFour_50 (by decide) ?_
          exact W.zret (v := (1 : Int32)) (ty := .boolean) hx hb hr (by decide +kernel) (fun t ht _ => ⟨_, rfl, by simp only [f_X9_mayBeFour]; simp [*] <;> simp_all [z_and], ht⟩) (fun _ h => absurd h List.not_mem_nil) dX9_mayBeFour_54
  · skip
    refine lv_iconst (v := (0 : Int32)) hx hb dX9_mayBeFour_5 (by decide) ?_
    refine lv_goto (tgt := 41) hx hb dX9_mayBeFour_6 (by decide) ?_
    refine lv_istore_n (lv' := [(2, .int (0 : Int32)), (0, .int mo), (1, .int si)]) hx hb dX9_mayBeFour_41 rfl hl (by decide) rfl (fun ls hl => ?_)
    refine lv_iload_n hx hb dX9_mayBeFour_42 rfl (lv_at hl 2 rfl) ?_
    refine lv_iload_n hx hb dX9_mayBeFour_43 rfl (lv_at hl 0 rfl) ?_
    refine lv_iand hx hb dX9_mayBeFour_44 ?_
    refine lv_iload_n hx hb dX9_mayBeFour_45 rfl (lv_at hl 0 rfl) ?_
    refine lv_icmp_ne (tgt := 53) hx hb dX9_mayBeFour_46 (by decide) (fun c_11 => ?_) (fun c_11 => ?_)
    · skip
      refine lv_iconst (v := (0 : Int32)) hx hb dX9_mayBeFour_53 (by decide) ?_
      exact W.zret (v := (0 : Int32)) (ty := .boolean) hx hb hr (by decide +kernel) (fun t ht _ => ⟨_, rfl, by simp only [f_X9_mayBeFour]; simp [*] <;> simp_all [z_and], ht⟩) (fun _ h => absurd h List.not_mem_nil) dX9_mayBeFour_54
    · skip
      refine lv_iconst (v := (1 : Int32)) hx hb dX9_mayBeFour_49 (by decide) ?_
      refine lv_goto (tgt := 54) hx hb dX9_mayBeFour_50 (by decide) ?_
      exact W.zret (v := (1 : Int32)) (ty := .boolean) hx hb hr (by decide +kernel) (fun t ht _ => ⟨_, rfl, by simp only [f_X9_mayBeFour]; simp [*] <;> simp_all [z_and], ht⟩) (fun _ h => absurd h List.not_mem_nil) dX9_mayBeFour_54
theorem dX6_measured_0 : decode cX6_measured 0 = .ok (.iload_n 0, 1) := by decide +kernel
theorem dX6_measured_1 : decode cX6_measured 1 = .ok (.ifCond .ge 8, 3) := by decide +kernel
theorem dX6_measured_4 : decode cX6_measured 4 = .ok (.iload_n 0, 1) := by decide +kernel
theorem dX6_measured_5 : decode cX6_measured 5 = .ok (.ineg, 1) := by decide +kernel
theorem dX6_measured_6 : decode cX6_measured 6 = .ok (.goto 4, 3) := by decide +kernel
theorem dX6_measured_9 : decode cX6_measured 9 = .ok (.iload_n 0, 1) := by decide +kernel
theorem dX6_measured_10 : decode cX6_measured 10 = .ok (.iload_n 1, 1) := by decide +kernel
theorem dX6_measured_11 : decode cX6_measured 11 = .ok (.imul, 1) := by decide +kernel
theorem dX6_measured_12 : decode cX6_measured 12 = .ok (.iload_n 2, 1) := by decide +kernel
theorem dX6_measured_13 : decode cX6_measured 13 = .ok (.iadd, 1) := by decide +kernel
theorem dX6_measured_14 : decode cX6_measured 14 = .ok (.iload_n 3, 1) := by decide +kernel
theorem dX6_measured_15 : decode cX6_measured 15 = .ok (.ishr, 1) := by decide +kernel
theorem dX6_measured_16 : decode cX6_measured 16 = .ok (.istore 4, 2) := by decide +kernel
theorem dX6_measured_18 : decode cX6_measured 18 = .ok (.iload 4, 2) := by decide +kernel
theorem dX6_measured_20 : decode cX6_measured 20 = .ok (.sipush 2000, 3) := by decide +kernel
theorem dX6_measured_23 : decode cX6_measured 23 = .ok (.if_icmp .le 9, 3) := by decide +kernel
theorem dX6_measured_26 : decode cX6_measured 26 = .ok (.sipush 2000, 3) := by decide +kernel
theorem dX6_measured_29 : decode cX6_measured 29 = .ok (.goto 5, 3) := by decide +kernel
theorem dX6_measured_32 : decode cX6_measured 32 = .ok (.iload 4, 2) := by decide +kernel
theorem dX6_measured_34 : decode cX6_measured 34 = .ok (.istore 4, 2) := by decide +kernel
theorem dX6_measured_36 : decode cX6_measured 36 = .ok (.iload_n 0, 1) := by decide +kernel
theorem dX6_measured_37 : decode cX6_measured 37 = .ok (.ifCond .ge 9, 3) := by decide +kernel
theorem dX6_measured_40 : decode cX6_measured 40 = .ok (.iload 4, 2) := by decide +kernel
theorem dX6_measured_42 : decode cX6_measured 42 = .ok (.ineg, 1) := by decide +kernel
theorem dX6_measured_43 : decode cX6_measured 43 = .ok (.goto 5, 3) := by decide +kernel
theorem dX6_measured_46 : decode cX6_measured 46 = .ok (.iload 4, 2) := by decide +kernel
theorem dX6_measured_48 : decode cX6_measured 48 = .ok (.ireturn, 1) := by decide +kernel
def f_X6_measured (w fa ad sh : Int32) : Int32 := (if (0 : Int32) ≤ w then (if (((w * fa) + ad) >>> (sh &&& 31)) ≤ (2000 : Int32) then (((w * fa) + ad) >>> (sh &&& 31)) else (2000 : Int32)) else (if ((((-w) * fa) + ad) >>> (sh &&& 31)) ≤ (2000 : Int32) then (-((((-w) * fa) + ad) >>> (sh &&& 31))) else (-(2000 : Int32))))
set_option maxHeartbeats 1000000 in
theorem k_X6_measured (l : Launch) (w fa ad sh : Int32) : Met l yX6_measured wsX6_measured ({ frames := 0, cells := 0, slots := 0, locals := 0 }) (va_Pc [.int w, .int fa, .int ad, .int sh] (fun _ => True)) (vp_Si (fun r => r = f_X6_measured w fa ad sh)) 0 0 (fun _ => False) := by
  refine Met.ofW (cc := cX6_measured) (maxL := 5) (ret := (some .int)) (by decide) rfl ?_
  intro p e s m args below meth c s₁ B hml hv
  obtain ⟨rfl, -⟩ := hv
  have hx := B.exec
  have hb := B.bytes
  have hr := B.returns
  have hlocks := B.notSynchronized
  have hl := lv_entry ([.int w, .int fa, .int ad, .int sh]) (n := 5) (Nat.le_of_ble_eq_true rfl)
  rw [lg_entry_eq]
  generalize (lg_sl ([.int w, .int fa, .int ad, .int sh]) ++ List.replicate (5 - (lg_sl ([.int w, .int fa, .int ad, .int sh])).length) Slot.unset).toArray = ls at hl ⊢
  have hl : lv_has ls 5 [(0, .int w), (1, .int fa), (2, .int ad), (3, .int sh)] := hl
  refine lv_iload_n hx hb dX6_measured_0 rfl (lv_at hl 0 rfl) ?_
  refine lv_if_ge (tgt := 9) hx hb dX6_measured_1 (by decide) (fun c_1 => ?_) (fun c_1 => ?_)
  · skip
    refine lv_iload_n hx hb dX6_measured_9 rfl (lv_at hl 0 rfl) ?_
    refine lv_iload_n hx hb dX6_measured_10 rfl (lv_at hl 1 rfl) ?_
    refine lv_imul hx hb dX6_measured_11 ?_
    refine lv_iload_n hx hb dX6_measured_12 rfl (lv_at hl 2 rfl) ?_
    refine lv_iadd hx hb dX6_measured_13 ?_
    refine lv_iload_n hx hb dX6_measured_14 rfl (lv_at hl 3 rfl) ?_
    refine lv_ishr hx hb dX6_measured_15 ?_
    refine lv_istore (lv' := [(4, .int (((w * fa) + ad) >>> (sh &&& 31))), (0, .int w), (1, .int fa), (2, .int ad), (3, .int sh)]) hx hb dX6_measured_16 hl (by decide) rfl (fun ls hl => ?_)
    refine lv_iload hx hb dX6_measured_18 (lv_at hl 0 rfl) ?_
    refine lv_sipush (v := (2000 : Int32)) hx hb dX6_measured_20 (by decide) ?_
    refine lv_icmp_le (tgt := 32) hx hb dX6_measured_23 (by decide) (fun c_2 => ?_) (fun c_2 => ?_)
    · skip
      refine lv_iload hx hb dX6_measured_32 (lv_at hl 0 rfl) ?_
      refine lv_istore (lv' := [(4, .int (((w * fa) + ad) >>> (sh &&& 31))), (0, .int w), (1, .int fa), (2, .int ad), (3, .int sh)]) hx hb dX6_measured_34 hl (by decide) rfl (fun ls hl => ?_)
      refine lv_iload_n hx hb dX6_measured_36 rfl (lv_at hl 1 rfl) ?_
      refine lv_if_ge (tgt := 46) hx hb dX6_measured_37 (by decide) (fun c_3 => ?_) (fun c_3 => ?_)
      · skip
        refine lv_iload hx hb dX6_measured_46 (lv_at hl 0 rfl) ?_
        exact W.iret (v := (((w * fa) + ad) >>> (sh &&& 31))) hx hb hr (fun t ht _ => ⟨_, rfl, by simp only [f_X6_measured]; simp [*] <;> simp_all [z_and], ht⟩) (fun _ h => absurd h List.not_mem_nil) dX6_measured_48
      · exact absurd c_1 c_3
    · skip
      refine lv_sipush (v := (2000 : Int32)) hx hb dX6_measured_26 (by decide) ?_
      refine lv_goto (tgt := 34) hx hb dX6_measured_29 (by decide) ?_
      refine lv_istore (lv' := [(4, .int (2000 : Int32)), (0, .int w), (1, .int fa), (2, .int ad), (3, .int sh)]) hx hb dX6_measured_34 hl (by decide) rfl (fun ls hl => ?_)
      refine lv_iload_n hx hb dX6_measured_36 rfl (lv_at hl 1 rfl) ?_
      refine lv_if_ge (tgt := 46) hx hb dX6_measured_37 (by decide) (fun c_4 => ?_) (fun c_4 => ?_)
      · skip
        refine lv_iload hx hb dX6_measured_46 (lv_at hl 0 rfl) ?_
        exact W.iret (v := (2000 : Int32)) hx hb hr (fun t ht _ => ⟨_, rfl, by simp only [f_X6_measured]; simp [*] <;> simp_all [z_and], ht⟩) (fun _ h => absurd h List.not_mem_nil) dX6_measured_48
      · exact absurd c_1 c_4
  · skip
    refine lv_iload_n hx hb dX6_measured_4 rfl (lv_at hl 0 rfl) ?_
    refine lv_ineg hx hb dX6_measured_5 ?_
    refine lv_goto (tgt := 10) hx hb dX6_measured_6 (by decide) ?_
    refine lv_iload_n hx hb dX6_measured_10 rfl (lv_at hl 1 rfl) ?_
    refine lv_imul hx hb dX6_measured_11 ?_
    refine lv_iload_n hx hb dX6_measured_12 rfl (lv_at hl 2 rfl) ?_
    refine lv_iadd hx hb dX6_measured_13 ?_
    refine lv_iload_n hx hb dX6_measured_14 rfl (lv_at hl 3 rfl) ?_
    refine lv_ishr hx hb dX6_measured_15 ?_
    refine lv_istore (lv' := [(4, .int ((((-w) * fa) + ad) >>> (sh &&& 31))), (0, .int w), (1, .int fa), (2, .int ad), (3, .int sh)]) hx hb dX6_measured_16 hl (by decide) rfl (fun ls hl => ?_)
    refine lv_iload hx hb dX6_measured_18 (lv_at hl 0 rfl) ?_
    refine lv_sipush (v := (2000 : Int32)) hx hb dX6_measured_20 (by decide) ?_
    refine lv_icmp_le (tgt := 32) hx hb dX6_measured_23 (by decide) (fun c_5 => ?_) (fun c_5 => ?_)
    · skip
      refine lv_iload hx hb dX6_measured_32 (lv_at hl 0 rfl) ?_
      refine lv_istore (lv' := [(4, .int ((((-w) * fa) + ad) >>> (sh &&& 31))), (0, .int w), (1, .int fa), (2, .int ad), (3, .int sh)]) hx hb dX6_measured_34 hl (by decide) rfl (fun ls hl => ?_)
      refine lv_iload_n hx hb dX6_measured_36 rfl (lv_at hl 1 rfl) ?_
      refine lv_if_ge (tgt := 46) hx hb dX6_measured_37 (by decide) (fun c_6 => ?_) (fun c_6 => ?_)
      · exact absurd c_6 c_1
      · skip
        refine lv_iload hx hb dX6_measured_40 (lv_at hl 0 rfl) ?_
        refine lv_ineg hx hb dX6_measured_42 ?_
        refine lv_goto (tgt := 48) hx hb dX6_measured_43 (by decide) ?_
        exact W.iret (v := (-((((-w) * fa) + ad) >>> (sh &&& 31)))) hx hb hr (fun t ht _ => ⟨_, rfl, by simp only [f_X6_measured]; simp [*] <;> simp_all [z_and], ht⟩) (fun _ h => absurd h List.not_mem_nil) dX6_measured_48
    · skip
      refine lv_sipush (v := (2000 : Int32)) hx hb dX6_measured_26 (by decide) ?_
      refine lv_goto (tgt := 34) hx hb dX6_measured_29 (by decide) ?_
      refine lv_istore (lv' := [(4, .int (2000 : Int32)), (0, .int w), (1, .int fa), (2, .int ad), (3, .int sh)]) hx hb dX6_measured_34 hl (by decide) rfl (fun ls hl => ?_)
      refine lv_iload_n hx hb dX6_measured_36 rfl (lv_at hl 1 rfl) ?_
      refine lv_if_ge (tgt := 46) hx hb dX6_measured_37 (by decide) (fun c_7 => ?_) (fun c_7 => ?_)
      · exact absurd c_7 c_1
      · skip
        refine lv_iload hx hb dX6_measured_40 (lv_at hl 0 rfl) ?_
        refine lv_ineg hx hb dX6_measured_42 ?_
        refine lv_goto (tgt := 48) hx hb dX6_measured_43 (by decide) ?_
        exact W.iret (v := (-(2000 : Int32))) hx hb hr (fun t ht _ => ⟨_, rfl, by simp only [f_X6_measured]; simp [*] <;> simp_all [z_and], ht⟩) (fun _ h => absurd h List.not_mem_nil) dX6_measured_48
theorem dX6_roundingOf_0 : decode cX6_roundingOf 0 = .ok (.iconst 1, 1) := by decide +kernel
theorem dX6_roundingOf_1 : decode cX6_roundingOf 1 = .ok (.bipush 15, 2) := by decide +kernel
theorem dX6_roundingOf_3 : decode cX6_roundingOf 3 = .ok (.iload_n 0, 1) := by decide +kernel
theorem dX6_roundingOf_4 : decode cX6_roundingOf 4 = .ok (.bipush 6, 2) := by decide +kernel
theorem dX6_roundingOf_6 : decode cX6_roundingOf 6 = .ok (.idiv, 1) := by decide +kernel
theorem dX6_roundingOf_7 : decode cX6_roundingOf 7 = .ok (.iadd, 1) := by decide +kernel
theorem dX6_roundingOf_8 : decode cX6_roundingOf 8 = .ok (.ishl, 1) := by decide +kernel
theorem dX6_roundingOf_9 : decode cX6_roundingOf 9 = .ok (.iload_n 1, 1) := by decide +kernel
theorem dX6_roundingOf_10 : decode cX6_roundingOf 10 = .ok (.ifCond .eq 7, 3) := by decide +kernel
theorem dX6_roundingOf_13 : decode cX6_roundingOf 13 = .ok (.iconst 3, 1) := by decide +kernel
theorem dX6_roundingOf_14 : decode cX6_roundingOf 14 = .ok (.goto 5, 3) := by decide +kernel
theorem dX6_roundingOf_17 : decode cX6_roundingOf 17 = .ok (.bipush 6, 2) := by decide +kernel
theorem dX6_roundingOf_19 : decode cX6_roundingOf 19 = .ok (.idiv, 1) := by decide +kernel
theorem dX6_roundingOf_20 : decode cX6_roundingOf 20 = .ok (.ireturn, 1) := by decide +kernel
def f_X6_roundingOf (q i : Int32) : Int32 := (if i = (0 : Int32) then (((1 : Int32) <<< (((15 : Int32) + (q / (6 : Int32))) &&& 31)) / (6 : Int32)) else (((1 : Int32) <<< (((15 : Int32) + (q / (6 : Int32))) &&& 31)) / (3 : Int32)))
set_option maxHeartbeats 1000000 in
theorem k_X6_roundingOf (l : Launch) (q i : Int32) : Met l yX6_roundingOf wsX6_roundingOf ({ frames := 0, cells := 0, slots := 0, locals := 0 }) (va_Pc [.int q, .int i] (fun _ => True)) (vp_Si (fun r => r = f_X6_roundingOf q i)) 0 0 (fun _ => False) := by
  refine Met.ofW (cc := cX6_roundingOf) (maxL := 2) (ret := (some .int)) (by decide) rfl ?_
  intro p e s m args below meth c s₁ B hml hv
  obtain ⟨rfl, -⟩ := hv
  have hx := B.exec
  have hb := B.bytes
  have hr := B.returns
  have hlocks := B.notSynchronized
  have hl := lv_entry ([.int q, .int i]) (n := 2) (Nat.le_of_ble_eq_true rfl)
  rw [lg_entry_eq]
  generalize (lg_sl ([.int q, .int i]) ++ List.replicate (2 - (lg_sl ([.int q, .int i])).length) Slot.unset).toArray = ls at hl ⊢
  have hl : lv_has ls 2 [(0, .int q), (1, .int i)] := hl
  refine lv_iconst (v := (1 : Int32)) hx hb dX6_roundingOf_0 (by decide) ?_
  refine lv_bipush (v := (15 : Int32)) hx hb dX6_roundingOf_1 (by decide) ?_
  refine lv_iload_n hx hb dX6_roundingOf_3 rfl (lv_at hl 0 rfl) ?_
  refine lv_bipush (v := (6 : Int32)) hx hb dX6_roundingOf_4 (by decide) ?_
  refine lv_idiv hx hb dX6_roundingOf_6 (by decide) ?_
  refine lv_iadd hx hb dX6_roundingOf_7 ?_
  refine lv_ishl hx hb dX6_roundingOf_8 ?_
  refine lv_iload_n hx hb dX6_roundingOf_9 rfl (lv_at hl 1 rfl) ?_
  refine lv_if_eq (tgt := 17) hx hb dX6_roundingOf_10 (by decide) (fun c_1 => ?_) (fun c_1 => ?_)
  · skip
    refine lv_bipush (v := (6 : Int32)) hx hb dX6_roundingOf_17 (by decide) ?_
    refine lv_idiv hx hb dX6_roundingOf_19 (by decide) ?_
    exact W.iret (v := (((1 : Int32) <<< (((15 : Int32) + (q / (6 : Int32))) &&& 31)) / (6 : Int32))) hx hb hr (fun t ht _ => ⟨_, rfl, by simp only [f_X6_roundingOf]; simp [*] <;> simp_all [z_and], ht⟩) (fun _ h => absurd h List.not_mem_nil) dX6_roundingOf_20
  · skip
    refine lv_iconst (v := (3 : Int32)) hx hb dX6_roundingOf_13 (by decide) ?_
    refine lv_goto (tgt := 19) hx hb dX6_roundingOf_14 (by decide) ?_
    refine lv_idiv hx hb dX6_roundingOf_19 (by decide) ?_
    exact W.iret (v := (((1 : Int32) <<< (((15 : Int32) + (q / (6 : Int32))) &&& 31)) / (3 : Int32))) hx hb hr (fun t ht _ => ⟨_, rfl, by simp only [f_X6_roundingOf]; simp [*] <;> simp_all [z_and], ht⟩) (fun _ h => absurd h List.not_mem_nil) dX6_roundingOf_20
