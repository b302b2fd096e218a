/-! the header of a slice, written: printed out of the functions' trees -/
theorem w_lists0 {G : GG} {M N : DD} {u fr c0 n : Nat} {st : Nat → Nat} {B : List Nat} {D : List Tok} {L : NN} {o h9 r : Nat} (g118_7 : (M.1 118 7).toInt = ((r : Nat) : Int)) (g216_1 : (M.1 216 1).toInt = (0 : Int)) (g216_9 : (M.1 216 9).toInt = ((h9 : Nat) : Int)) (ho : (o = 0 ∧ ((h9 : Nat) : Int) = ((r : Nat) : Int)) ∨ (o = 1 ∧ ¬ ((h9 : Nat) : Int) = ((r : Nat) : Int))) (b9 : 1 ≤ h9 ∧ h9 ≤ 8) (hn : n ≤ 200000) (h : WV G M u fr st B c0 D n L N) : OK (FX0_writeLists (xt G L) N 116) (fun y => WV G M u fr st B c0 (((D ++ toks 0 (o) 1) ++ (if ((o : Nat) : Int) = (1 : Int) then (ueT 0 (h9 - 1)) else ([] : List Tok))) ++ toks 0 (0) 1) (n + 177) (L ++ y.1) y.2) := by
  unfold FX0_writeLists
  simp only [xt_xt, List.append_nil]
  refine ok_drW (b := 125) h.1 (by decide) rfl rfl (by decide) rfl ?_
  refine ok_drW (b := 215) h.1 (by decide) rfl rfl (by decide) rfl ?_
  refine ok_drW (b := 216) h.1 (by decide) rfl rfl (by decide) rfl ?_
  refine ok_chk (by rw [wu_len h.1 (b := 216) (by decide) rfl]; decide) ?_
  refine ok_ltt (fun x5 ex5 => ?_)
  have vx5 : x5.toInt = (0 : Int) := by rw [ex5]; exact (congrArg Int32.toInt (wu_rd h.1 (by decide) rfl 1)).trans g216_1
  rw [if_neg (show ¬ (x5 = (1 : Int32)) from fun qq => absurd (pz_eq.mp qq) (by rw [(show (x5).toInt = (0 : Int) from vx5), (show ((1 : Int32)).toInt = (1 : Int) from rfl)] <;> first | decide | omega))]
  refine ok_bnd (Q := fun y => y.toInt = (0 : Int)) (ok_some rfl) ?_
  intro y6 vy6
  rw [if_pos (show y6 = (0 : Int32) from pz_eq.mpr (by rw [(show (y6).toInt = (0 : Int) from vy6), (show ((0 : Int32)).toInt = (0 : Int) from rfl)] <;> first | decide | omega))]
  refine ok_bnd (Q := fun y7 => WV G M u fr st B c0 D (n + 0) ((L) ++ y7.1) y7.2) ?_ ?_
  · skip
    refine ok_some ?_
    have z := h
    simp only [List.append_assoc, List.nil_append, List.append_nil] at z ⊢
    exact z
  intro y7 hy7
  refine ok_app (ok_ltt (fun L9 eL9 => ?_))
  have hL9 : WV G M u fr st B c0 D (n + 0) (L ++ L9) y7.2 := by
    have z := hy7
    rw [eL9]
    simp only [List.append_assoc, List.nil_append] at z ⊢
    exact z
  refine ok_chk (by rw [wu_len hL9.1 (b := 216) (by decide) rfl]; decide) ?_
  refine ok_ltt (fun x11 ex11 => ?_)
  have vx11 : x11.toInt = ((h9 : Nat) : Int) := by rw [ex11]; exact (congrArg Int32.toInt (wu_rd hL9.1 (by decide) rfl 9)).trans g216_9
  refine ok_drW (b := 118) hL9.1 (by decide) rfl rfl (by decide) rfl ?_
  refine ok_chk (by rw [wu_len hL9.1 (b := 118) (by decide) rfl]; decide) ?_
  refine ok_ltt (fun x13 ex13 => ?_)
  have vx13 : x13.toInt = ((r : Nat) : Int) := by rw [ex13]; exact (congrArg Int32.toInt (wu_rd hL9.1 (by decide) rfl 7)).trans g118_7
  refine ok_bnd (Q := fun y => y.toInt = ((o : Nat) : Int)) (ok_if ?_ ?_) ?_
  · intro hc
    have hq : (((h9 : Nat) : Int) = ((r : Nat) : Int)) := by
      exact (show _ = ((h9 : Nat) : Int) from vx11).symm.trans ((congrArg Int32.toInt hc).trans (show _ = ((r : Nat) : Int) from vx13))
    refine ok_some ?_
    show (0 : Int) = ((o : Nat) : Int)
    omega
  · intro hc
    have hq : ¬ (((h9 : Nat) : Int) = ((r : Nat) : Int)) := by
      exact fun q => hc (Int32.toInt_inj.1 (Eq.trans vx11 (Eq.trans q (Eq.symm vx13))))
    refine ok_some ?_
    show (1 : Int) = ((o : Nat) : Int)
    omega
  intro y14 vy14
  refine ok_bnd (Q := fun y => y.toInt = ((o : Nat) : Int)) (ok_if ?_ ?_) ?_
  · intro hc
    have hq : (((o : Nat) : Int) = (0 : Int)) := by
      exact (show _ = ((o : Nat) : Int) from vy14).symm.trans ((congrArg Int32.toInt hc).trans (show _ = (0 : Int) from rfl))
    refine ok_some ?_
    show (0 : Int) = ((o : Nat) : Int)
    omega
  · intro hc
    have hq : ¬ (((o : Nat) : Int) = (0 : Int)) := by
      exact fun q => hc (Int32.toInt_inj.1 (Eq.trans vy14 (Eq.trans q (Eq.symm rfl))))
    refine ok_some ?_
    show (1 : Int) = ((o : Nat) : Int)
    omega
  intro y15 vy15
  refine ok_chk (by rw [wu_ref h.1 (a := 215) (f := 0) (b := 216) (by decide) rfl rfl (by decide)]; exact okd_sm (wu_lt h.1 (by decide) _)) ?_
  refine ok_bnd (wv_flag (V := o) hL9 vy15 (by omega)) ?_
  intro y16 hy16
  have hy16 : WV G M u fr st B c0 (D ++ toks 0 (o) 1) (n + 59) ((L ++ L9) ++ y16.1) y16.2 := hy16
  refine ok_app (ok_ltt (fun L19 eL19 => ?_))
  have hL19 : WV G M u fr st B c0 (D ++ toks 0 (o) 1) (n + 59) (L ++ L19) y16.2 := by
    have z := hy16
    rw [eL19]
    simp only [List.append_assoc, List.nil_append] at z ⊢
    exact z
  refine ok_bnd (Q := fun y22 => WV G M u fr st B c0 ((D ++ toks 0 (o) 1) ++ (if ((o : Nat) : Int) = (1 : Int) then (ueT 0 (h9 - 1)) else ([] : List Tok))) (n + 118) ((L ++ L19) ++ y22.1) y22.2) (ok_if ?_ ?_) ?_
  · intro hc
    have hq : (((o : Nat) : Int) = (0 : Int)) := by
      exact (show _ = ((o : Nat) : Int) from vy14).symm.trans ((congrArg Int32.toInt hc).trans (show _ = (0 : Int) from rfl))
    have hqq : ¬ (((o : Nat) : Int) = (1 : Int)) := by first | exact hq | (intro q; exact q hq) | omega
    refine ok_some (wv_le (n := n + 59) ?_ (by omega))
    rw [show (if ((o : Nat) : Int) = (1 : Int) then (ueT 0 (h9 - 1)) else ([] : List Tok)) = ([] : List Tok) from if_neg hqq]
    have z := hL19
    simp only [List.append_assoc, List.nil_append, List.append_nil] at z ⊢
    exact z
  · intro hc
    have hq : ¬ (((o : Nat) : Int) = (0 : Int)) := by
      exact fun q => hc (Int32.toInt_inj.1 (Eq.trans vy14 (Eq.trans q (Eq.symm rfl))))
    have hqq : (((o : Nat) : Int) = (1 : Int)) := by first | exact hq | (intro q; exact q hq) | omega
    refine ok_chk (by rw [wu_len hL19.1 (b := 216) (by decide) rfl]; decide) ?_
    refine ok_ltt (fun x62 ex62 => ?_)
    have vx62 : x62.toInt = ((h9 : Nat) : Int) := by rw [ex62]; exact (congrArg Int32.toInt (wu_rd hL19.1 (by decide) rfl 9)).trans g216_9
    refine ok_ltt (fun x63 ex63 => ?_)
    have vx63 : x63.toInt = ((h9 - 1 : Nat) : Int) := by
      have q1 : (x62).toInt = ((h9 : Nat) : Int) := vx62
      have q2 : ((1 : Int32)).toInt = (1 : Int) := rfl
      rw [ex63, ti_sub (by rw [q1, q2]; omega) (by rw [q1, q2]; omega), q1, q2] <;> omega
    refine ok_drW (b := 119) hL19.1 (by decide) rfl rfl (by decide) rfl ?_
    refine ok_bnd (wv_ue (v := h9 - 1) hL19 rfl vx63 (by omega) (by omega)) ?_
    intro y65 hy65
    have hy65 : WV G M u fr st B c0 ((D ++ toks 0 (o) 1) ++ ueT 0 (h9 - 1)) (n + 118) ((L ++ L19) ++ y65.1) y65.2 := hy65
    refine ok_app (ok_ltt (fun L67 eL67 => ?_))
    have hL67 : WV G M u fr st B c0 ((D ++ toks 0 (o) 1) ++ ueT 0 (h9 - 1)) (n + 118) (L ++ L67) y65.2 := by
      have z := hy65
      rw [eL67]
      simp only [List.append_assoc, List.nil_append] at z ⊢
      exact z
    refine ok_some (wv_le (n := n + 118) ?_ (by omega))
    rw [show (if ((o : Nat) : Int) = (1 : Int) then (ueT 0 (h9 - 1)) else ([] : List Tok)) = (ueT 0 (h9 - 1)) from if_pos hqq]
    have z := hL67
    simp only [eL67, List.append_assoc, List.nil_append, List.append_nil] at z ⊢
    exact z
  intro y22 hy22
  refine ok_app (ok_ltt (fun L24 eL24 => ?_))
  have hL24 : WV G M u fr st B c0 ((D ++ toks 0 (o) 1) ++ (if ((o : Nat) : Int) = (1 : Int) then (ueT 0 (h9 - 1)) else ([] : List Tok))) (n + 118) (L ++ L24) y22.2 := by
    have z := hy22
    rw [eL24]
    simp only [List.append_assoc, List.nil_append] at z ⊢
    exact z
  refine ok_bnd (Q := fun y26 => WV G M u fr st B c0 ((D ++ toks 0 (o) 1) ++ (if ((o : Nat) : Int) = (1 : Int) then (ueT 0 (h9 - 1)) else ([] : List Tok))) (n + 118) ((L ++ L24) ++ y26.1) y26.2) (ok_if ?_ ?_) ?_
  · intro hc
    have hq : (((o : Nat) : Int) = (0 : Int)) := by
      exact (show _ = ((o : Nat) : Int) from vy14).symm.trans ((congrArg Int32.toInt hc).trans (show _ = (0 : Int) from rfl))
    refine ok_some (wv_le (n := n + 118) ?_ (by omega))
    have z := hL24
    simp only [List.append_assoc, List.nil_append, List.append_nil] at z ⊢
    exact z
  · intro hc
    have hq : ¬ (((o : Nat) : Int) = (0 : Int)) := by
      exact fun q => hc (Int32.toInt_inj.1 (Eq.trans vy14 (Eq.trans q (Eq.symm rfl))))
    rw [if_pos (show y6 = (0 : Int32) from pz_eq.mpr (by rw [(show (y6).toInt = (0 : Int) from vy6), (show ((0 : Int32)).toInt = (0 : Int) from rfl)] <;> first | decide | omega))]
    refine ok_bnd (Q := fun y48 => WV G M u fr st B c0 ((D ++ toks 0 (o) 1) ++ (if ((o : Nat) : Int) = (1 : Int) then (ueT 0 (h9 - 1)) else ([] : List Tok))) (n + 118) ((L ++ L24) ++ y48.1) y48.2) ?_ ?_
    · skip
      refine ok_some ?_
      have z := hL24
      simp only [List.append_assoc, List.nil_append, List.append_nil] at z ⊢
      exact z
    intro y48 hy48
    refine ok_app (ok_ltt (fun L50 eL50 => ?_))
    have hL50 : WV G M u fr st B c0 ((D ++ toks 0 (o) 1) ++ (if ((o : Nat) : Int) = (1 : Int) then (ueT 0 (h9 - 1)) else ([] : List Tok))) (n + 118) (L ++ L50) y48.2 := by
      have z := hy48
      rw [eL50]
      simp only [List.append_assoc, List.nil_append] at z ⊢
      exact z
    refine ok_some (wv_le (n := n + 118) ?_ (by omega))
    have z := hL50
    simp only [eL50, List.append_assoc, List.nil_append, List.append_nil] at z ⊢
    exact z
  intro y26 hy26
  refine ok_app (ok_ltt (fun L28 eL28 => ?_))
  have hL28 : WV G M u fr st B c0 ((D ++ toks 0 (o) 1) ++ (if ((o : Nat) : Int) = (1 : Int) then (ueT 0 (h9 - 1)) else ([] : List Tok))) (n + 118) (L ++ L28) y26.2 := by
    have z := hy26
    rw [eL28]
    simp only [List.append_assoc, List.nil_append] at z ⊢
    exact z
  refine ok_bnd (wv_flag (V := 0) hL28 rfl (by omega)) ?_
  intro y30 hy30
  have hy30 : WV G M u fr st B c0 (((D ++ toks 0 (o) 1) ++ (if ((o : Nat) : Int) = (1 : Int) then (ueT 0 (h9 - 1)) else ([] : List Tok))) ++ toks 0 (0) 1) (n + 177) ((L ++ L28) ++ y30.1) y30.2 := hy30
  refine ok_app (ok_ltt (fun L32 eL32 => ?_))
  have hL32 : WV G M u fr st B c0 (((D ++ toks 0 (o) 1) ++ (if ((o : Nat) : Int) = (1 : Int) then (ueT 0 (h9 - 1)) else ([] : List Tok))) ++ toks 0 (0) 1) (n + 177) (L ++ L32) y30.2 := by
    have z := hy30
    rw [eL32]
    simp only [List.append_assoc, List.nil_append] at z ⊢
    exact z
  rw [if_pos (show y6 = (0 : Int32) from pz_eq.mpr (by rw [(show (y6).toInt = (0 : Int) from vy6), (show ((0 : Int32)).toInt = (0 : Int) from rfl)] <;> first | decide | omega))]
  refine ok_bnd (Q := fun y35 => WV G M u fr st B c0 (((D ++ toks 0 (o) 1) ++ (if ((o : Nat) : Int) = (1 : Int) then (ueT 0 (h9 - 1)) else ([] : List Tok))) ++ toks 0 (0) 1) (n + 177) ((L ++ L32) ++ y35.1) y35.2) ?_ ?_
  · skip
    refine ok_some ?_
    have z := hL32
    simp only [List.append_assoc, List.nil_append, List.append_nil] at z ⊢
    exact z
  intro y35 hy35
  refine ok_app (ok_ltt (fun L37 eL37 => ?_))
  have hL37 : WV G M u fr st B c0 (((D ++ toks 0 (o) 1) ++ (if ((o : Nat) : Int) = (1 : Int) then (ueT 0 (h9 - 1)) else ([] : List Tok))) ++ toks 0 (0) 1) (n + 177) (L ++ L37) y35.2 := by
    have z := hy35
    rw [eL37]
    simp only [List.append_assoc, List.nil_append] at z ⊢
    exact z
  refine ok_some ?_
  have z := hL37
  simp only [eL9, eL19, eL24, eL28, eL32, eL37, List.append_assoc, List.nil_append, List.append_nil] at z ⊢
  exact z
theorem w_lists1 {G : GG} {M N : DD} {u fr c0 n : Nat} {st : Nat → Nat} {B : List Nat} {D : List Tok} {L : NN} {o h9 r : Nat} {h8 : Nat} (g118_7 : (M.1 118 7).toInt = ((r : Nat) : Int)) (g216_1 : (M.1 216 1).toInt = (1 : Int)) (g216_8 : (M.1 216 8).toInt = ((h8 : Nat) : Int)) (g216_9 : (M.1 216 9).toInt = ((h9 : Nat) : Int)) (ho : (o = 0 ∧ ((h9 : Nat) : Int) = ((r : Nat) : Int)) ∨ (o = 1 ∧ ¬ ((h9 : Nat) : Int) = ((r : Nat) : Int))) (b9 : 1 ≤ h9 ∧ h9 ≤ 8) (hn : n ≤ 200000) (h : WV G M u fr st B c0 D n L N) : OK (FX0_writeLists (xt G L) N 116) (fun y => WV G M u fr st B c0 ((((((D ++ toks 0 (h8) 1) ++ toks 0 (o) 1) ++ (if ((o : Nat) : Int) = (1 : Int) then (ueT 0 (h9 - 1)) else ([] : List Tok))) ++ (if ((o : Nat) : Int) = (1 : Int) then (ueT 0 (0)) else ([] : List Tok))) ++ toks 0 (0) 1) ++ toks 0 (0) 1) (n + 354) (L ++ y.1) y.2) := by
  unfold FX0_writeLists
  simp only [xt_xt, List.append_nil]
  refine ok_drW (b := 125) h.1 (by decide) rfl rfl (by decide) rfl ?_
  refine ok_drW (b := 215) h.1 (by decide) rfl rfl (by decide) rfl ?_
  refine ok_drW (b := 216) h.1 (by decide) rfl rfl (by decide) rfl ?_
  refine ok_chk (by rw [wu_len h.1 (b := 216) (by decide) rfl]; decide) ?_
  refine ok_ltt (fun x5 ex5 => ?_)
  have vx5 : x5.toInt = (1 : Int) := by rw [ex5]; exact (congrArg Int32.toInt (wu_rd h.1 (by decide) rfl 1)).trans g216_1
  rw [if_pos (show x5 = (1 : Int32) from pz_eq.mpr (by rw [(show (x5).toInt = (1 : Int) from vx5), (show ((1 : Int32)).toInt = (1 : Int) from rfl)] <;> first | decide | omega))]
  refine ok_bnd (Q := fun y => y.toInt = (1 : Int)) (ok_some rfl) ?_
  intro y6 vy6
  rw [if_neg (show ¬ (y6 = (0 : Int32)) from fun qq => absurd (pz_eq.mp qq) (by rw [(show (y6).toInt = (1 : Int) from vy6), (show ((0 : Int32)).toInt = (0 : Int) from rfl)] <;> first | decide | omega))]
  refine ok_bnd (Q := fun y7 => WV G M u fr st B c0 (D ++ toks 0 (h8) 1) (n + 59) ((L) ++ y7.1) y7.2) ?_ ?_
  · skip
    refine ok_chk (by rw [wu_len h.1 (b := 216) (by decide) rfl]; decide) ?_
    refine ok_ltt (fun x74 ex74 => ?_)
    have vx74 : x74.toInt = ((h8 : Nat) : Int) := by rw [ex74]; exact (congrArg Int32.toInt (wu_rd h.1 (by decide) rfl 8)).trans g216_8
    refine ok_chk (by rw [wu_ref h.1 (a := 215) (f := 0) (b := 216) (by decide) rfl rfl (by decide)]; exact okd_sm (wu_lt h.1 (by decide) _)) ?_
    refine ok_bnd (wv_flag (V := h8) h vx74 (by omega)) ?_
    intro y75 hy75
    have hy75 : WV G M u fr st B c0 (D ++ toks 0 (h8) 1) (n + 59) ((L) ++ y75.1) y75.2 := hy75
    refine ok_app (ok_ltt (fun L78 eL78 => ?_))
    have hL78 : WV G M u fr st B c0 (D ++ toks 0 (h8) 1) (n + 59) (L ++ L78) y75.2 := by
      have z := hy75
      rw [eL78]
      simp only [List.append_assoc, List.nil_append] at z ⊢
      exact z
    refine ok_some ?_
    have z := hL78
    simp only [eL78, List.append_assoc, List.nil_append, List.append_nil] at z ⊢
    exact z
  intro y7 hy7
  refine ok_app (ok_ltt (fun L9 eL9 => ?_))
  have hL9 : WV G M u fr st B c0 (D ++ toks 0 (h8) 1) (n + 59) (L ++ L9) y7.2 := by
    have z := hy7
    rw [eL9]
    simp only [List.append_assoc, List.nil_append] at z ⊢
    exact z
  refine ok_chk (by rw [wu_len hL9.1 (b := 216) (by decide) rfl]; decide) ?_
  refine ok_ltt (fun x11 ex11 => ?_)
  have vx11 : x11.toInt = ((h9 : Nat) : Int) := by rw [ex11]; exact (congrArg Int32.toInt (wu_rd hL9.1 (by decide) rfl 9)).trans g216_9
  refine ok_drW (b := 118) hL9.1 (by decide) rfl rfl (by decide) rfl ?_
  refine ok_chk (by rw [wu_len hL9.1 (b := 118) (by decide) rfl]; decide) ?_
  refine ok_ltt (fun x13 ex13 => ?_)
  have vx13 : x13.toInt = ((r : Nat) : Int) := by rw [ex13]; exact (congrArg Int32.toInt (wu_rd hL9.1 (by decide) rfl 7)).trans g118_7
  refine ok_bnd (Q := fun y => y.toInt = ((o : Nat) : Int)) (ok_if ?_ ?_) ?_
  · intro hc
    have hq : (((h9 : Nat) : Int) = ((r : Nat) : Int)) := by
      exact (show _ = ((h9 : Nat) : Int) from vx11).symm.trans ((congrArg Int32.toInt hc).trans (show _ = ((r : Nat) : Int) from vx13))
    refine ok_some ?_
    show (0 : Int) = ((o : Nat) : Int)
    omega
  · intro hc
    have hq : ¬ (((h9 : Nat) : Int) = ((r : Nat) : Int)) := by
      exact fun q => hc (Int32.toInt_inj.1 (Eq.trans vx11 (Eq.trans q (Eq.symm vx13))))
    refine ok_some ?_
    show (1 : Int) = ((o : Nat) : Int)
    omega
  intro y14 vy14
  refine ok_bnd (Q := fun y => y.toInt = ((o : Nat) : Int)) (ok_if ?_ ?_) ?_
  · intro hc
    have hq : (((o : Nat) : Int) = (0 : Int)) := by
      exact (show _ = ((o : Nat) : Int) from vy14).symm.trans ((congrArg Int32.toInt hc).trans (show _ = (0 : Int) from rfl))
    refine ok_some ?_
    show (0 : Int) = ((o : Nat) : Int)
    omega
  · intro hc
    have hq : ¬ (((o : Nat) : Int) = (0 : Int)) := by
      exact fun q => hc (Int32.toInt_inj.1 (Eq.trans vy14 (Eq.trans q (Eq.symm rfl))))
    refine ok_some ?_
    show (1 : Int) = ((o : Nat) : Int)
    omega
  intro y15 vy15
  refine ok_chk (by rw [wu_ref h.1 (a := 215) (f := 0) (b := 216) (by decide) rfl rfl (by decide)]; exact okd_sm (wu_lt h.1 (by decide) _)) ?_
  refine ok_bnd (wv_flag (V := o) hL9 vy15 (by omega)) ?_
  intro y16 hy16
  have hy16 : WV G M u fr st B c0 ((D ++ toks 0 (h8) 1) ++ toks 0 (o) 1) (n + 118) ((L ++ L9) ++ y16.1) y16.2 := hy16
  refine ok_app (ok_ltt (fun L19 eL19 => ?_))
  have hL19 : WV G M u fr st B c0 ((D ++ toks 0 (h8) 1) ++ toks 0 (o) 1) (n + 118) (L ++ L19) y16.2 := by
    have z := hy16
    rw [eL19]
    simp only [List.append_assoc, List.nil_append] at z ⊢
    exact z
  refine ok_bnd (Q := fun y22 => WV G M u fr st B c0 (((D ++ toks 0 (h8) 1) ++ toks 0 (o) 1) ++ (if ((o : Nat) : Int) = (1 : Int) then (ueT 0 (h9 - 1)) else ([] : List Tok))) (n + 177) ((L ++ L19) ++ y22.1) y22.2) (ok_if ?_ ?_) ?_
  · intro hc
    have hq : (((o : Nat) : Int) = (0 : Int)) := by
      exact (show _ = ((o : Nat) : Int) from vy14).symm.trans ((congrArg Int32.toInt hc).trans (show _ = (0 : Int) from rfl))
    have hqq : ¬ (((o : Nat) : Int) = (1 : Int)) := by first | exact hq | (intro q; exact q hq) | omega
    refine ok_some (wv_le (n := n + 118) ?_ (by omega))
    rw [show (if ((o : Nat) : Int) = (1 : Int) then (ueT 0 (h9 - 1)) else ([] : List Tok)) = ([] : List Tok) from if_neg hqq]
    have z := hL19
    simp only [List.append_assoc, List.nil_append, List.append_nil] at z ⊢
    exact z
  · intro hc
    have hq : ¬ (((o : Nat) : Int) = (0 : Int)) := by
      exact fun q => hc (Int32.toInt_inj.1 (Eq.trans vy14 (Eq.trans q (Eq.symm rfl))))
    have hqq : (((o : Nat) : Int) = (1 : Int)) := by first | exact hq | (intro q; exact q hq) | omega
    refine ok_chk (by rw [wu_len hL19.1 (b := 216) (by decide) rfl]; decide) ?_
    refine ok_ltt (fun x62 ex62 => ?_)
    have vx62 : x62.toInt = ((h9 : Nat) : Int) := by rw [ex62]; exact (congrArg Int32.toInt (wu_rd hL19.1 (by decide) rfl 9)).trans g216_9
    refine ok_ltt (fun x63 ex63 => ?_)
    have vx63 : x63.toInt = ((h9 - 1 : Nat) : Int) := by
      have q1 : (x62).toInt = ((h9 : Nat) : Int) := vx62
      have q2 : ((1 : Int32)).toInt = (1 : Int) := rfl
      rw [ex63, ti_sub (by rw [q1, q2]; omega) (by rw [q1, q2]; omega), q1, q2] <;> omega
    refine ok_drW (b := 119) hL19.1 (by decide) rfl rfl (by decide) rfl ?_
    refine ok_bnd (wv_ue (v := h9 - 1) hL19 rfl vx63 (by omega) (by omega)) ?_
    intro y65 hy65
    have hy65 : WV G M u fr st B c0 (((D ++ toks 0 (h8) 1) ++ toks 0 (o) 1) ++ ueT 0 (h9 - 1)) (n + 177) ((L ++ L19) ++ y65.1) y65.2 := hy65
    refine ok_app (ok_ltt (fun L67 eL67 => ?_))
    have hL67 : WV G M u fr st B c0 (((D ++ toks 0 (h8) 1) ++ toks 0 (o) 1) ++ ueT 0 (h9 - 1)) (n + 177) (L ++ L67) y65.2 := by
      have z := hy65
      rw [eL67]
      simp only [List.append_assoc, List.nil_append] at z ⊢
      exact z
    refine ok_some (wv_le (n := n + 177) ?_ (by omega))
    rw [show (if ((o : Nat) : Int) = (1 : Int) then (ueT 0 (h9 - 1)) else ([] : List Tok)) = (ueT 0 (h9 - 1)) from if_pos hqq]
    have z := hL67
    simp only [eL67, List.append_assoc, List.nil_append, List.append_nil] at z ⊢
    exact z
  intro y22 hy22
  refine ok_app (ok_ltt (fun L24 eL24 => ?_))
  have hL24 : WV G M u fr st B c0 (((D ++ toks 0 (h8) 1) ++ toks 0 (o) 1) ++ (if ((o : Nat) : Int) = (1 : Int) then (ueT 0 (h9 - 1)) else ([] : List Tok))) (n + 177) (L ++ L24) y22.2 := by
    have z := hy22
    rw [eL24]
    simp only [List.append_assoc, List.nil_append] at z ⊢
    exact z
  refine ok_bnd (Q := fun y26 => WV G M u fr st B c0 ((((D ++ toks 0 (h8) 1) ++ toks 0 (o) 1) ++ (if ((o : Nat) : Int) = (1 : Int) then (ueT 0 (h9 - 1)) else ([] : List Tok))) ++ (if ((o : Nat) : Int) = (1 : Int) then (ueT 0 (0)) else ([] : List Tok))) (n + 236) ((L ++ L24) ++ y26.1) y26.2) (ok_if ?_ ?_) ?_
  · intro hc
    have hq : (((o : Nat) : Int) = (0 : Int)) := by
      exact (show _ = ((o : Nat) : Int) from vy14).symm.trans ((congrArg Int32.toInt hc).trans (show _ = (0 : Int) from rfl))
    have hqq : ¬ (((o : Nat) : Int) = (1 : Int)) := by first | exact hq | (intro q; exact q hq) | omega
    refine ok_some (wv_le (n := n + 177) ?_ (by omega))
    rw [show (if ((o : Nat) : Int) = (1 : Int) then (ueT 0 (0)) else ([] : List Tok)) = ([] : List Tok) from if_neg hqq]
    have z := hL24
    simp only [List.append_assoc, List.nil_append, List.append_nil] at z ⊢
    exact z
  · intro hc
    have hq : ¬ (((o : Nat) : Int) = (0 : Int)) := by
      exact fun q => hc (Int32.toInt_inj.1 (Eq.trans vy14 (Eq.trans q (Eq.symm rfl))))
    have hqq : (((o : Nat) : Int) = (1 : Int)) := by first | exact hq | (intro q; exact q hq) | omega
    rw [if_neg (show ¬ (y6 = (0 : Int32)) from fun qq => absurd (pz_eq.mp qq) (by rw [(show (y6).toInt = (1 : Int) from vy6), (show ((0 : Int32)).toInt = (0 : Int) from rfl)] <;> first | decide | omega))]
    refine ok_bnd (Q := fun y48 => WV G M u fr st B c0 ((((D ++ toks 0 (h8) 1) ++ toks 0 (o) 1) ++ (if ((o : Nat) : Int) = (1 : Int) then (ueT 0 (h9 - 1)) else ([] : List Tok))) ++ ueT 0 (0)) (n + 236) ((L ++ L24) ++ y48.1) y48.2) ?_ ?_
    · skip
      refine ok_drW (b := 119) hL24.1 (by decide) rfl rfl (by decide) rfl ?_
      refine ok_bnd (wv_ue (v := 0) hL24 rfl rfl (by omega) (by omega)) ?_
      intro y55 hy55
      have hy55 : WV G M u fr st B c0 ((((D ++ toks 0 (h8) 1) ++ toks 0 (o) 1) ++ (if ((o : Nat) : Int) = (1 : Int) then (ueT 0 (h9 - 1)) else ([] : List Tok))) ++ ueT 0 (0)) (n + 236) ((L ++ L24) ++ y55.1) y55.2 := hy55
      refine ok_app (ok_ltt (fun L57 eL57 => ?_))
      have hL57 : WV G M u fr st B c0 ((((D ++ toks 0 (h8) 1) ++ toks 0 (o) 1) ++ (if ((o : Nat) : Int) = (1 : Int) then (ueT 0 (h9 - 1)) else ([] : List Tok))) ++ ueT 0 (0)) (n + 236) (L ++ L57) y55.2 := by
        have z := hy55
        rw [eL57]
        simp only [List.append_assoc, List.nil_append] at z ⊢
        exact z
      refine ok_some ?_
      have z := hL57
      simp only [eL57, List.append_assoc, List.nil_append, List.append_nil] at z ⊢
      exact z
    intro y48 hy48
    refine ok_app (ok_ltt (fun L50 eL50 => ?_))
    have hL50 : WV G M u fr st B c0 ((((D ++ toks 0 (h8) 1) ++ toks 0 (o) 1) ++ (if ((o : Nat) : Int) = (1 : Int) then (ueT 0 (h9 - 1)) else ([] : List Tok))) ++ ueT 0 (0)) (n + 236) (L ++ L50) y48.2 := by
      have z := hy48
      rw [eL50]
      simp only [List.append_assoc, List.nil_append] at z ⊢
      exact z
    refine ok_some (wv_le (n := n + 236) ?_ (by omega))
    rw [show (if ((o : Nat) : Int) = (1 : Int) then (ueT 0 (0)) else ([] : List Tok)) = (ueT 0 (0)) from if_pos hqq]
    have z := hL50
    simp only [eL50, List.append_assoc, List.nil_append, List.append_nil] at z ⊢
    exact z
  intro y26 hy26
  refine ok_app (ok_ltt (fun L28 eL28 => ?_))
  have hL28 : WV G M u fr st B c0 ((((D ++ toks 0 (h8) 1) ++ toks 0 (o) 1) ++ (if ((o : Nat) : Int) = (1 : Int) then (ueT 0 (h9 - 1)) else ([] : List Tok))) ++ (if ((o : Nat) : Int) = (1 : Int) then (ueT 0 (0)) else ([] : List Tok))) (n + 236) (L ++ L28) y26.2 := by
    have z := hy26
    rw [eL28]
    simp only [List.append_assoc, List.nil_append] at z ⊢
    exact z
  refine ok_bnd (wv_flag (V := 0) hL28 rfl (by omega)) ?_
  intro y30 hy30
  have hy30 : WV G M u fr st B c0 (((((D ++ toks 0 (h8) 1) ++ toks 0 (o) 1) ++ (if ((o : Nat) : Int) = (1 : Int) then (ueT 0 (h9 - 1)) else ([] : List Tok))) ++ (if ((o : Nat) : Int) = (1 : Int) then (ueT 0 (0)) else ([] : List Tok))) ++ toks 0 (0) 1) (n + 295) ((L ++ L28) ++ y30.1) y30.2 := hy30
  refine ok_app (ok_ltt (fun L32 eL32 => ?_))
  have hL32 : WV G M u fr st B c0 (((((D ++ toks 0 (h8) 1) ++ toks 0 (o) 1) ++ (if ((o : Nat) : Int) = (1 : Int) then (ueT 0 (h9 - 1)) else ([] : List Tok))) ++ (if ((o : Nat) : Int) = (1 : Int) then (ueT 0 (0)) else ([] : List Tok))) ++ toks 0 (0) 1) (n + 295) (L ++ L32) y30.2 := by
    have z := hy30
    rw [eL32]
    simp only [List.append_assoc, List.nil_append] at z ⊢
    exact z
  rw [if_neg (show ¬ (y6 = (0 : Int32)) from fun qq => absurd (pz_eq.mp qq) (by rw [(show (y6).toInt = (1 : Int) from vy6), (show ((0 : Int32)).toInt = (0 : Int) from rfl)] <;> first | decide | omega))]
  refine ok_bnd (Q := fun y35 => WV G M u fr st B c0 ((((((D ++ toks 0 (h8) 1) ++ toks 0 (o) 1) ++ (if ((o : Nat) : Int) = (1 : Int) then (ueT 0 (h9 - 1)) else ([] : List Tok))) ++ (if ((o : Nat) : Int) = (1 : Int) then (ueT 0 (0)) else ([] : List Tok))) ++ toks 0 (0) 1) ++ toks 0 (0) 1) (n + 354) ((L ++ L32) ++ y35.1) y35.2) ?_ ?_
  · skip
    refine ok_bnd (wv_flag (V := 0) hL32 rfl (by omega)) ?_
    intro y41 hy41
    have hy41 : WV G M u fr st B c0 ((((((D ++ toks 0 (h8) 1) ++ toks 0 (o) 1) ++ (if ((o : Nat) : Int) = (1 : Int) then (ueT 0 (h9 - 1)) else ([] : List Tok))) ++ (if ((o : Nat) : Int) = (1 : Int) then (ueT 0 (0)) else ([] : List Tok))) ++ toks 0 (0) 1) ++ toks 0 (0) 1) (n + 354) ((L ++ L32) ++ y41.1) y41.2 := hy41
    refine ok_app (ok_ltt (fun L43 eL43 => ?_))
    have hL43 : WV G M u fr st B c0 ((((((D ++ toks 0 (h8) 1) ++ toks 0 (o) 1) ++ (if ((o : Nat) : Int) = (1 : Int) then (ueT 0 (h9 - 1)) else ([] : List Tok))) ++ (if ((o : Nat) : Int) = (1 : Int) then (ueT 0 (0)) else ([] : List Tok))) ++ toks 0 (0) 1) ++ toks 0 (0) 1) (n + 354) (L ++ L43) y41.2 := by
      have z := hy41
      rw [eL43]
      simp only [List.append_assoc, List.nil_append] at z ⊢
      exact z
    refine ok_some ?_
    have z := hL43
    simp only [eL43, List.append_assoc, List.nil_append, List.append_nil] at z ⊢
    exact z
  intro y35 hy35
  refine ok_app (ok_ltt (fun L37 eL37 => ?_))
  have hL37 : WV G M u fr st B c0 ((((((D ++ toks 0 (h8) 1) ++ toks 0 (o) 1) ++ (if ((o : Nat) : Int) = (1 : Int) then (ueT 0 (h9 - 1)) else ([] : List Tok))) ++ (if ((o : Nat) : Int) = (1 : Int) then (ueT 0 (0)) else ([] : List Tok))) ++ toks 0 (0) 1) ++ toks 0 (0) 1) (n + 354) (L ++ L37) y35.2 := by
    have z := hy35
    rw [eL37]
    simp only [List.append_assoc, List.nil_append] at z ⊢
    exact z
  refine ok_some ?_
  have z := hL37
  simp only [eL9, eL19, eL24, eL28, eL32, eL37, List.append_assoc, List.nil_append, List.append_nil] at z ⊢
  exact z
theorem w_head20 {G : GG} {M N : DD} {u fr c0 n : Nat} {st : Nat → Nat} {B : List Nat} {D : List Tok} {L : NN} {h0 h3 h4 h5 h13 o h9 r : Nat} {h11 h12 z h14 h15 : Int} (g118_3 : (M.1 118 3).toInt = z) (g118_18 : (M.1 118 18).toInt = (0 : Int)) (g216_0 : (M.1 216 0).toInt = ((h0 : Nat) : Int)) (g216_1 : (M.1 216 1).toInt = (2 : Int)) (g216_3 : (M.1 216 3).toInt = (0 : Int)) (g216_4 : (M.1 216 4).toInt = ((h4 : Nat) : Int)) (g216_5 : (M.1 216 5).toInt = ((h5 : Nat) : Int)) (g216_11 : (M.1 216 11).toInt = h11) (g216_12 : (M.1 216 12).toInt = h12) (g216_13 : (M.1 216 13).toInt = ((h13 : Nat) : Int)) (g216_14 : (M.1 216 14).toInt = h14) (g216_15 : (M.1 216 15).toInt = h15) (g216_18 : (M.1 216 18).toInt = (5 : Int)) (g220_1 : (M.1 220 1).toInt = (0 : Int)) (b0 : h0 < 100000) (b4 : h4 < 100000) (b12 : 0 ≤ h12 ∧ h12 ≤ 100) (bz : -100 ≤ z ∧ z ≤ 100) (b13 : h13 ≤ 2) (b14 : -6 ≤ h14 ∧ h14 ≤ 6) (b15 : -6 ≤ h15 ∧ h15 ≤ 6) (b11 : ¬ h11 = 0) (hn : n ≤ 100000) (h : WV G M u fr st B c0 D n L N) : OK (FX0_writeHeader (xt G L) N 116) (fun y => WV G M u fr st B c0 (((((((((((D ++ ueT 0 (h0)) ++ ueT 0 (2)) ++ ueT 0 (0)) ++ toks 0 (0) 8) ++ ueT 0 (h4)) ++ toks 0 (h5) 8) ++ toks 0 (0) 1) ++ toks 0 (0) 1) ++ ueT 0 (sei (h12 - z))) ++ ueT 0 (h13)) ++ (if ¬ ((h13 : Nat) : Int) = (1 : Int) then (ueT 0 (sei (h14)) ++ (ueT 0 (sei (h15)))) else ([] : List Tok))) (n + 708) (L ++ y.1) y.2) := by
  unfold FX0_writeHeader
  simp only [xt_xt, List.append_nil]
  refine ok_drW (b := 125) h.1 (by decide) rfl rfl (by decide) rfl ?_
  refine ok_drW (b := 215) h.1 (by decide) rfl rfl (by decide) rfl ?_
  refine ok_drW (b := 216) h.1 (by decide) rfl rfl (by decide) rfl ?_
  refine ok_chk (by rw [wu_len h.1 (b := 216) (by decide) rfl]; decide) ?_
  refine ok_ltt (fun x5 ex5 => ?_)
  have vx5 : x5.toInt = ((h0 : Nat) : Int) := by rw [ex5]; exact (congrArg Int32.toInt (wu_rd h.1 (by decide) rfl 0)).trans g216_0
  refine ok_drW (b := 119) h.1 (by decide) rfl rfl (by decide) rfl ?_
  refine ok_chk (by rw [wu_ref h.1 (a := 215) (f := 0) (b := 216) (by decide) rfl rfl (by decide)]; exact okd_sm (wu_lt h.1 (by decide) _)) ?_
  refine ok_bnd (wv_ue (v := h0) h rfl vx5 (by omega) (by omega)) ?_
  intro y7 hy7
  have hy7 : WV G M u fr st B c0 (D ++ ueT 0 (h0)) (n + 59) ((L) ++ y7.1) y7.2 := hy7
  refine ok_app (ok_ltt (fun L10 eL10 => ?_))
  have hL10 : WV G M u fr st B c0 (D ++ ueT 0 (h0)) (n + 59) (L ++ L10) y7.2 := by
    have z := hy7
    rw [eL10]
    simp only [List.append_assoc, List.nil_append] at z ⊢
    exact z
  refine ok_chk (by rw [wu_len hL10.1 (b := 216) (by decide) rfl]; decide) ?_
  refine ok_ltt (fun x13 ex13 => ?_)
  have vx13 : x13.toInt = (2 : Int) := by rw [ex13]; exact (congrArg Int32.toInt (wu_rd hL10.1 (by decide) rfl 1)).trans g216_1
  refine ok_drW (b := 119) hL10.1 (by decide) rfl rfl (by decide) rfl ?_
  refine ok_chk (by rw [wu_ref h.1 (a := 215) (f := 0) (b := 216) (by decide) rfl rfl (by decide)]; exact okd_sm (wu_lt h.1 (by decide) _)) ?_
  refine ok_bnd (wv_ue (v := 2) hL10 rfl vx13 (by omega) (by omega)) ?_
  intro y15 hy15
  have hy15 : WV G M u fr st B c0 ((D ++ ueT 0 (h0)) ++ ueT 0 (2)) (n + 118) ((L ++ L10) ++ y15.1) y15.2 := hy15
  refine ok_app (ok_ltt (fun L18 eL18 => ?_))
  have hL18 : WV G M u fr st B c0 ((D ++ ueT 0 (h0)) ++ ueT 0 (2)) (n + 118) (L ++ L18) y15.2 := by
    have z := hy15
    rw [eL18]
    simp only [List.append_assoc, List.nil_append] at z ⊢
    exact z
  refine ok_drW (b := 119) hL18.1 (by decide) rfl rfl (by decide) rfl ?_
  refine ok_chk (by rw [wu_ref h.1 (a := 215) (f := 0) (b := 216) (by decide) rfl rfl (by decide)]; exact okd_sm (wu_lt h.1 (by decide) _)) ?_
  refine ok_bnd (wv_ue (v := 0) hL18 rfl rfl (by omega) (by omega)) ?_
  intro y22 hy22
  have hy22 : WV G M u fr st B c0 (((D ++ ueT 0 (h0)) ++ ueT 0 (2)) ++ ueT 0 (0)) (n + 177) ((L ++ L18) ++ y22.1) y22.2 := hy22
  refine ok_app (ok_ltt (fun L25 eL25 => ?_))
  have hL25 : WV G M u fr st B c0 (((D ++ ueT 0 (h0)) ++ ueT 0 (2)) ++ ueT 0 (0)) (n + 177) (L ++ L25) y22.2 := by
    have z := hy22
    rw [eL25]
    simp only [List.append_assoc, List.nil_append] at z ⊢
    exact z
  refine ok_chk (by rw [wu_len hL25.1 (b := 216) (by decide) rfl]; decide) ?_
  refine ok_ltt (fun x28 ex28 => ?_)
  have vx28 : x28.toInt = (0 : Int) := by rw [ex28]; exact (congrArg Int32.toInt (wu_rd hL25.1 (by decide) rfl 3)).trans g216_3
  refine ok_ltt (fun x29 ex29 => ?_)
  have vx29 : x29.toInt = (0 : Int) := by rw [ex29, Int32.toInt_toInt64]; exact vx28
  refine ok_drW (b := 119) hL25.1 (by decide) rfl rfl (by decide) rfl ?_
  refine ok_chk (by rw [wu_ref h.1 (a := 215) (f := 0) (b := 216) (by decide) rfl rfl (by decide)]; exact okd_sm (wu_lt h.1 (by decide) _)) ?_
  refine ok_bnd (wv_code (V := 0) (m := 8) hL25 rfl vx29 rfl (by decide) (by omega)) ?_
  intro y31 hy31
  have hy31 : WV G M u fr st B c0 ((((D ++ ueT 0 (h0)) ++ ueT 0 (2)) ++ ueT 0 (0)) ++ toks 0 (0) 8) (n + 236) ((L ++ L25) ++ y31.1) y31.2 := hy31
  refine ok_app (ok_ltt (fun L34 eL34 => ?_))
  have hL34 : WV G M u fr st B c0 ((((D ++ ueT 0 (h0)) ++ ueT 0 (2)) ++ ueT 0 (0)) ++ toks 0 (0) 8) (n + 236) (L ++ L34) y31.2 := by
    have z := hy31
    rw [eL34]
    simp only [List.append_assoc, List.nil_append] at z ⊢
    exact z
  refine ok_drW (b := 125) hL34.1 (by decide) rfl rfl (by decide) rfl ?_
  refine ok_drW (b := 215) hL34.1 (by decide) rfl rfl (by decide) rfl ?_
  refine ok_bnd (wv_isOwn hL34 g216_18 (r := 1) rfl) ?_
  rintro y39 ⟨ey39, vy39⟩
  have hy39 : WV G M u fr st B c0 ((((D ++ ueT 0 (h0)) ++ ueT 0 (2)) ++ ueT 0 (0)) ++ toks 0 (0) 8) (n + 236) (L ++ L34) y39.1 := by rw [ey39]; exact hL34
  rw [if_neg (show ¬ (y39.2 = (0 : Int32)) from fun qq => absurd (pz_eq.mp qq) (by rw [(show (y39.2).toInt = (1 : Int) from vy39), (show ((0 : Int32)).toInt = (0 : Int) from rfl)] <;> first | decide | omega))]
  refine ok_bnd (Q := fun y40 => WV G M u fr st B c0 (((((D ++ ueT 0 (h0)) ++ ueT 0 (2)) ++ ueT 0 (0)) ++ toks 0 (0) 8) ++ ueT 0 (h4)) (n + 295) ((L ++ L34) ++ y40.1) y40.2) ?_ ?_
  · skip
    refine ok_chk (by rw [wu_len hy39.1 (b := 216) (by decide) rfl]; decide) ?_
    refine ok_ltt (fun x204 ex204 => ?_)
    have vx204 : x204.toInt = ((h4 : Nat) : Int) := by rw [ex204]; exact (congrArg Int32.toInt (wu_rd hy39.1 (by decide) rfl 4)).trans g216_4
    refine ok_drW (b := 119) hy39.1 (by decide) rfl rfl (by decide) rfl ?_
    refine ok_chk (by rw [wu_ref h.1 (a := 215) (f := 0) (b := 216) (by decide) rfl rfl (by decide)]; exact okd_sm (wu_lt h.1 (by decide) _)) ?_
    refine ok_bnd (wv_ue (v := h4) hy39 rfl vx204 (by omega) (by omega)) ?_
    intro y206 hy206
    have hy206 : WV G M u fr st B c0 (((((D ++ ueT 0 (h0)) ++ ueT 0 (2)) ++ ueT 0 (0)) ++ toks 0 (0) 8) ++ ueT 0 (h4)) (n + 295) ((L ++ L34) ++ y206.1) y206.2 := hy206
    refine ok_app (ok_ltt (fun L209 eL209 => ?_))
    have hL209 : WV G M u fr st B c0 (((((D ++ ueT 0 (h0)) ++ ueT 0 (2)) ++ ueT 0 (0)) ++ toks 0 (0) 8) ++ ueT 0 (h4)) (n + 295) (L ++ L209) y206.2 := by
      have z := hy206
      rw [eL209]
      simp only [List.append_assoc, List.nil_append] at z ⊢
      exact z
    refine ok_some ?_
    have z := hL209
    simp only [eL209, List.append_assoc, List.nil_append, List.append_nil] at z ⊢
    exact z
  intro y40 hy40
  refine ok_app (ok_ltt (fun L42 eL42 => ?_))
  have hL42 : WV G M u fr st B c0 (((((D ++ ueT 0 (h0)) ++ ueT 0 (2)) ++ ueT 0 (0)) ++ toks 0 (0) 8) ++ ueT 0 (h4)) (n + 295) (L ++ L42) y40.2 := by
    have z := hy40
    rw [eL42]
    simp only [List.append_assoc, List.nil_append] at z ⊢
    exact z
  refine ok_drW (b := 118) hL42.1 (by decide) rfl rfl (by decide) rfl ?_
  refine ok_chk (by rw [wu_len hL42.1 (b := 118) (by decide) rfl]; decide) ?_
  refine ok_ltt (fun x45 ex45 => ?_)
  have vx45 : x45.toInt = (0 : Int) := by rw [ex45]; exact (congrArg Int32.toInt (wu_rd hL42.1 (by decide) rfl 18)).trans g118_18
  rw [if_pos (show x45 = (0 : Int32) from pz_eq.mpr (by rw [(show (x45).toInt = (0 : Int) from vx45), (show ((0 : Int32)).toInt = (0 : Int) from rfl)] <;> first | decide | omega))]
  refine ok_bnd (Q := fun y46 => WV G M u fr st B c0 ((((((D ++ ueT 0 (h0)) ++ ueT 0 (2)) ++ ueT 0 (0)) ++ toks 0 (0) 8) ++ ueT 0 (h4)) ++ toks 0 (h5) 8) (n + 354) ((L ++ L42) ++ y46.1) y46.2) ?_ ?_
  · skip
    refine ok_chk (by rw [wu_len hL42.1 (b := 216) (by decide) rfl]; decide) ?_
    refine ok_ltt (fun x193 ex193 => ?_)
    have vx193 : x193.toInt = ((h5 : Nat) : Int) := by rw [ex193]; exact (congrArg Int32.toInt (wu_rd hL42.1 (by decide) rfl 5)).trans g216_5
    refine ok_ltt (fun x194 ex194 => ?_)
    have vx194 : x194.toInt = ((h5 : Nat) : Int) := by rw [ex194, Int32.toInt_toInt64]; exact vx193
    refine ok_drW (b := 119) hL42.1 (by decide) rfl rfl (by decide) rfl ?_
    refine ok_chk (by rw [wu_ref h.1 (a := 215) (f := 0) (b := 216) (by decide) rfl rfl (by decide)]; exact okd_sm (wu_lt h.1 (by decide) _)) ?_
    refine ok_bnd (wv_code (V := h5) (m := 8) hL42 rfl vx194 rfl (by decide) (by omega)) ?_
    intro y196 hy196
    have hy196 : WV G M u fr st B c0 ((((((D ++ ueT 0 (h0)) ++ ueT 0 (2)) ++ ueT 0 (0)) ++ toks 0 (0) 8) ++ ueT 0 (h4)) ++ toks 0 (h5) 8) (n + 354) ((L ++ L42) ++ y196.1) y196.2 := hy196
    refine ok_app (ok_ltt (fun L199 eL199 => ?_))
    have hL199 : WV G M u fr st B c0 ((((((D ++ ueT 0 (h0)) ++ ueT 0 (2)) ++ ueT 0 (0)) ++ toks 0 (0) 8) ++ ueT 0 (h4)) ++ toks 0 (h5) 8) (n + 354) (L ++ L199) y196.2 := by
      have z := hy196
      rw [eL199]
      simp only [List.append_assoc, List.nil_append] at z ⊢
      exact z
    refine ok_some ?_
    have z := hL199
    simp only [eL199, List.append_assoc, List.nil_append, List.append_nil] at z ⊢
    exact z
  intro y46 hy46
  refine ok_app (ok_ltt (fun L48 eL48 => ?_))
  have hL48 : WV G M u fr st B c0 ((((((D ++ ueT 0 (h0)) ++ ueT 0 (2)) ++ ueT 0 (0)) ++ toks 0 (0) 8) ++ ueT 0 (h4)) ++ toks 0 (h5) 8) (n + 354) (L ++ L48) y46.2 := by
    have z := hy46
    rw [eL48]
    simp only [List.append_assoc, List.nil_append] at z ⊢
    exact z
  refine ok_chk (by rw [wu_len hL48.1 (b := 216) (by decide) rfl]; decide) ?_
  refine ok_ltt (fun x50 ex50 => ?_)
  have vx50 : x50.toInt = (2 : Int) := by rw [ex50]; exact (congrArg Int32.toInt (wu_rd hL48.1 (by decide) rfl 1)).trans g216_1
  rw [if_pos (show x50 = (2 : Int32) from pz_eq.mpr (by rw [(show (x50).toInt = (2 : Int) from vx50), (show ((2 : Int32)).toInt = (2 : Int) from rfl)] <;> first | decide | omega))]
  refine ok_bnd (Q := fun y51 => WV G M u fr st B c0 ((((((D ++ ueT 0 (h0)) ++ ueT 0 (2)) ++ ueT 0 (0)) ++ toks 0 (0) 8) ++ ueT 0 (h4)) ++ toks 0 (h5) 8) (n + 354) ((L ++ L48) ++ y51.1) y51.2) ?_ ?_
  · skip
    refine ok_some ?_
    have z := hL48
    simp only [List.append_assoc, List.nil_append, List.append_nil] at z ⊢
    exact z
  intro y51 hy51
  refine ok_app (ok_ltt (fun L53 eL53 => ?_))
  have hL53 : WV G M u fr st B c0 ((((((D ++ ueT 0 (h0)) ++ ueT 0 (2)) ++ ueT 0 (0)) ++ toks 0 (0) 8) ++ ueT 0 (h4)) ++ toks 0 (h5) 8) (n + 354) (L ++ L53) y51.2 := by
    have z := hy51
    rw [eL53]
    simp only [List.append_assoc, List.nil_append] at z ⊢
    exact z
  refine ok_chk (by rw [wu_len hL53.1 (b := 216) (by decide) rfl]; decide) ?_
  refine ok_ltt (fun x55 ex55 => ?_)
  have vx55 : x55.toInt = (2 : Int) := by rw [ex55]; exact (congrArg Int32.toInt (wu_rd hL53.1 (by decide) rfl 1)).trans g216_1
  rw [if_neg (show ¬ (x55 = (0 : Int32)) from fun qq => absurd (pz_eq.mp qq) (by rw [(show (x55).toInt = (2 : Int) from vx55), (show ((0 : Int32)).toInt = (0 : Int) from rfl)] <;> first | decide | omega))]
  refine ok_bnd (Q := fun y56 => WV G M u fr st B c0 ((((((D ++ ueT 0 (h0)) ++ ueT 0 (2)) ++ ueT 0 (0)) ++ toks 0 (0) 8) ++ ueT 0 (h4)) ++ toks 0 (h5) 8) (n + 354) ((L ++ L53) ++ y56.1) y56.2) ?_ ?_
  · skip
    refine ok_some ?_
    have z := hL53
    simp only [List.append_assoc, List.nil_append, List.append_nil] at z ⊢
    exact z
  intro y56 hy56
  refine ok_app (ok_ltt (fun L58 eL58 => ?_))
  have hL58 : WV G M u fr st B c0 ((((((D ++ ueT 0 (h0)) ++ ueT 0 (2)) ++ ueT 0 (0)) ++ toks 0 (0) 8) ++ ueT 0 (h4)) ++ toks 0 (h5) 8) (n + 354) (L ++ L58) y56.2 := by
    have z := hy56
    rw [eL58]
    simp only [List.append_assoc, List.nil_append] at z ⊢
    exact z
  refine ok_chk (by rw [wu_len hL58.1 (b := 216) (by decide) rfl]; decide) ?_
  refine ok_ltt (fun x60 ex60 => ?_)
  have vx60 : x60.toInt = h11 := by rw [ex60]; exact (congrArg Int32.toInt (wu_rd hL58.1 (by decide) rfl 11)).trans g216_11
  rw [if_neg (show ¬ (x60 = (0 : Int32)) from fun qq => absurd (pz_eq.mp qq) (by rw [(show (x60).toInt = h11 from vx60), (show ((0 : Int32)).toInt = (0 : Int) from rfl)] <;> first | decide | omega))]
  refine ok_bnd (Q := fun y61 => WV G M u fr st B c0 (((((((D ++ ueT 0 (h0)) ++ ueT 0 (2)) ++ ueT 0 (0)) ++ toks 0 (0) 8) ++ ueT 0 (h4)) ++ toks 0 (h5) 8) ++ toks 0 (0) 1) (n + 413) ((L ++ L58) ++ y61.1) y61.2) ?_ ?_
  · skip
    refine ok_chk (by rw [wu_ref h.1 (a := 215) (f := 0) (b := 216) (by decide) rfl rfl (by decide)]; exact okd_sm (wu_lt h.1 (by decide) _)) ?_
    refine ok_bnd (wv_flag (V := 0) hL58 rfl (by omega)) ?_
    intro y161 hy161
    have hy161 : WV G M u fr st B c0 (((((((D ++ ueT 0 (h0)) ++ ueT 0 (2)) ++ ueT 0 (0)) ++ toks 0 (0) 8) ++ ueT 0 (h4)) ++ toks 0 (h5) 8) ++ toks 0 (0) 1) (n + 413) ((L ++ L58) ++ y161.1) y161.2 := hy161
    refine ok_app (ok_ltt (fun L164 eL164 => ?_))
    have hL164 : WV G M u fr st B c0 (((((((D ++ ueT 0 (h0)) ++ ueT 0 (2)) ++ ueT 0 (0)) ++ toks 0 (0) 8) ++ ueT 0 (h4)) ++ toks 0 (h5) 8) ++ toks 0 (0) 1) (n + 413) (L ++ L164) y161.2 := by
      have z := hy161
      rw [eL164]
      simp only [List.append_assoc, List.nil_append] at z ⊢
      exact z
    refine ok_some ?_
    have z := hL164
    simp only [eL164, List.append_assoc, List.nil_append, List.append_nil] at z ⊢
    exact z
  intro y61 hy61
  refine ok_app (ok_ltt (fun L63 eL63 => ?_))
  have hL63 : WV G M u fr st B c0 (((((((D ++ ueT 0 (h0)) ++ ueT 0 (2)) ++ ueT 0 (0)) ++ toks 0 (0) 8) ++ ueT 0 (h4)) ++ toks 0 (h5) 8) ++ toks 0 (0) 1) (n + 413) (L ++ L63) y61.2 := by
    have z := hy61
    rw [eL63]
    simp only [List.append_assoc, List.nil_append] at z ⊢
    exact z
  refine ok_drW (b := 125) hL63.1 (by decide) rfl rfl (by decide) rfl ?_
  refine ok_drW (b := 215) hL63.1 (by decide) rfl rfl (by decide) rfl ?_
  refine ok_bnd (wv_isOwn hL63 g216_18 (r := 1) rfl) ?_
  rintro y67 ⟨ey67, vy67⟩
  have hy67 : WV G M u fr st B c0 (((((((D ++ ueT 0 (h0)) ++ ueT 0 (2)) ++ ueT 0 (0)) ++ toks 0 (0) 8) ++ ueT 0 (h4)) ++ toks 0 (h5) 8) ++ toks 0 (0) 1) (n + 413) (L ++ L63) y67.1 := by rw [ey67]; exact hL63
  rw [if_neg (show ¬ (y67.2 = (0 : Int32)) from fun qq => absurd (pz_eq.mp qq) (by rw [(show (y67.2).toInt = (1 : Int) from vy67), (show ((0 : Int32)).toInt = (0 : Int) from rfl)] <;> first | decide | omega))]
  refine ok_bnd (Q := fun y68 => WV G M u fr st B c0 ((((((((D ++ ueT 0 (h0)) ++ ueT 0 (2)) ++ ueT 0 (0)) ++ toks 0 (0) 8) ++ ueT 0 (h4)) ++ toks 0 (h5) 8) ++ toks 0 (0) 1) ++ toks 0 (0) 1) (n + 472) ((L ++ L63) ++ y68.1) y68.2) ?_ ?_
  · skip
    refine ok_chk (by rw [wu_ref h.1 (a := 215) (f := 0) (b := 216) (by decide) rfl rfl (by decide)]; exact okd_sm (wu_lt h.1 (by decide) _)) ?_
    refine ok_bnd (wv_flag (V := 0) hy67 rfl (by omega)) ?_
    intro y153 hy153
    have hy153 : WV G M u fr st B c0 ((((((((D ++ ueT 0 (h0)) ++ ueT 0 (2)) ++ ueT 0 (0)) ++ toks 0 (0) 8) ++ ueT 0 (h4)) ++ toks 0 (h5) 8) ++ toks 0 (0) 1) ++ toks 0 (0) 1) (n + 472) ((L ++ L63) ++ y153.1) y153.2 := hy153
    refine ok_app (ok_ltt (fun L156 eL156 => ?_))
    have hL156 : WV G M u fr st B c0 ((((((((D ++ ueT 0 (h0)) ++ ueT 0 (2)) ++ ueT 0 (0)) ++ toks 0 (0) 8) ++ ueT 0 (h4)) ++ toks 0 (h5) 8) ++ toks 0 (0) 1) ++ toks 0 (0) 1) (n + 472) (L ++ L156) y153.2 := by
      have z := hy153
      rw [eL156]
      simp only [List.append_assoc, List.nil_append] at z ⊢
      exact z
    refine ok_some ?_
    have z := hL156
    simp only [eL156, List.append_assoc, List.nil_append, List.append_nil] at z ⊢
    exact z
  intro y68 hy68
  refine ok_app (ok_ltt (fun L70 eL70 => ?_))
  have hL70 : WV G M u fr st B c0 ((((((((D ++ ueT 0 (h0)) ++ ueT 0 (2)) ++ ueT 0 (0)) ++ toks 0 (0) 8) ++ ueT 0 (h4)) ++ toks 0 (h5) 8) ++ toks 0 (0) 1) ++ toks 0 (0) 1) (n + 472) (L ++ L70) y68.2 := by
    have z := hy68
    rw [eL70]
    simp only [List.append_assoc, List.nil_append] at z ⊢
    exact z
  refine ok_drW (b := 125) hL70.1 (by decide) rfl rfl (by decide) rfl ?_
  refine ok_drW (b := 220) hL70.1 (by decide) rfl rfl (by decide) rfl ?_
  refine ok_chk (by rw [wu_len hL70.1 (b := 220) (by decide) rfl]; decide) ?_
  refine ok_ltt (fun x74 ex74 => ?_)
  have vx74 : x74.toInt = (0 : Int) := by rw [ex74]; exact (congrArg Int32.toInt (wu_rd hL70.1 (by decide) rfl 1)).trans g220_1
  rw [if_neg (show ¬ (x74 = (1 : Int32)) from fun qq => absurd (pz_eq.mp qq) (by rw [(show (x74).toInt = (0 : Int) from vx74), (show ((1 : Int32)).toInt = (1 : Int) from rfl)] <;> first | decide | omega))]
  refine ok_bnd (Q := fun y75 => WV G M u fr st B c0 ((((((((D ++ ueT 0 (h0)) ++ ueT 0 (2)) ++ ueT 0 (0)) ++ toks 0 (0) 8) ++ ueT 0 (h4)) ++ toks 0 (h5) 8) ++ toks 0 (0) 1) ++ toks 0 (0) 1) (n + 472) ((L ++ L70) ++ y75.1) y75.2) ?_ ?_
  · skip
    refine ok_some ?_
    have z := hL70
    simp only [List.append_assoc, List.nil_append, List.append_nil] at z ⊢
    exact z
  intro y75 hy75
  refine ok_app (ok_ltt (fun L77 eL77 => ?_))
  have hL77 : WV G M u fr st B c0 ((((((((D ++ ueT 0 (h0)) ++ ueT 0 (2)) ++ ueT 0 (0)) ++ toks 0 (0) 8) ++ ueT 0 (h4)) ++ toks 0 (h5) 8) ++ toks 0 (0) 1) ++ toks 0 (0) 1) (n + 472) (L ++ L77) y75.2 := by
    have z := hy75
    rw [eL77]
    simp only [List.append_assoc, List.nil_append] at z ⊢
    exact z
  refine ok_chk (by rw [wu_len hL77.1 (b := 216) (by decide) rfl]; decide) ?_
  refine ok_ltt (fun x79 ex79 => ?_)
  have vx79 : x79.toInt = h12 := by rw [ex79]; exact (congrArg Int32.toInt (wu_rd hL77.1 (by decide) rfl 12)).trans g216_12
  refine ok_drW (b := 118) hL77.1 (by decide) rfl rfl (by decide) rfl ?_
  refine ok_chk (by rw [wu_len hL77.1 (b := 118) (by decide) rfl]; decide) ?_
  refine ok_ltt (fun x81 ex81 => ?_)
  have vx81 : x81.toInt = z := by rw [ex81]; exact (congrArg Int32.toInt (wu_rd hL77.1 (by decide) rfl 3)).trans g118_3
  refine ok_ltt (fun x82 ex82 => ?_)
  have vx82 : x82.toInt = (h12 - z) := by
    have q1 : (x79).toInt = h12 := vx79
    have q2 : (x81).toInt = z := vx81
    rw [ex82, ti_sub (by rw [q1, q2]; omega) (by rw [q1, q2]; omega), q1, q2] <;> omega
  refine ok_drW (b := 119) hL77.1 (by decide) rfl rfl (by decide) rfl ?_
  refine ok_chk (by rw [wu_ref h.1 (a := 215) (f := 0) (b := 216) (by decide) rfl rfl (by decide)]; exact okd_sm (wu_lt h.1 (by decide) _)) ?_
  refine ok_bnd (wv_se (v := h12 - z) hL77 rfl vx82 (by omega) (by omega) (by omega)) ?_
  intro y84 hy84
  have hy84 : WV G M u fr st B c0 (((((((((D ++ ueT 0 (h0)) ++ ueT 0 (2)) ++ ueT 0 (0)) ++ toks 0 (0) 8) ++ ueT 0 (h4)) ++ toks 0 (h5) 8) ++ toks 0 (0) 1) ++ toks 0 (0) 1) ++ ueT 0 (sei (h12 - z))) (n + 531) ((L ++ L77) ++ y84.1) y84.2 := hy84
  refine ok_app (ok_ltt (fun L87 eL87 => ?_))
  have hL87 : WV G M u fr st B c0 (((((((((D ++ ueT 0 (h0)) ++ ueT 0 (2)) ++ ueT 0 (0)) ++ toks 0 (0) 8) ++ ueT 0 (h4)) ++ toks 0 (h5) 8) ++ toks 0 (0) 1) ++ toks 0 (0) 1) ++ ueT 0 (sei (h12 - z))) (n + 531) (L ++ L87) y84.2 := by
    have z := hy84
    rw [eL87]
    simp only [List.append_assoc, List.nil_append] at z ⊢
    exact z
  refine ok_chk (by rw [wu_len hL87.1 (b := 216) (by decide) rfl]; decide) ?_
  refine ok_ltt (fun x90 ex90 => ?_)
  have vx90 : x90.toInt = ((h13 : Nat) : Int) := by rw [ex90]; exact (congrArg Int32.toInt (wu_rd hL87.1 (by decide) rfl 13)).trans g216_13
  refine ok_drW (b := 119) hL87.1 (by decide) rfl rfl (by decide) rfl ?_
  refine ok_chk (by rw [wu_ref h.1 (a := 215) (f := 0) (b := 216) (by decide) rfl rfl (by decide)]; exact okd_sm (wu_lt h.1 (by decide) _)) ?_
  refine ok_bnd (wv_ue (v := h13) hL87 rfl vx90 (by omega) (by omega)) ?_
  intro y92 hy92
  have hy92 : WV G M u fr st B c0 ((((((((((D ++ ueT 0 (h0)) ++ ueT 0 (2)) ++ ueT 0 (0)) ++ toks 0 (0) 8) ++ ueT 0 (h4)) ++ toks 0 (h5) 8) ++ toks 0 (0) 1) ++ toks 0 (0) 1) ++ ueT 0 (sei (h12 - z))) ++ ueT 0 (h13)) (n + 590) ((L ++ L87) ++ y92.1) y92.2 := hy92
  refine ok_app (ok_ltt (fun L95 eL95 => ?_))
  have hL95 : WV G M u fr st B c0 ((((((((((D ++ ueT 0 (h0)) ++ ueT 0 (2)) ++ ueT 0 (0)) ++ toks 0 (0) 8) ++ ueT 0 (h4)) ++ toks 0 (h5) 8) ++ toks 0 (0) 1) ++ toks 0 (0) 1) ++ ueT 0 (sei (h12 - z))) ++ ueT 0 (h13)) (n + 590) (L ++ L95) y92.2 := by
    have z := hy92
    rw [eL95]
    simp only [List.append_assoc, List.nil_append] at z ⊢
    exact z
  refine ok_chk (by rw [wu_len hL95.1 (b := 216) (by decide) rfl]; decide) ?_
  refine ok_ltt (fun x98 ex98 => ?_)
  have vx98 : x98.toInt = ((h13 : Nat) : Int) := by rw [ex98]; exact (congrArg Int32.toInt (wu_rd hL95.1 (by decide) rfl 13)).trans g216_13
  refine ok_bnd (Q := fun y99 => WV G M u fr st B c0 (((((((((((D ++ ueT 0 (h0)) ++ ueT 0 (2)) ++ ueT 0 (0)) ++ toks 0 (0) 8) ++ ueT 0 (h4)) ++ toks 0 (h5) 8) ++ toks 0 (0) 1) ++ toks 0 (0) 1) ++ ueT 0 (sei (h12 - z))) ++ ueT 0 (h13)) ++ (if ¬ ((h13 : Nat) : Int) = (1 : Int) then (ueT 0 (sei (h14)) ++ (ueT 0 (sei (h15)))) else ([] : List Tok))) (n + 708) ((L ++ L95) ++ y99.1) y99.2) (ok_if ?_ ?_) ?_
  · intro hc
    have hq : (((h13 : Nat) : Int) = (1 : Int)) := by
      exact (show _ = ((h13 : Nat) : Int) from vx98).symm.trans ((congrArg Int32.toInt hc).trans (show _ = (1 : Int) from rfl))
    have hqq : ¬ (¬ ((h13 : Nat) : Int) = (1 : Int)) := by first | exact hq | (intro q; exact q hq) | omega
    refine ok_some (wv_le (n := n + 590) ?_ (by omega))
    rw [show (if ¬ ((h13 : Nat) : Int) = (1 : Int) then (ueT 0 (sei (h14)) ++ (ueT 0 (sei (h15)))) else ([] : List Tok)) = ([] : List Tok) from if_neg hqq]
    have z := hL95
    simp only [List.append_assoc, List.nil_append, List.append_nil] at z ⊢
    exact z
  · intro hc
    have hq : ¬ (((h13 : Nat) : Int) = (1 : Int)) := by
      exact fun q => hc (Int32.toInt_inj.1 (Eq.trans vx98 (Eq.trans q (Eq.symm rfl))))
    have hqq : (¬ ((h13 : Nat) : Int) = (1 : Int)) := by first | exact hq | (intro q; exact q hq) | omega
    refine ok_chk (by rw [wu_len hL95.1 (b := 216) (by decide) rfl]; decide) ?_
    refine ok_ltt (fun x120 ex120 => ?_)
    have vx120 : x120.toInt = h14 := by rw [ex120]; exact (congrArg Int32.toInt (wu_rd hL95.1 (by decide) rfl 14)).trans g216_14
    refine ok_drW (b := 119) hL95.1 (by decide) rfl rfl (by decide) rfl ?_
    refine ok_chk (by rw [wu_ref h.1 (a := 215) (f := 0) (b := 216) (by decide) rfl rfl (by decide)]; exact okd_sm (wu_lt h.1 (by decide) _)) ?_
    refine ok_bnd (wv_se (v := h14) hL95 rfl vx120 (by omega) (by omega) (by omega)) ?_
    intro y122 hy122
    have hy122 : WV G M u fr st B c0 (((((((((((D ++ ueT 0 (h0)) ++ ueT 0 (2)) ++ ueT 0 (0)) ++ toks 0 (0) 8) ++ ueT 0 (h4)) ++ toks 0 (h5) 8) ++ toks 0 (0) 1) ++ toks 0 (0) 1) ++ ueT 0 (sei (h12 - z))) ++ ueT 0 (h13)) ++ ueT 0 (sei (h14))) (n + 649) ((L ++ L95) ++ y122.1) y122.2 := hy122
    refine ok_app (ok_ltt (fun L125 eL125 => ?_))
    have hL125 : WV G M u fr st B c0 (((((((((((D ++ ueT 0 (h0)) ++ ueT 0 (2)) ++ ueT 0 (0)) ++ toks 0 (0) 8) ++ ueT 0 (h4)) ++ toks 0 (h5) 8) ++ toks 0 (0) 1) ++ toks 0 (0) 1) ++ ueT 0 (sei (h12 - z))) ++ ueT 0 (h13)) ++ ueT 0 (sei (h14))) (n + 649) (L ++ L125) y122.2 := by
      have z := hy122
      rw [eL125]
      simp only [List.append_assoc, List.nil_append] at z ⊢
      exact z
    refine ok_chk (by rw [wu_len hL125.1 (b := 216) (by decide) rfl]; decide) ?_
    refine ok_ltt (fun x128 ex128 => ?_)
    have vx128 : x128.toInt = h15 := by rw [ex128]; exact (congrArg Int32.toInt (wu_rd hL125.1 (by decide) rfl 15)).trans g216_15
    refine ok_drW (b := 119) hL125.1 (by decide) rfl rfl (by decide) rfl ?_
    refine ok_bnd (wv_se (v := h15) hL125 rfl vx128 (by omega) (by omega) (by omega)) ?_
    intro y130 hy130
    have hy130 : WV G M u fr st B c0 ((((((((((((D ++ ueT 0 (h0)) ++ ueT 0 (2)) ++ ueT 0 (0)) ++ toks 0 (0) 8) ++ ueT 0 (h4)) ++ toks 0 (h5) 8) ++ toks 0 (0) 1) ++ toks 0 (0) 1) ++ ueT 0 (sei (h12 - z))) ++ ueT 0 (h13)) ++ ueT 0 (sei (h14))) ++ ueT 0 (sei (h15))) (n + 708) ((L ++ L125) ++ y130.1) y130.2 := hy130
    refine ok_app (ok_ltt (fun L132 eL132 => ?_))
    have hL132 : WV G M u fr st B c0 ((((((((((((D ++ ueT 0 (h0)) ++ ueT 0 (2)) ++ ueT 0 (0)) ++ toks 0 (0) 8) ++ ueT 0 (h4)) ++ toks 0 (h5) 8) ++ toks 0 (0) 1) ++ toks 0 (0) 1) ++ ueT 0 (sei (h12 - z))) ++ ueT 0 (h13)) ++ ueT 0 (sei (h14))) ++ ueT 0 (sei (h15))) (n + 708) (L ++ L132) y130.2 := by
      have z := hy130
      rw [eL132]
      simp only [List.append_assoc, List.nil_append] at z ⊢
      exact z
    refine ok_some (wv_le (n := n + 708) ?_ (by omega))
    rw [show (if ¬ ((h13 : Nat) : Int) = (1 : Int) then (ueT 0 (sei (h14)) ++ (ueT 0 (sei (h15)))) else ([] : List Tok)) = (ueT 0 (sei (h14)) ++ (ueT 0 (sei (h15)))) from if_pos hqq]
    have z := hL132
    simp only [eL125, eL132, List.append_assoc, List.nil_append, List.append_nil] at z ⊢
    exact z
  intro y99 hy99
  refine ok_app (ok_ltt (fun L101 eL101 => ?_))
  have hL101 : WV G M u fr st B c0 (((((((((((D ++ ueT 0 (h0)) ++ ueT 0 (2)) ++ ueT 0 (0)) ++ toks 0 (0) 8) ++ ueT 0 (h4)) ++ toks 0 (h5) 8) ++ toks 0 (0) 1) ++ toks 0 (0) 1) ++ ueT 0 (sei (h12 - z))) ++ ueT 0 (h13)) ++ (if ¬ ((h13 : Nat) : Int) = (1 : Int) then (ueT 0 (sei (h14)) ++ (ueT 0 (sei (h15)))) else ([] : List Tok))) (n + 708) (L ++ L101) y99.2 := by
    have z := hy99
    rw [eL101]
    simp only [List.append_assoc, List.nil_append] at z ⊢
    exact z
  refine ok_drW (b := 125) hL101.1 (by decide) rfl rfl (by decide) rfl ?_
  refine ok_drW (b := 220) hL101.1 (by decide) rfl rfl (by decide) rfl ?_
  refine ok_chk (by rw [wu_len hL101.1 (b := 220) (by decide) rfl]; decide) ?_
  refine ok_ltt (fun x105 ex105 => ?_)
  have vx105 : x105.toInt = (0 : Int) := by rw [ex105]; exact (congrArg Int32.toInt (wu_rd hL101.1 (by decide) rfl 1)).trans g220_1
  rw [if_neg (show ¬ (x105 = (1 : Int32)) from fun qq => absurd (pz_eq.mp qq) (by rw [(show (x105).toInt = (0 : Int) from vx105), (show ((1 : Int32)).toInt = (1 : Int) from rfl)] <;> first | decide | omega))]
  refine ok_bnd (Q := fun y106 => WV G M u fr st B c0 (((((((((((D ++ ueT 0 (h0)) ++ ueT 0 (2)) ++ ueT 0 (0)) ++ toks 0 (0) 8) ++ ueT 0 (h4)) ++ toks 0 (h5) 8) ++ toks 0 (0) 1) ++ toks 0 (0) 1) ++ ueT 0 (sei (h12 - z))) ++ ueT 0 (h13)) ++ (if ¬ ((h13 : Nat) : Int) = (1 : Int) then (ueT 0 (sei (h14)) ++ (ueT 0 (sei (h15)))) else ([] : List Tok))) (n + 708) ((L ++ L101) ++ y106.1) y106.2) ?_ ?_
  · skip
    refine ok_some ?_
    have z := hL101
    simp only [List.append_assoc, List.nil_append, List.append_nil] at z ⊢
    exact z
  intro y106 hy106
  refine ok_app (ok_ltt (fun L108 eL108 => ?_))
  have hL108 : WV G M u fr st B c0 (((((((((((D ++ ueT 0 (h0)) ++ ueT 0 (2)) ++ ueT 0 (0)) ++ toks 0 (0) 8) ++ ueT 0 (h4)) ++ toks 0 (h5) 8) ++ toks 0 (0) 1) ++ toks 0 (0) 1) ++ ueT 0 (sei (h12 - z))) ++ ueT 0 (h13)) ++ (if ¬ ((h13 : Nat) : Int) = (1 : Int) then (ueT 0 (sei (h14)) ++ (ueT 0 (sei (h15)))) else ([] : List Tok))) (n + 708) (L ++ L108) y106.2 := by
    have z := hy106
    rw [eL108]
    simp only [List.append_assoc, List.nil_append] at z ⊢
    exact z
  refine ok_some ?_
  have z := hL108
  simp only [eL10, eL18, eL25, eL34, eL42, eL48, eL53, eL58, eL63, eL70, eL77, eL87, eL95, eL101, eL108, List.append_assoc, List.nil_append, List.append_nil] at z ⊢
  exact z
theorem w_head21 {G : GG} {M N : DD} {u fr c0 n : Nat} {st : Nat → Nat} {B : List Nat} {D : List Tok} {L : NN} {h0 h3 h4 h5 h13 o h9 r : Nat} {h11 h12 z h14 h15 : Int} (g118_3 : (M.1 118 3).toInt = z) (g118_18 : (M.1 118 18).toInt = (0 : Int)) (g216_0 : (M.1 216 0).toInt = ((h0 : Nat) : Int)) (g216_1 : (M.1 216 1).toInt = (2 : Int)) (g216_3 : (M.1 216 3).toInt = (0 : Int)) (g216_4 : (M.1 216 4).toInt = ((h4 : Nat) : Int)) (g216_5 : (M.1 216 5).toInt = ((h5 : Nat) : Int)) (g216_11 : (M.1 216 11).toInt = h11) (g216_12 : (M.1 216 12).toInt = h12) (g216_13 : (M.1 216 13).toInt = ((h13 : Nat) : Int)) (g216_14 : (M.1 216 14).toInt = h14) (g216_15 : (M.1 216 15).toInt = h15) (g216_18 : (M.1 216 18).toInt = (5 : Int)) (g220_1 : (M.1 220 1).toInt = (1 : Int)) (b0 : h0 < 100000) (b4 : h4 < 100000) (b12 : 0 ≤ h12 ∧ h12 ≤ 100) (bz : -100 ≤ z ∧ z ≤ 100) (b13 : h13 ≤ 2) (b14 : -6 ≤ h14 ∧ h14 ≤ 6) (b15 : -6 ≤ h15 ∧ h15 ≤ 6) (b11 : ¬ h11 = 0) (hn : n ≤ 100000) (h : WV G M u fr st B c0 D n L N) : OK (FX0_writeHeader (xt G L) N 116) (fun y => WU G M u fr st B c0 ((((((((((((D ++ ueT 0 (h0)) ++ ueT 0 (2)) ++ ueT 0 (0)) ++ toks 0 (0) 8) ++ ueT 0 (h4)) ++ toks 0 (h5) 8) ++ toks 0 (0) 1) ++ toks 0 (0) 1) ++ ueT 0 (sei (h12 - z))) ++ ueT 0 (h13)) ++ (if ¬ ((h13 : Nat) : Int) = (1 : Int) then (ueT 0 (sei (h14)) ++ (ueT 0 (sei (h15)))) else ([] : List Tok))) ++ dataT (((((((((((D ++ ueT 0 (h0)) ++ ueT 0 (2)) ++ ueT 0 (0)) ++ toks 0 (0) 8) ++ ueT 0 (h4)) ++ toks 0 (h5) 8) ++ toks 0 (0) 1) ++ toks 0 (0) 1) ++ ueT 0 (sei (h12 - z))) ++ ueT 0 (h13)) ++ (if ¬ ((h13 : Nat) : Int) = (1 : Int) then (ueT 0 (sei (h14)) ++ (ueT 0 (sei (h15)))) else ([] : List Tok))).length) (L ++ y.1) y.2) := by
  unfold FX0_writeHeader
  simp only [xt_xt, List.append_nil]
  refine ok_drW (b := 125) h.1 (by decide) rfl rfl (by decide) rfl ?_
  refine ok_drW (b := 215) h.1 (by decide) rfl rfl (by decide) rfl ?_
  refine ok_drW (b := 216) h.1 (by decide) rfl rfl (by decide) rfl ?_
  refine ok_chk (by rw [wu_len h.1 (b := 216) (by decide) rfl]; decide) ?_
  refine ok_ltt (fun x5 ex5 => ?_)
  have vx5 : x5.toInt = ((h0 : Nat) : Int) := by rw [ex5]; exact (congrArg Int32.toInt (wu_rd h.1 (by decide) rfl 0)).trans g216_0
  refine ok_drW (b := 119) h.1 (by decide) rfl rfl (by decide) rfl ?_
  refine ok_chk (by rw [wu_ref h.1 (a := 215) (f := 0) (b := 216) (by decide) rfl rfl (by decide)]; exact okd_sm (wu_lt h.1 (by decide) _)) ?_
  refine ok_bnd (wv_ue (v := h0) h rfl vx5 (by omega) (by omega)) ?_
  intro y7 hy7
  have hy7 : WV G M u fr st B c0 (D ++ ueT 0 (h0)) (n + 59) ((L) ++ y7.1) y7.2 := hy7
  refine ok_app (ok_ltt (fun L10 eL10 => ?_))
  have hL10 : WV G M u fr st B c0 (D ++ ueT 0 (h0)) (n + 59) (L ++ L10) y7.2 := by
    have z := hy7
    rw [eL10]
    simp only [List.append_assoc, List.nil_append] at z ⊢
    exact z
  refine ok_chk (by rw [wu_len hL10.1 (b := 216) (by decide) rfl]; decide) ?_
  refine ok_ltt (fun x13 ex13 => ?_)
  have vx13 : x13.toInt = (2 : Int) := by rw [ex13]; exact (congrArg Int32.toInt (wu_rd hL10.1 (by decide) rfl 1)).trans g216_1
  refine ok_drW (b := 119) hL10.1 (by decide) rfl rfl (by decide) rfl ?_
  refine ok_chk (by rw [wu_ref h.1 (a := 215) (f := 0) (b := 216) (by decide) rfl rfl (by decide)]; exact okd_sm (wu_lt h.1 (by decide) _)) ?_
  refine ok_bnd (wv_ue (v := 2) hL10 rfl vx13 (by omega) (by omega)) ?_
  intro y15 hy15
  have hy15 : WV G M u fr st B c0 ((D ++ ueT 0 (h0)) ++ ueT 0 (2)) (n + 118) ((L ++ L10) ++ y15.1) y15.2 := hy15
  refine ok_app (ok_ltt (fun L18 eL18 => ?_))
  have hL18 : WV G M u fr st B c0 ((D ++ ueT 0 (h0)) ++ ueT 0 (2)) (n + 118) (L ++ L18) y15.2 := by
    have z := hy15
    rw [eL18]
    simp only [List.append_assoc, List.nil_append] at z ⊢
    exact z
  refine ok_drW (b := 119) hL18.1 (by decide) rfl rfl (by decide) rfl ?_
  refine ok_chk (by rw [wu_ref h.1 (a := 215) (f := 0) (b := 216) (by decide) rfl rfl (by decide)]; exact okd_sm (wu_lt h.1 (by decide) _)) ?_
  refine ok_bnd (wv_ue (v := 0) hL18 rfl rfl (by omega) (by omega)) ?_
  intro y22 hy22
  have hy22 : WV G M u fr st B c0 (((D ++ ueT 0 (h0)) ++ ueT 0 (2)) ++ ueT 0 (0)) (n + 177) ((L ++ L18) ++ y22.1) y22.2 := hy22
  refine ok_app (ok_ltt (fun L25 eL25 => ?_))
  have hL25 : WV G M u fr st B c0 (((D ++ ueT 0 (h0)) ++ ueT 0 (2)) ++ ueT 0 (0)) (n + 177) (L ++ L25) y22.2 := by
    have z := hy22
    rw [eL25]
    simp only [List.append_assoc, List.nil_append] at z ⊢
    exact z
  refine ok_chk (by rw [wu_len hL25.1 (b := 216) (by decide) rfl]; decide) ?_
  refine ok_ltt (fun x28 ex28 => ?_)
  have vx28 : x28.toInt = (0 : Int) := by rw [ex28]; exact (congrArg Int32.toInt (wu_rd hL25.1 (by decide) rfl 3)).trans g216_3
  refine ok_ltt (fun x29 ex29 => ?_)
  have vx29 : x29.toInt = (0 : Int) := by rw [ex29, Int32.toInt_toInt64]; exact vx28
  refine ok_drW (b := 119) hL25.1 (by decide) rfl rfl (by decide) rfl ?_
  refine ok_chk (by rw [wu_ref h.1 (a := 215) (f := 0) (b := 216) (by decide) rfl rfl (by decide)]; exact okd_sm (wu_lt h.1 (by decide) _)) ?_
  refine ok_bnd (wv_code (V := 0) (m := 8) hL25 rfl vx29 rfl (by decide) (by omega)) ?_
  intro y31 hy31
  have hy31 : WV G M u fr st B c0 ((((D ++ ueT 0 (h0)) ++ ueT 0 (2)) ++ ueT 0 (0)) ++ toks 0 (0) 8) (n + 236) ((L ++ L25) ++ y31.1) y31.2 := hy31
  refine ok_app (ok_ltt (fun L34 eL34 => ?_))
  have hL34 : WV G M u fr st B c0 ((((D ++ ueT 0 (h0)) ++ ueT 0 (2)) ++ ueT 0 (0)) ++ toks 0 (0) 8) (n + 236) (L ++ L34) y31.2 := by
    have z := hy31
    rw [eL34]
    simp only [List.append_assoc, List.nil_append] at z ⊢
    exact z
  refine ok_drW (b := 125) hL34.1 (by decide) rfl rfl (by decide) rfl ?_
  refine ok_drW (b := 215) hL34.1 (by decide) rfl rfl (by decide) rfl ?_
  refine ok_bnd (wv_isOwn hL34 g216_18 (r := 1) rfl) ?_
  rintro y39 ⟨ey39, vy39⟩
  have hy39 : WV G M u fr st B c0 ((((D ++ ueT 0 (h0)) ++ ueT 0 (2)) ++ ueT 0 (0)) ++ toks 0 (0) 8) (n + 236) (L ++ L34) y39.1 := by rw [ey39]; exact hL34
  rw [if_neg (show ¬ (y39.2 = (0 : Int32)) from fun qq => absurd (pz_eq.mp qq) (by rw [(show (y39.2).toInt = (1 : Int) from vy39), (show ((0 : Int32)).toInt = (0 : Int) from rfl)] <;> first | decide | omega))]
  refine ok_bnd (Q := fun y40 => WV G M u fr st B c0 (((((D ++ ueT 0 (h0)) ++ ueT 0 (2)) ++ ueT 0 (0)) ++ toks 0 (0) 8) ++ ueT 0 (h4)) (n + 295) ((L ++ L34) ++ y40.1) y40.2) ?_ ?_
  · skip
    refine ok_chk (by rw [wu_len hy39.1 (b := 216) (by decide) rfl]; decide) ?_
    refine ok_ltt (fun x204 ex204 => ?_)
    have vx204 : x204.toInt = ((h4 : Nat) : Int) := by rw [ex204]; exact (congrArg Int32.toInt (wu_rd hy39.1 (by decide) rfl 4)).trans g216_4
    refine ok_drW (b := 119) hy39.1 (by decide) rfl rfl (by decide) rfl ?_
    refine ok_chk (by rw [wu_ref h.1 (a := 215) (f := 0) (b := 216) (by decide) rfl rfl (by decide)]; exact okd_sm (wu_lt h.1 (by decide) _)) ?_
    refine ok_bnd (wv_ue (v := h4) hy39 rfl vx204 (by omega) (by omega)) ?_
    intro y206 hy206
    have hy206 : WV G M u fr st B c0 (((((D ++ ueT 0 (h0)) ++ ueT 0 (2)) ++ ueT 0 (0)) ++ toks 0 (0) 8) ++ ueT 0 (h4)) (n + 295) ((L ++ L34) ++ y206.1) y206.2 := hy206
    refine ok_app (ok_ltt (fun L209 eL209 => ?_))
    have hL209 : WV G M u fr st B c0 (((((D ++ ueT 0 (h0)) ++ ueT 0 (2)) ++ ueT 0 (0)) ++ toks 0 (0) 8) ++ ueT 0 (h4)) (n + 295) (L ++ L209) y206.2 := by
      have z := hy206
      rw [eL209]
      simp only [List.append_assoc, List.nil_append] at z ⊢
      exact z
    refine ok_some ?_
    have z := hL209
    simp only [eL209, List.append_assoc, List.nil_append, List.append_nil] at z ⊢
    exact z
  intro y40 hy40
  refine ok_app (ok_ltt (fun L42 eL42 => ?_))
  have hL42 : WV G M u fr st B c0 (((((D ++ ueT 0 (h0)) ++ ueT 0 (2)) ++ ueT 0 (0)) ++ toks 0 (0) 8) ++ ueT 0 (h4)) (n + 295) (L ++ L42) y40.2 := by
    have z := hy40
    rw [eL42]
    simp only [List.append_assoc, List.nil_append] at z ⊢
    exact z
  refine ok_drW (b := 118) hL42.1 (by decide) rfl rfl (by decide) rfl ?_
  refine ok_chk (by rw [wu_len hL42.1 (b := 118) (by decide) rfl]; decide) ?_
  refine ok_ltt (fun x45 ex45 => ?_)
  have vx45 : x45.toInt = (0 : Int) := by rw [ex45]; exact (congrArg Int32.toInt (wu_rd hL42.1 (by decide) rfl 18)).trans g118_18
  rw [if_pos (show x45 = (0 : Int32) from pz_eq.mpr (by rw [(show (x45).toInt = (0 : Int) from vx45), (show ((0 : Int32)).toInt = (0 : Int) from rfl)] <;> first | decide | omega))]
  refine ok_bnd (Q := fun y46 => WV G M u fr st B c0 ((((((D ++ ueT 0 (h0)) ++ ueT 0 (2)) ++ ueT 0 (0)) ++ toks 0 (0) 8) ++ ueT 0 (h4)) ++ toks 0 (h5) 8) (n + 354) ((L ++ L42) ++ y46.1) y46.2) ?_ ?_
  · skip
    refine ok_chk (by rw [wu_len hL42.1 (b := 216) (by decide) rfl]; decide) ?_
    refine ok_ltt (fun x193 ex193 => ?_)
    have vx193 : x193.toInt = ((h5 : Nat) : Int) := by rw [ex193]; exact (congrArg Int32.toInt (wu_rd hL42.1 (by decide) rfl 5)).trans g216_5
    refine ok_ltt (fun x194 ex194 => ?_)
    have vx194 : x194.toInt = ((h5 : Nat) : Int) := by rw [ex194, Int32.toInt_toInt64]; exact vx193
    refine ok_drW (b := 119) hL42.1 (by decide) rfl rfl (by decide) rfl ?_
    refine ok_chk (by rw [wu_ref h.1 (a := 215) (f := 0) (b := 216) (by decide) rfl rfl (by decide)]; exact okd_sm (wu_lt h.1 (by decide) _)) ?_
    refine ok_bnd (wv_code (V := h5) (m := 8) hL42 rfl vx194 rfl (by decide) (by omega)) ?_
    intro y196 hy196
    have hy196 : WV G M u fr st B c0 ((((((D ++ ueT 0 (h0)) ++ ueT 0 (2)) ++ ueT 0 (0)) ++ toks 0 (0) 8) ++ ueT 0 (h4)) ++ toks 0 (h5) 8) (n + 354) ((L ++ L42) ++ y196.1) y196.2 := hy196
    refine ok_app (ok_ltt (fun L199 eL199 => ?_))
    have hL199 : WV G M u fr st B c0 ((((((D ++ ueT 0 (h0)) ++ ueT 0 (2)) ++ ueT 0 (0)) ++ toks 0 (0) 8) ++ ueT 0 (h4)) ++ toks 0 (h5) 8) (n + 354) (L ++ L199) y196.2 := by
      have z := hy196
      rw [eL199]
      simp only [List.append_assoc, List.nil_append] at z ⊢
      exact z
    refine ok_some ?_
    have z := hL199
    simp only [eL199, List.append_assoc, List.nil_append, List.append_nil] at z ⊢
    exact z
  intro y46 hy46
  refine ok_app (ok_ltt (fun L48 eL48 => ?_))
  have hL48 : WV G M u fr st B c0 ((((((D ++ ueT 0 (h0)) ++ ueT 0 (2)) ++ ueT 0 (0)) ++ toks 0 (0) 8) ++ ueT 0 (h4)) ++ toks 0 (h5) 8) (n + 354) (L ++ L48) y46.2 := by
    have z := hy46
    rw [eL48]
    simp only [List.append_assoc, List.nil_append] at z ⊢
    exact z
  refine ok_chk (by rw [wu_len hL48.1 (b := 216) (by decide) rfl]; decide) ?_
  refine ok_ltt (fun x50 ex50 => ?_)
  have vx50 : x50.toInt = (2 : Int) := by rw [ex50]; exact (congrArg Int32.toInt (wu_rd hL48.1 (by decide) rfl 1)).trans g216_1
  rw [if_pos (show x50 = (2 : Int32) from pz_eq.mpr (by rw [(show (x50).toInt = (2 : Int) from vx50), (show ((2 : Int32)).toInt = (2 : Int) from rfl)] <;> first | decide | omega))]
  refine ok_bnd (Q := fun y51 => WV G M u fr st B c0 ((((((D ++ ueT 0 (h0)) ++ ueT 0 (2)) ++ ueT 0 (0)) ++ toks 0 (0) 8) ++ ueT 0 (h4)) ++ toks 0 (h5) 8) (n + 354) ((L ++ L48) ++ y51.1) y51.2) ?_ ?_
  · skip
    refine ok_some ?_
    have z := hL48
    simp only [List.append_assoc, List.nil_append, List.append_nil] at z ⊢
    exact z
  intro y51 hy51
  refine ok_app (ok_ltt (fun L53 eL53 => ?_))
  have hL53 : WV G M u fr st B c0 ((((((D ++ ueT 0 (h0)) ++ ueT 0 (2)) ++ ueT 0 (0)) ++ toks 0 (0) 8) ++ ueT 0 (h4)) ++ toks 0 (h5) 8) (n + 354) (L ++ L53) y51.2 := by
    have z := hy51
    rw [eL53]
    simp only [List.append_assoc, List.nil_append] at z ⊢
    exact z
  refine ok_chk (by rw [wu_len hL53.1 (b := 216) (by decide) rfl]; decide) ?_
  refine ok_ltt (fun x55 ex55 => ?_)
  have vx55 : x55.toInt = (2 : Int) := by rw [ex55]; exact (congrArg Int32.toInt (wu_rd hL53.1 (by decide) rfl 1)).trans g216_1
  rw [if_neg (show ¬ (x55 = (0 : Int32)) from fun qq => absurd (pz_eq.mp qq) (by rw [(show (x55).toInt = (2 : Int) from vx55), (show ((0 : Int32)).toInt = (0 : Int) from rfl)] <;> first | decide | omega))]
  refine ok_bnd (Q := fun y56 => WV G M u fr st B c0 ((((((D ++ ueT 0 (h0)) ++ ueT 0 (2)) ++ ueT 0 (0)) ++ toks 0 (0) 8) ++ ueT 0 (h4)) ++ toks 0 (h5) 8) (n + 354) ((L ++ L53) ++ y56.1) y56.2) ?_ ?_
  · skip
    refine ok_some ?_
    have z := hL53
    simp only [List.append_assoc, List.nil_append, List.append_nil] at z ⊢
    exact z
  intro y56 hy56
  refine ok_app (ok_ltt (fun L58 eL58 => ?_))
  have hL58 : WV G M u fr st B c0 ((((((D ++ ueT 0 (h0)) ++ ueT 0 (2)) ++ ueT 0 (0)) ++ toks 0 (0) 8) ++ ueT 0 (h4)) ++ toks 0 (h5) 8) (n + 354) (L ++ L58) y56.2 := by
    have z := hy56
    rw [eL58]
    simp only [List.append_assoc, List.nil_append] at z ⊢
    exact z
  refine ok_chk (by rw [wu_len hL58.1 (b := 216) (by decide) rfl]; decide) ?_
  refine ok_ltt (fun x60 ex60 => ?_)
  have vx60 : x60.toInt = h11 := by rw [ex60]; exact (congrArg Int32.toInt (wu_rd hL58.1 (by decide) rfl 11)).trans g216_11
  rw [if_neg (show ¬ (x60 = (0 : Int32)) from fun qq => absurd (pz_eq.mp qq) (by rw [(show (x60).toInt = h11 from vx60), (show ((0 : Int32)).toInt = (0 : Int) from rfl)] <;> first | decide | omega))]
  refine ok_bnd (Q := fun y61 => WV G M u fr st B c0 (((((((D ++ ueT 0 (h0)) ++ ueT 0 (2)) ++ ueT 0 (0)) ++ toks 0 (0) 8) ++ ueT 0 (h4)) ++ toks 0 (h5) 8) ++ toks 0 (0) 1) (n + 413) ((L ++ L58) ++ y61.1) y61.2) ?_ ?_
  · skip
    refine ok_chk (by rw [wu_ref h.1 (a := 215) (f := 0) (b := 216) (by decide) rfl rfl (by decide)]; exact okd_sm (wu_lt h.1 (by decide) _)) ?_
    refine ok_bnd (wv_flag (V := 0) hL58 rfl (by omega)) ?_
    intro y161 hy161
    have hy161 : WV G M u fr st B c0 (((((((D ++ ueT 0 (h0)) ++ ueT 0 (2)) ++ ueT 0 (0)) ++ toks 0 (0) 8) ++ ueT 0 (h4)) ++ toks 0 (h5) 8) ++ toks 0 (0) 1) (n + 413) ((L ++ L58) ++ y161.1) y161.2 := hy161
    refine ok_app (ok_ltt (fun L164 eL164 => ?_))
    have hL164 : WV G M u fr st B c0 (((((((D ++ ueT 0 (h0)) ++ ueT 0 (2)) ++ ueT 0 (0)) ++ toks 0 (0) 8) ++ ueT 0 (h4)) ++ toks 0 (h5) 8) ++ toks 0 (0) 1) (n + 413) (L ++ L164) y161.2 := by
      have z := hy161
      rw [eL164]
      simp only [List.append_assoc, List.nil_append] at z ⊢
      exact z
    refine ok_some ?_
    have z := hL164
    simp only [eL164, List.append_assoc, List.nil_append, List.append_nil] at z ⊢
    exact z
  intro y61 hy61
  refine ok_app (ok_ltt (fun L63 eL63 => ?_))
  have hL63 : WV G M u fr st B c0 (((((((D ++ ueT 0 (h0)) ++ ueT 0 (2)) ++ ueT 0 (0)) ++ toks 0 (0) 8) ++ ueT 0 (h4)) ++ toks 0 (h5) 8) ++ toks 0 (0) 1) (n + 413) (L ++ L63) y61.2 := by
    have z := hy61
    rw [eL63]
    simp only [List.append_assoc, List.nil_append] at z ⊢
    exact z
  refine ok_drW (b := 125) hL63.1 (by decide) rfl rfl (by decide) rfl ?_
  refine ok_drW (b := 215) hL63.1 (by decide) rfl rfl (by decide) rfl ?_
  refine ok_bnd (wv_isOwn hL63 g216_18 (r := 1) rfl) ?_
  rintro y67 ⟨ey67, vy67⟩
  have hy67 : WV G M u fr st B c0 (((((((D ++ ueT 0 (h0)) ++ ueT 0 (2)) ++ ueT 0 (0)) ++ toks 0 (0) 8) ++ ueT 0 (h4)) ++ toks 0 (h5) 8) ++ toks 0 (0) 1) (n + 413) (L ++ L63) y67.1 := by rw [ey67]; exact hL63
  rw [if_neg (show ¬ (y67.2 = (0 : Int32)) from fun qq => absurd (pz_eq.mp qq) (by rw [(show (y67.2).toInt = (1 : Int) from vy67), (show ((0 : Int32)).toInt = (0 : Int) from rfl)] <;> first | decide | omega))]
  refine ok_bnd (Q := fun y68 => WV G M u fr st B c0 ((((((((D ++ ueT 0 (h0)) ++ ueT 0 (2)) ++ ueT 0 (0)) ++ toks 0 (0) 8) ++ ueT 0 (h4)) ++ toks 0 (h5) 8) ++ toks 0 (0) 1) ++ toks 0 (0) 1) (n + 472) ((L ++ L63) ++ y68.1) y68.2) ?_ ?_
  · skip
    refine ok_chk (by rw [wu_ref h.1 (a := 215) (f := 0) (b := 216) (by decide) rfl rfl (by decide)]; exact okd_sm (wu_lt h.1 (by decide) _)) ?_
    refine ok_bnd (wv_flag (V := 0) hy67 rfl (by omega)) ?_
    intro y153 hy153
    have hy153 : WV G M u fr st B c0 ((((((((D ++ ueT 0 (h0)) ++ ueT 0 (2)) ++ ueT 0 (0)) ++ toks 0 (0) 8) ++ ueT 0 (h4)) ++ toks 0 (h5) 8) ++ toks 0 (0) 1) ++ toks 0 (0) 1) (n + 472) ((L ++ L63) ++ y153.1) y153.2 := hy153
    refine ok_app (ok_ltt (fun L156 eL156 => ?_))
    have hL156 : WV G M u fr st B c0 ((((((((D ++ ueT 0 (h0)) ++ ueT 0 (2)) ++ ueT 0 (0)) ++ toks 0 (0) 8) ++ ueT 0 (h4)) ++ toks 0 (h5) 8) ++ toks 0 (0) 1) ++ toks 0 (0) 1) (n + 472) (L ++ L156) y153.2 := by
      have z := hy153
      rw [eL156]
      simp only [List.append_assoc, List.nil_append] at z ⊢
      exact z
    refine ok_some ?_
    have z := hL156
    simp only [eL156, List.append_assoc, List.nil_append, List.append_nil] at z ⊢
    exact z
  intro y68 hy68
  refine ok_app (ok_ltt (fun L70 eL70 => ?_))
  have hL70 : WV G M u fr st B c0 ((((((((D ++ ueT 0 (h0)) ++ ueT 0 (2)) ++ ueT 0 (0)) ++ toks 0 (0) 8) ++ ueT 0 (h4)) ++ toks 0 (h5) 8) ++ toks 0 (0) 1) ++ toks 0 (0) 1) (n + 472) (L ++ L70) y68.2 := by
    have z := hy68
    rw [eL70]
    simp only [List.append_assoc, List.nil_append] at z ⊢
    exact z
  refine ok_drW (b := 125) hL70.1 (by decide) rfl rfl (by decide) rfl ?_
  refine ok_drW (b := 220) hL70.1 (by decide) rfl rfl (by decide) rfl ?_
  refine ok_chk (by rw [wu_len hL70.1 (b := 220) (by decide) rfl]; decide) ?_
  refine ok_ltt (fun x74 ex74 => ?_)
  have vx74 : x74.toInt = (1 : Int) := by rw [ex74]; exact (congrArg Int32.toInt (wu_rd hL70.1 (by decide) rfl 1)).trans g220_1
  rw [if_pos (show x74 = (1 : Int32) from pz_eq.mpr (by rw [(show (x74).toInt = (1 : Int) from vx74), (show ((1 : Int32)).toInt = (1 : Int) from rfl)] <;> first | decide | omega))]
  refine ok_bnd (Q := fun y75 => WV G M u fr st B c0 ((((((((D ++ ueT 0 (h0)) ++ ueT 0 (2)) ++ ueT 0 (0)) ++ toks 0 (0) 8) ++ ueT 0 (h4)) ++ toks 0 (h5) 8) ++ toks 0 (0) 1) ++ toks 0 (0) 1) (n + 472) ((L ++ L70) ++ y75.1) y75.2) ?_ ?_
  · skip
    refine ok_chk (by rw [wu_len hL70.1 (b := 216) (by decide) rfl]; decide) ?_
    refine ok_ltt (fun x137 ex137 => ?_)
    have vx137 : x137.toInt = (2 : Int) := by rw [ex137]; exact (congrArg Int32.toInt (wu_rd hL70.1 (by decide) rfl 1)).trans g216_1
    rw [if_pos (show x137 = (2 : Int32) from pz_eq.mpr (by rw [(show (x137).toInt = (2 : Int) from vx137), (show ((2 : Int32)).toInt = (2 : Int) from rfl)] <;> first | decide | omega))]
    refine ok_bnd (Q := fun y138 => WV G M u fr st B c0 ((((((((D ++ ueT 0 (h0)) ++ ueT 0 (2)) ++ ueT 0 (0)) ++ toks 0 (0) 8) ++ ueT 0 (h4)) ++ toks 0 (h5) 8) ++ toks 0 (0) 1) ++ toks 0 (0) 1) (n + 472) ((L ++ L70) ++ y138.1) y138.2) ?_ ?_
    · skip
      refine ok_some ?_
      have z := hL70
      simp only [List.append_assoc, List.nil_append, List.append_nil] at z ⊢
      exact z
    intro y138 hy138
    refine ok_app (ok_ltt (fun L140 eL140 => ?_))
    have hL140 : WV G M u fr st B c0 ((((((((D ++ ueT 0 (h0)) ++ ueT 0 (2)) ++ ueT 0 (0)) ++ toks 0 (0) 8) ++ ueT 0 (h4)) ++ toks 0 (h5) 8) ++ toks 0 (0) 1) ++ toks 0 (0) 1) (n + 472) (L ++ L140) y138.2 := by
      have z := hy138
      rw [eL140]
      simp only [List.append_assoc, List.nil_append] at z ⊢
      exact z
    refine ok_some ?_
    have z := hL140
    simp only [eL140, List.append_assoc, List.nil_append, List.append_nil] at z ⊢
    exact z
  intro y75 hy75
  refine ok_app (ok_ltt (fun L77 eL77 => ?_))
  have hL77 : WV G M u fr st B c0 ((((((((D ++ ueT 0 (h0)) ++ ueT 0 (2)) ++ ueT 0 (0)) ++ toks 0 (0) 8) ++ ueT 0 (h4)) ++ toks 0 (h5) 8) ++ toks 0 (0) 1) ++ toks 0 (0) 1) (n + 472) (L ++ L77) y75.2 := by
    have z := hy75
    rw [eL77]
    simp only [List.append_assoc, List.nil_append] at z ⊢
    exact z
  refine ok_chk (by rw [wu_len hL77.1 (b := 216) (by decide) rfl]; decide) ?_
  refine ok_ltt (fun x79 ex79 => ?_)
  have vx79 : x79.toInt = h12 := by rw [ex79]; exact (congrArg Int32.toInt (wu_rd hL77.1 (by decide) rfl 12)).trans g216_12
  refine ok_drW (b := 118) hL77.1 (by decide) rfl rfl (by decide) rfl ?_
  refine ok_chk (by rw [wu_len hL77.1 (b := 118) (by decide) rfl]; decide) ?_
  refine ok_ltt (fun x81 ex81 => ?_)
  have vx81 : x81.toInt = z := by rw [ex81]; exact (congrArg Int32.toInt (wu_rd hL77.1 (by decide) rfl 3)).trans g118_3
  refine ok_ltt (fun x82 ex82 => ?_)
  have vx82 : x82.toInt = (h12 - z) := by
    have q1 : (x79).toInt = h12 := vx79
    have q2 : (x81).toInt = z := vx81
    rw [ex82, ti_sub (by rw [q1, q2]; omega) (by rw [q1, q2]; omega), q1, q2] <;> omega
  refine ok_drW (b := 119) hL77.1 (by decide) rfl rfl (by decide) rfl ?_
  refine ok_chk (by rw [wu_ref h.1 (a := 215) (f := 0) (b := 216) (by decide) rfl rfl (by decide)]; exact okd_sm (wu_lt h.1 (by decide) _)) ?_
  refine ok_bnd (wv_se (v := h12 - z) hL77 rfl vx82 (by omega) (by omega) (by omega)) ?_
  intro y84 hy84
  have hy84 : WV G M u fr st B c0 (((((((((D ++ ueT 0 (h0)) ++ ueT 0 (2)) ++ ueT 0 (0)) ++ toks 0 (0) 8) ++ ueT 0 (h4)) ++ toks 0 (h5) 8) ++ toks 0 (0) 1) ++ toks 0 (0) 1) ++ ueT 0 (sei (h12 - z))) (n + 531) ((L ++ L77) ++ y84.1) y84.2 := hy84
  refine ok_app (ok_ltt (fun L87 eL87 => ?_))
  have hL87 : WV G M u fr st B c0 (((((((((D ++ ueT 0 (h0)) ++ ueT 0 (2)) ++ ueT 0 (0)) ++ toks 0 (0) 8) ++ ueT 0 (h4)) ++ toks 0 (h5) 8) ++ toks 0 (0) 1) ++ toks 0 (0) 1) ++ ueT 0 (sei (h12 - z))) (n + 531) (L ++ L87) y84.2 := by
    have z := hy84
    rw [eL87]
    simp only [List.append_assoc, List.nil_append] at z ⊢
    exact z
  refine ok_chk (by rw [wu_len hL87.1 (b := 216) (by decide) rfl]; decide) ?_
  refine ok_ltt (fun x90 ex90 => ?_)
  have vx90 : x90.toInt = ((h13 : Nat) : Int) := by rw [ex90]; exact (congrArg Int32.toInt (wu_rd hL87.1 (by decide) rfl 13)).trans g216_13
  refine ok_drW (b := 119) hL87.1 (by decide) rfl rfl (by decide) rfl ?_
  refine ok_chk (by rw [wu_ref h.1 (a := 215) (f := 0) (b := 216) (by decide) rfl rfl (by decide)]; exact okd_sm (wu_lt h.1 (by decide) _)) ?_
  refine ok_bnd (wv_ue (v := h13) hL87 rfl vx90 (by omega) (by omega)) ?_
  intro y92 hy92
  have hy92 : WV G M u fr st B c0 ((((((((((D ++ ueT 0 (h0)) ++ ueT 0 (2)) ++ ueT 0 (0)) ++ toks 0 (0) 8) ++ ueT 0 (h4)) ++ toks 0 (h5) 8) ++ toks 0 (0) 1) ++ toks 0 (0) 1) ++ ueT 0 (sei (h12 - z))) ++ ueT 0 (h13)) (n + 590) ((L ++ L87) ++ y92.1) y92.2 := hy92
  refine ok_app (ok_ltt (fun L95 eL95 => ?_))
  have hL95 : WV G M u fr st B c0 ((((((((((D ++ ueT 0 (h0)) ++ ueT 0 (2)) ++ ueT 0 (0)) ++ toks 0 (0) 8) ++ ueT 0 (h4)) ++ toks 0 (h5) 8) ++ toks 0 (0) 1) ++ toks 0 (0) 1) ++ ueT 0 (sei (h12 - z))) ++ ueT 0 (h13)) (n + 590) (L ++ L95) y92.2 := by
    have z := hy92
    rw [eL95]
    simp only [List.append_assoc, List.nil_append] at z ⊢
    exact z
  refine ok_chk (by rw [wu_len hL95.1 (b := 216) (by decide) rfl]; decide) ?_
  refine ok_ltt (fun x98 ex98 => ?_)
  have vx98 : x98.toInt = ((h13 : Nat) : Int) := by rw [ex98]; exact (congrArg Int32.toInt (wu_rd hL95.1 (by decide) rfl 13)).trans g216_13
  refine ok_bnd (Q := fun y99 => WV G M u fr st B c0 (((((((((((D ++ ueT 0 (h0)) ++ ueT 0 (2)) ++ ueT 0 (0)) ++ toks 0 (0) 8) ++ ueT 0 (h4)) ++ toks 0 (h5) 8) ++ toks 0 (0) 1) ++ toks 0 (0) 1) ++ ueT 0 (sei (h12 - z))) ++ ueT 0 (h13)) ++ (if ¬ ((h13 : Nat) : Int) = (1 : Int) then (ueT 0 (sei (h14)) ++ (ueT 0 (sei (h15)))) else ([] : List Tok))) (n + 708) ((L ++ L95) ++ y99.1) y99.2) (ok_if ?_ ?_) ?_
  · intro hc
    have hq : (((h13 : Nat) : Int) = (1 : Int)) := by
      exact (show _ = ((h13 : Nat) : Int) from vx98).symm.trans ((congrArg Int32.toInt hc).trans (show _ = (1 : Int) from rfl))
    have hqq : ¬ (¬ ((h13 : Nat) : Int) = (1 : Int)) := by first | exact hq | (intro q; exact q hq) | omega
    refine ok_some (wv_le (n := n + 590) ?_ (by omega))
    rw [show (if ¬ ((h13 : Nat) : Int) = (1 : Int) then (ueT 0 (sei (h14)) ++ (ueT 0 (sei (h15)))) else ([] : List Tok)) = ([] : List Tok) from if_neg hqq]
    have z := hL95
    simp only [List.append_assoc, List.nil_append, List.append_nil] at z ⊢
    exact z
  · intro hc
    have hq : ¬ (((h13 : Nat) : Int) = (1 : Int)) := by
      exact fun q => hc (Int32.toInt_inj.1 (Eq.trans vx98 (Eq.trans q (Eq.symm rfl))))
    have hqq : (¬ ((h13 : Nat) : Int) = (1 : Int)) := by first | exact hq | (intro q; exact q hq) | omega
    refine ok_chk (by rw [wu_len hL95.1 (b := 216) (by decide) rfl]; decide) ?_
    refine ok_ltt (fun x120 ex120 => ?_)
    have vx120 : x120.toInt = h14 := by rw [ex120]; exact (congrArg Int32.toInt (wu_rd hL95.1 (by decide) rfl 14)).trans g216_14
    refine ok_drW (b := 119) hL95.1 (by decide) rfl rfl (by decide) rfl ?_
    refine ok_chk (by rw [wu_ref h.1 (a := 215) (f := 0) (b := 216) (by decide) rfl rfl (by decide)]; exact okd_sm (wu_lt h.1 (by decide) _)) ?_
    refine ok_bnd (wv_se (v := h14) hL95 rfl vx120 (by omega) (by omega) (by omega)) ?_
    intro y122 hy122
    have hy122 : WV G M u fr st B c0 (((((((((((D ++ ueT 0 (h0)) ++ ueT 0 (2)) ++ ueT 0 (0)) ++ toks 0 (0) 8) ++ ueT 0 (h4)) ++ toks 0 (h5) 8) ++ toks 0 (0) 1) ++ toks 0 (0) 1) ++ ueT 0 (sei (h12 - z))) ++ ueT 0 (h13)) ++ ueT 0 (sei (h14))) (n + 649) ((L ++ L95) ++ y122.1) y122.2 := hy122
    refine ok_app (ok_ltt (fun L125 eL125 => ?_))
    have hL125 : WV G M u fr st B c0 (((((((((((D ++ ueT 0 (h0)) ++ ueT 0 (2)) ++ ueT 0 (0)) ++ toks 0 (0) 8) ++ ueT 0 (h4)) ++ toks 0 (h5) 8) ++ toks 0 (0) 1) ++ toks 0 (0) 1) ++ ueT 0 (sei (h12 - z))) ++ ueT 0 (h13)) ++ ueT 0 (sei (h14))) (n + 649) (L ++ L125) y122.2 := by
      have z := hy122
      rw [eL125]
      simp only [List.append_assoc, List.nil_append] at z ⊢
      exact z
    refine ok_chk (by rw [wu_len hL125.1 (b := 216) (by decide) rfl]; decide) ?_
    refine ok_ltt (fun x128 ex128 => ?_)
    have vx128 : x128.toInt = h15 := by rw [ex128]; exact (congrArg Int32.toInt (wu_rd hL125.1 (by decide) rfl 15)).trans g216_15
    refine ok_drW (b := 119) hL125.1 (by decide) rfl rfl (by decide) rfl ?_
    refine ok_bnd (wv_se (v := h15) hL125 rfl vx128 (by omega) (by omega) (by omega)) ?_
    intro y130 hy130
    have hy130 : WV G M u fr st B c0 ((((((((((((D ++ ueT 0 (h0)) ++ ueT 0 (2)) ++ ueT 0 (0)) ++ toks 0 (0) 8) ++ ueT 0 (h4)) ++ toks 0 (h5) 8) ++ toks 0 (0) 1) ++ toks 0 (0) 1) ++ ueT 0 (sei (h12 - z))) ++ ueT 0 (h13)) ++ ueT 0 (sei (h14))) ++ ueT 0 (sei (h15))) (n + 708) ((L ++ L125) ++ y130.1) y130.2 := hy130
    refine ok_app (ok_ltt (fun L132 eL132 => ?_))
    have hL132 : WV G M u fr st B c0 ((((((((((((D ++ ueT 0 (h0)) ++ ueT 0 (2)) ++ ueT 0 (0)) ++ toks 0 (0) 8) ++ ueT 0 (h4)) ++ toks 0 (h5) 8) ++ toks 0 (0) 1) ++ toks 0 (0) 1) ++ ueT 0 (sei (h12 - z))) ++ ueT 0 (h13)) ++ ueT 0 (sei (h14))) ++ ueT 0 (sei (h15))) (n + 708) (L ++ L132) y130.2 := by
      have z := hy130
      rw [eL132]
      simp only [List.append_assoc, List.nil_append] at z ⊢
      exact z
    refine ok_some (wv_le (n := n + 708) ?_ (by omega))
    rw [show (if ¬ ((h13 : Nat) : Int) = (1 : Int) then (ueT 0 (sei (h14)) ++ (ueT 0 (sei (h15)))) else ([] : List Tok)) = (ueT 0 (sei (h14)) ++ (ueT 0 (sei (h15)))) from if_pos hqq]
    have z := hL132
    simp only [eL125, eL132, List.append_assoc, List.nil_append, List.append_nil] at z ⊢
    exact z
  intro y99 hy99
  refine ok_app (ok_ltt (fun L101 eL101 => ?_))
  have hL101 : WV G M u fr st B c0 (((((((((((D ++ ueT 0 (h0)) ++ ueT 0 (2)) ++ ueT 0 (0)) ++ toks 0 (0) 8) ++ ueT 0 (h4)) ++ toks 0 (h5) 8) ++ toks 0 (0) 1) ++ toks 0 (0) 1) ++ ueT 0 (sei (h12 - z))) ++ ueT 0 (h13)) ++ (if ¬ ((h13 : Nat) : Int) = (1 : Int) then (ueT 0 (sei (h14)) ++ (ueT 0 (sei (h15)))) else ([] : List Tok))) (n + 708) (L ++ L101) y99.2 := by
    have z := hy99
    rw [eL101]
    simp only [List.append_assoc, List.nil_append] at z ⊢
    exact z
  refine ok_drW (b := 125) hL101.1 (by decide) rfl rfl (by decide) rfl ?_
  refine ok_drW (b := 220) hL101.1 (by decide) rfl rfl (by decide) rfl ?_
  refine ok_chk (by rw [wu_len hL101.1 (b := 220) (by decide) rfl]; decide) ?_
  refine ok_ltt (fun x105 ex105 => ?_)
  have vx105 : x105.toInt = (1 : Int) := by rw [ex105]; exact (congrArg Int32.toInt (wu_rd hL101.1 (by decide) rfl 1)).trans g220_1
  rw [if_pos (show x105 = (1 : Int32) from pz_eq.mpr (by rw [(show (x105).toInt = (1 : Int) from vx105), (show ((1 : Int32)).toInt = (1 : Int) from rfl)] <;> first | decide | omega))]
  refine ok_bnd (Q := fun y106 => WU G M u fr st B c0 ((((((((((((D ++ ueT 0 (h0)) ++ ueT 0 (2)) ++ ueT 0 (0)) ++ toks 0 (0) 8) ++ ueT 0 (h4)) ++ toks 0 (h5) 8) ++ toks 0 (0) 1) ++ toks 0 (0) 1) ++ ueT 0 (sei (h12 - z))) ++ ueT 0 (h13)) ++ (if ¬ ((h13 : Nat) : Int) = (1 : Int) then (ueT 0 (sei (h14)) ++ (ueT 0 (sei (h15)))) else ([] : List Tok))) ++ dataT (((((((((((D ++ ueT 0 (h0)) ++ ueT 0 (2)) ++ ueT 0 (0)) ++ toks 0 (0) 8) ++ ueT 0 (h4)) ++ toks 0 (h5) 8) ++ toks 0 (0) 1) ++ toks 0 (0) 1) ++ ueT 0 (sei (h12 - z))) ++ ueT 0 (h13)) ++ (if ¬ ((h13 : Nat) : Int) = (1 : Int) then (ueT 0 (sei (h14)) ++ (ueT 0 (sei (h15)))) else ([] : List Tok))).length) ((L ++ L101) ++ y106.1) y106.2) ?_ ?_
  · skip
    refine ok_drW (b := 119) hL101.1 (by decide) rfl rfl (by decide) rfl ?_
    refine ok_bnd (wv_data hL101 (by omega)) ?_
    intro y113 hy113
    refine ok_app (ok_ltt (fun L115 eL115 => ?_))
    have hL115 : WU G M u fr st B c0 ((((((((((((D ++ ueT 0 (h0)) ++ ueT 0 (2)) ++ ueT 0 (0)) ++ toks 0 (0) 8) ++ ueT 0 (h4)) ++ toks 0 (h5) 8) ++ toks 0 (0) 1) ++ toks 0 (0) 1) ++ ueT 0 (sei (h12 - z))) ++ ueT 0 (h13)) ++ (if ¬ ((h13 : Nat) : Int) = (1 : Int) then (ueT 0 (sei (h14)) ++ (ueT 0 (sei (h15)))) else ([] : List Tok))) ++ dataT (((((((((((D ++ ueT 0 (h0)) ++ ueT 0 (2)) ++ ueT 0 (0)) ++ toks 0 (0) 8) ++ ueT 0 (h4)) ++ toks 0 (h5) 8) ++ toks 0 (0) 1) ++ toks 0 (0) 1) ++ ueT 0 (sei (h12 - z))) ++ ueT 0 (h13)) ++ (if ¬ ((h13 : Nat) : Int) = (1 : Int) then (ueT 0 (sei (h14)) ++ (ueT 0 (sei (h15)))) else ([] : List Tok))).length) (L ++ L115) y113.2 := by
      have z := hy113
      rw [eL115]
      simp only [List.append_assoc, List.nil_append] at z ⊢
      exact z
    refine ok_some ?_
    have z := hL115
    simp only [eL115, List.append_assoc, List.nil_append, List.append_nil] at z ⊢
    exact z
  intro y106 hy106
  refine ok_app (ok_ltt (fun L108 eL108 => ?_))
  have hL108 : WU G M u fr st B c0 ((((((((((((D ++ ueT 0 (h0)) ++ ueT 0 (2)) ++ ueT 0 (0)) ++ toks 0 (0) 8) ++ ueT 0 (h4)) ++ toks 0 (h5) 8) ++ toks 0 (0) 1) ++ toks 0 (0) 1) ++ ueT 0 (sei (h12 - z))) ++ ueT 0 (h13)) ++ (if ¬ ((h13 : Nat) : Int) = (1 : Int) then (ueT 0 (sei (h14)) ++ (ueT 0 (sei (h15)))) else ([] : List Tok))) ++ dataT (((((((((((D ++ ueT 0 (h0)) ++ ueT 0 (2)) ++ ueT 0 (0)) ++ toks 0 (0) 8) ++ ueT 0 (h4)) ++ toks 0 (h5) 8) ++ toks 0 (0) 1) ++ toks 0 (0) 1) ++ ueT 0 (sei (h12 - z))) ++ ueT 0 (h13)) ++ (if ¬ ((h13 : Nat) : Int) = (1 : Int) then (ueT 0 (sei (h14)) ++ (ueT 0 (sei (h15)))) else ([] : List Tok))).length) (L ++ L108) y106.2 := by
    have z := hy106
    rw [eL108]
    simp only [List.append_assoc, List.nil_append] at z ⊢
    exact z
  refine ok_some ?_
  have z := hL108
  simp only [eL10, eL18, eL25, eL34, eL42, eL48, eL53, eL58, eL63, eL70, eL77, eL87, eL95, eL101, eL108, List.append_assoc, List.nil_append, List.append_nil] at z ⊢
  exact z
theorem w_head00 {G : GG} {M N : DD} {u fr c0 n : Nat} {st : Nat → Nat} {B : List Nat} {D : List Tok} {L : NN} {h0 h3 h4 h5 h13 o h9 r : Nat} {h11 h12 z h14 h15 : Int} (g118_3 : (M.1 118 3).toInt = z) (g118_7 : (M.1 118 7).toInt = ((r : Nat) : Int)) (g118_18 : (M.1 118 18).toInt = (0 : Int)) (g118_20 : (M.1 118 20).toInt = (0 : Int)) (g216_0 : (M.1 216 0).toInt = ((h0 : Nat) : Int)) (g216_1 : (M.1 216 1).toInt = (0 : Int)) (g216_3 : (M.1 216 3).toInt = ((h3 : Nat) : Int)) (g216_5 : (M.1 216 5).toInt = ((h5 : Nat) : Int)) (g216_9 : (M.1 216 9).toInt = ((h9 : Nat) : Int)) (g216_11 : (M.1 216 11).toInt = h11) (g216_12 : (M.1 216 12).toInt = h12) (g216_13 : (M.1 216 13).toInt = ((h13 : Nat) : Int)) (g216_14 : (M.1 216 14).toInt = h14) (g216_15 : (M.1 216 15).toInt = h15) (g216_18 : (M.1 216 18).toInt = (1 : Int)) (g220_1 : (M.1 220 1).toInt = (0 : Int)) (b0 : h0 < 100000) (b4 : h4 < 100000) (b12 : 0 ≤ h12 ∧ h12 ≤ 100) (bz : -100 ≤ z ∧ z ≤ 100) (b13 : h13 ≤ 2) (b14 : -6 ≤ h14 ∧ h14 ≤ 6) (b15 : -6 ≤ h15 ∧ h15 ≤ 6) (ho : (o = 0 ∧ ((h9 : Nat) : Int) = ((r : Nat) : Int)) ∨ (o = 1 ∧ ¬ ((h9 : Nat) : Int) = ((r : Nat) : Int))) (b9 : 1 ≤ h9 ∧ h9 ≤ 8) (hn : n ≤ 100000) (h : WV G M u fr st B c0 D n L N) : OK (FX0_writeHeader (xt G L) N 116) (fun y => WV G M u fr st B c0 ((((((((((((D ++ ueT 0 (h0)) ++ ueT 0 (0)) ++ ueT 0 (0)) ++ toks 0 (h3) 8) ++ toks 0 (h5) 8) ++ toks 0 (o) 1) ++ (if ((o : Nat) : Int) = (1 : Int) then (ueT 0 (h9 - 1)) else ([] : List Tok))) ++ toks 0 (0) 1) ++ (if ¬ h11 = (0 : Int) then (toks 0 (0) 1) else ([] : List Tok))) ++ ueT 0 (sei (h12 - z))) ++ ueT 0 (h13)) ++ (if ¬ ((h13 : Nat) : Int) = (1 : Int) then (ueT 0 (sei (h14)) ++ (ueT 0 (sei (h15)))) else ([] : List Tok))) (n + 767) (L ++ y.1) y.2) := by
  unfold FX0_writeHeader
  simp only [xt_xt, List.append_nil]
  refine ok_drW (b := 125) h.1 (by decide) rfl rfl (by decide) rfl ?_
  refine ok_drW (b := 215) h.1 (by decide) rfl rfl (by decide) rfl ?_
  refine ok_drW (b := 216) h.1 (by decide) rfl rfl (by decide) rfl ?_
  refine ok_chk (by rw [wu_len h.1 (b := 216) (by decide) rfl]; decide) ?_
  refine ok_ltt (fun x5 ex5 => ?_)
  have vx5 : x5.toInt = ((h0 : Nat) : Int) := by rw [ex5]; exact (congrArg Int32.toInt (wu_rd h.1 (by decide) rfl 0)).trans g216_0
  refine ok_drW (b := 119) h.1 (by decide) rfl rfl (by decide) rfl ?_
  refine ok_chk (by rw [wu_ref h.1 (a := 215) (f := 0) (b := 216) (by decide) rfl rfl (by decide)]; exact okd_sm (wu_lt h.1 (by decide) _)) ?_
  refine ok_bnd (wv_ue (v := h0) h rfl vx5 (by omega) (by omega)) ?_
  intro y7 hy7
  have hy7 : WV G M u fr st B c0 (D ++ ueT 0 (h0)) (n + 59) ((L) ++ y7.1) y7.2 := hy7
  refine ok_app (ok_ltt (fun L10 eL10 => ?_))
  have hL10 : WV G M u fr st B c0 (D ++ ueT 0 (h0)) (n + 59) (L ++ L10) y7.2 := by
    have z := hy7
    rw [eL10]
    simp only [List.append_assoc, List.nil_append] at z ⊢
    exact z
  refine ok_chk (by rw [wu_len hL10.1 (b := 216) (by decide) rfl]; decide) ?_
  refine ok_ltt (fun x13 ex13 => ?_)
  have vx13 : x13.toInt = (0 : Int) := by rw [ex13]; exact (congrArg Int32.toInt (wu_rd hL10.1 (by decide) rfl 1)).trans g216_1
  refine ok_drW (b := 119) hL10.1 (by decide) rfl rfl (by decide) rfl ?_
  refine ok_chk (by rw [wu_ref h.1 (a := 215) (f := 0) (b := 216) (by decide) rfl rfl (by decide)]; exact okd_sm (wu_lt h.1 (by decide) _)) ?_
  refine ok_bnd (wv_ue (v := 0) hL10 rfl vx13 (by omega) (by omega)) ?_
  intro y15 hy15
  have hy15 : WV G M u fr st B c0 ((D ++ ueT 0 (h0)) ++ ueT 0 (0)) (n + 118) ((L ++ L10) ++ y15.1) y15.2 := hy15
  refine ok_app (ok_ltt (fun L18 eL18 => ?_))
  have hL18 : WV G M u fr st B c0 ((D ++ ueT 0 (h0)) ++ ueT 0 (0)) (n + 118) (L ++ L18) y15.2 := by
    have z := hy15
    rw [eL18]
    simp only [List.append_assoc, List.nil_append] at z ⊢
    exact z
  refine ok_drW (b := 119) hL18.1 (by decide) rfl rfl (by decide) rfl ?_
  refine ok_chk (by rw [wu_ref h.1 (a := 215) (f := 0) (b := 216) (by decide) rfl rfl (by decide)]; exact okd_sm (wu_lt h.1 (by decide) _)) ?_
  refine ok_bnd (wv_ue (v := 0) hL18 rfl rfl (by omega) (by omega)) ?_
  intro y22 hy22
  have hy22 : WV G M u fr st B c0 (((D ++ ueT 0 (h0)) ++ ueT 0 (0)) ++ ueT 0 (0)) (n + 177) ((L ++ L18) ++ y22.1) y22.2 := hy22
  refine ok_app (ok_ltt (fun L25 eL25 => ?_))
  have hL25 : WV G M u fr st B c0 (((D ++ ueT 0 (h0)) ++ ueT 0 (0)) ++ ueT 0 (0)) (n + 177) (L ++ L25) y22.2 := by
    have z := hy22
    rw [eL25]
    simp only [List.append_assoc, List.nil_append] at z ⊢
    exact z
  refine ok_chk (by rw [wu_len hL25.1 (b := 216) (by decide) rfl]; decide) ?_
  refine ok_ltt (fun x28 ex28 => ?_)
  have vx28 : x28.toInt = ((h3 : Nat) : Int) := by rw [ex28]; exact (congrArg Int32.toInt (wu_rd hL25.1 (by decide) rfl 3)).trans g216_3
  refine ok_ltt (fun x29 ex29 => ?_)
  have vx29 : x29.toInt = ((h3 : Nat) : Int) := by rw [ex29, Int32.toInt_toInt64]; exact vx28
  refine ok_drW (b := 119) hL25.1 (by decide) rfl rfl (by decide) rfl ?_
  refine ok_chk (by rw [wu_ref h.1 (a := 215) (f := 0) (b := 216) (by decide) rfl rfl (by decide)]; exact okd_sm (wu_lt h.1 (by decide) _)) ?_
  refine ok_bnd (wv_code (V := h3) (m := 8) hL25 rfl vx29 rfl (by decide) (by omega)) ?_
  intro y31 hy31
  have hy31 : WV G M u fr st B c0 ((((D ++ ueT 0 (h0)) ++ ueT 0 (0)) ++ ueT 0 (0)) ++ toks 0 (h3) 8) (n + 236) ((L ++ L25) ++ y31.1) y31.2 := hy31
  refine ok_app (ok_ltt (fun L34 eL34 => ?_))
  have hL34 : WV G M u fr st B c0 ((((D ++ ueT 0 (h0)) ++ ueT 0 (0)) ++ ueT 0 (0)) ++ toks 0 (h3) 8) (n + 236) (L ++ L34) y31.2 := by
    have z := hy31
    rw [eL34]
    simp only [List.append_assoc, List.nil_append] at z ⊢
    exact z
  refine ok_drW (b := 125) hL34.1 (by decide) rfl rfl (by decide) rfl ?_
  refine ok_drW (b := 215) hL34.1 (by decide) rfl rfl (by decide) rfl ?_
  refine ok_bnd (wv_isOwn hL34 g216_18 (r := 0) rfl) ?_
  rintro y39 ⟨ey39, vy39⟩
  have hy39 : WV G M u fr st B c0 ((((D ++ ueT 0 (h0)) ++ ueT 0 (0)) ++ ueT 0 (0)) ++ toks 0 (h3) 8) (n + 236) (L ++ L34) y39.1 := by rw [ey39]; exact hL34
  rw [if_pos (show y39.2 = (0 : Int32) from pz_eq.mpr (by rw [(show (y39.2).toInt = (0 : Int) from vy39), (show ((0 : Int32)).toInt = (0 : Int) from rfl)] <;> first | decide | omega))]
  refine ok_bnd (Q := fun y40 => WV G M u fr st B c0 ((((D ++ ueT 0 (h0)) ++ ueT 0 (0)) ++ ueT 0 (0)) ++ toks 0 (h3) 8) (n + 236) ((L ++ L34) ++ y40.1) y40.2) ?_ ?_
  · skip
    refine ok_some ?_
    have z := hy39
    simp only [List.append_assoc, List.nil_append, List.append_nil] at z ⊢
    exact z
  intro y40 hy40
  refine ok_app (ok_ltt (fun L42 eL42 => ?_))
  have hL42 : WV G M u fr st B c0 ((((D ++ ueT 0 (h0)) ++ ueT 0 (0)) ++ ueT 0 (0)) ++ toks 0 (h3) 8) (n + 236) (L ++ L42) y40.2 := by
    have z := hy40
    rw [eL42]
    simp only [List.append_assoc, List.nil_append] at z ⊢
    exact z
  refine ok_drW (b := 118) hL42.1 (by decide) rfl rfl (by decide) rfl ?_
  refine ok_chk (by rw [wu_len hL42.1 (b := 118) (by decide) rfl]; decide) ?_
  refine ok_ltt (fun x45 ex45 => ?_)
  have vx45 : x45.toInt = (0 : Int) := by rw [ex45]; exact (congrArg Int32.toInt (wu_rd hL42.1 (by decide) rfl 18)).trans g118_18
  rw [if_pos (show x45 = (0 : Int32) from pz_eq.mpr (by rw [(show (x45).toInt = (0 : Int) from vx45), (show ((0 : Int32)).toInt = (0 : Int) from rfl)] <;> first | decide | omega))]
  refine ok_bnd (Q := fun y46 => WV G M u fr st B c0 (((((D ++ ueT 0 (h0)) ++ ueT 0 (0)) ++ ueT 0 (0)) ++ toks 0 (h3) 8) ++ toks 0 (h5) 8) (n + 295) ((L ++ L42) ++ y46.1) y46.2) ?_ ?_
  · skip
    refine ok_chk (by rw [wu_len hL42.1 (b := 216) (by decide) rfl]; decide) ?_
    refine ok_ltt (fun x193 ex193 => ?_)
    have vx193 : x193.toInt = ((h5 : Nat) : Int) := by rw [ex193]; exact (congrArg Int32.toInt (wu_rd hL42.1 (by decide) rfl 5)).trans g216_5
    refine ok_ltt (fun x194 ex194 => ?_)
    have vx194 : x194.toInt = ((h5 : Nat) : Int) := by rw [ex194, Int32.toInt_toInt64]; exact vx193
    refine ok_drW (b := 119) hL42.1 (by decide) rfl rfl (by decide) rfl ?_
    refine ok_chk (by rw [wu_ref h.1 (a := 215) (f := 0) (b := 216) (by decide) rfl rfl (by decide)]; exact okd_sm (wu_lt h.1 (by decide) _)) ?_
    refine ok_bnd (wv_code (V := h5) (m := 8) hL42 rfl vx194 rfl (by decide) (by omega)) ?_
    intro y196 hy196
    have hy196 : WV G M u fr st B c0 (((((D ++ ueT 0 (h0)) ++ ueT 0 (0)) ++ ueT 0 (0)) ++ toks 0 (h3) 8) ++ toks 0 (h5) 8) (n + 295) ((L ++ L42) ++ y196.1) y196.2 := hy196
    refine ok_app (ok_ltt (fun L199 eL199 => ?_))
    have hL199 : WV G M u fr st B c0 (((((D ++ ueT 0 (h0)) ++ ueT 0 (0)) ++ ueT 0 (0)) ++ toks 0 (h3) 8) ++ toks 0 (h5) 8) (n + 295) (L ++ L199) y196.2 := by
      have z := hy196
      rw [eL199]
      simp only [List.append_assoc, List.nil_append] at z ⊢
      exact z
    refine ok_some ?_
    have z := hL199
    simp only [eL199, List.append_assoc, List.nil_append, List.append_nil] at z ⊢
    exact z
  intro y46 hy46
  refine ok_app (ok_ltt (fun L48 eL48 => ?_))
  have hL48 : WV G M u fr st B c0 (((((D ++ ueT 0 (h0)) ++ ueT 0 (0)) ++ ueT 0 (0)) ++ toks 0 (h3) 8) ++ toks 0 (h5) 8) (n + 295) (L ++ L48) y46.2 := by
    have z := hy46
    rw [eL48]
    simp only [List.append_assoc, List.nil_append] at z ⊢
    exact z
  refine ok_chk (by rw [wu_len hL48.1 (b := 216) (by decide) rfl]; decide) ?_
  refine ok_ltt (fun x50 ex50 => ?_)
  have vx50 : x50.toInt = (0 : Int) := by rw [ex50]; exact (congrArg Int32.toInt (wu_rd hL48.1 (by decide) rfl 1)).trans g216_1
  rw [if_neg (show ¬ (x50 = (2 : Int32)) from fun qq => absurd (pz_eq.mp qq) (by rw [(show (x50).toInt = (0 : Int) from vx50), (show ((2 : Int32)).toInt = (2 : Int) from rfl)] <;> first | decide | omega))]
  refine ok_bnd (Q := fun y51 => WV G M u fr st B c0 ((((((((D ++ ueT 0 (h0)) ++ ueT 0 (0)) ++ ueT 0 (0)) ++ toks 0 (h3) 8) ++ toks 0 (h5) 8) ++ toks 0 (o) 1) ++ (if ((o : Nat) : Int) = (1 : Int) then (ueT 0 (h9 - 1)) else ([] : List Tok))) ++ toks 0 (0) 1) (n + 472) ((L ++ L48) ++ y51.1) y51.2) ?_ ?_
  · skip
    refine ok_chk (by rw [wu_ref h.1 (a := 215) (f := 0) (b := 216) (by decide) rfl rfl (by decide)]; exact okd_sm (wu_lt h.1 (by decide) _)) ?_
    refine ok_bnd (w_lists0 (D := (((((D ++ ueT 0 (h0)) ++ ueT 0 (0)) ++ ueT 0 (0)) ++ toks 0 (h3) 8) ++ toks 0 (h5) 8)) (n := n + 295) g118_7 g216_1 g216_9 ho b9 (by omega) hL48) ?_
    intro y185 hy185
    have hy185 : WV G M u fr st B c0 ((((((((D ++ ueT 0 (h0)) ++ ueT 0 (0)) ++ ueT 0 (0)) ++ toks 0 (h3) 8) ++ toks 0 (h5) 8) ++ toks 0 (o) 1) ++ (if ((o : Nat) : Int) = (1 : Int) then (ueT 0 (h9 - 1)) else ([] : List Tok))) ++ toks 0 (0) 1) (n + 472) ((L ++ L48) ++ y185.1) y185.2 := wv_le hy185 (by omega)
    refine ok_app (ok_ltt (fun L188 eL188 => ?_))
    have hL188 : WV G M u fr st B c0 ((((((((D ++ ueT 0 (h0)) ++ ueT 0 (0)) ++ ueT 0 (0)) ++ toks 0 (h3) 8) ++ toks 0 (h5) 8) ++ toks 0 (o) 1) ++ (if ((o : Nat) : Int) = (1 : Int) then (ueT 0 (h9 - 1)) else ([] : List Tok))) ++ toks 0 (0) 1) (n + 472) (L ++ L188) y185.2 := by
      have z := hy185
      rw [eL188]
      simp only [List.append_assoc, List.nil_append] at z ⊢
      exact z
    refine ok_some ?_
    have z := hL188
    simp only [eL188, List.append_assoc, List.nil_append, List.append_nil] at z ⊢
    exact z
  intro y51 hy51
  refine ok_app (ok_ltt (fun L53 eL53 => ?_))
  have hL53 : WV G M u fr st B c0 ((((((((D ++ ueT 0 (h0)) ++ ueT 0 (0)) ++ ueT 0 (0)) ++ toks 0 (h3) 8) ++ toks 0 (h5) 8) ++ toks 0 (o) 1) ++ (if ((o : Nat) : Int) = (1 : Int) then (ueT 0 (h9 - 1)) else ([] : List Tok))) ++ toks 0 (0) 1) (n + 472) (L ++ L53) y51.2 := by
    have z := hy51
    rw [eL53]
    simp only [List.append_assoc, List.nil_append] at z ⊢
    exact z
  refine ok_chk (by rw [wu_len hL53.1 (b := 216) (by decide) rfl]; decide) ?_
  refine ok_ltt (fun x55 ex55 => ?_)
  have vx55 : x55.toInt = (0 : Int) := by rw [ex55]; exact (congrArg Int32.toInt (wu_rd hL53.1 (by decide) rfl 1)).trans g216_1
  rw [if_pos (show x55 = (0 : Int32) from pz_eq.mpr (by rw [(show (x55).toInt = (0 : Int) from vx55), (show ((0 : Int32)).toInt = (0 : Int) from rfl)] <;> first | decide | omega))]
  refine ok_bnd (Q := fun y56 => WV G M u fr st B c0 ((((((((D ++ ueT 0 (h0)) ++ ueT 0 (0)) ++ ueT 0 (0)) ++ toks 0 (h3) 8) ++ toks 0 (h5) 8) ++ toks 0 (o) 1) ++ (if ((o : Nat) : Int) = (1 : Int) then (ueT 0 (h9 - 1)) else ([] : List Tok))) ++ toks 0 (0) 1) (n + 472) ((L ++ L53) ++ y56.1) y56.2) ?_ ?_
  · skip
    refine ok_drW (b := 118) hL53.1 (by decide) rfl rfl (by decide) rfl ?_
    refine ok_chk (by rw [wu_len hL53.1 (b := 118) (by decide) rfl]; decide) ?_
    refine ok_ltt (fun x170 ex170 => ?_)
    have vx170 : x170.toInt = (0 : Int) := by rw [ex170]; exact (congrArg Int32.toInt (wu_rd hL53.1 (by decide) rfl 20)).trans g118_20
    rw [if_neg (show ¬ (x170 = (1 : Int32)) from fun qq => absurd (pz_eq.mp qq) (by rw [(show (x170).toInt = (0 : Int) from vx170), (show ((1 : Int32)).toInt = (1 : Int) from rfl)] <;> first | decide | omega))]
    refine ok_bnd (Q := fun y171 => WV G M u fr st B c0 ((((((((D ++ ueT 0 (h0)) ++ ueT 0 (0)) ++ ueT 0 (0)) ++ toks 0 (h3) 8) ++ toks 0 (h5) 8) ++ toks 0 (o) 1) ++ (if ((o : Nat) : Int) = (1 : Int) then (ueT 0 (h9 - 1)) else ([] : List Tok))) ++ toks 0 (0) 1) (n + 472) ((L ++ L53) ++ y171.1) y171.2) ?_ ?_
    · skip
      refine ok_some ?_
      have z := hL53
      simp only [List.append_assoc, List.nil_append, List.append_nil] at z ⊢
      exact z
    intro y171 hy171
    refine ok_app (ok_ltt (fun L173 eL173 => ?_))
    have hL173 : WV G M u fr st B c0 ((((((((D ++ ueT 0 (h0)) ++ ueT 0 (0)) ++ ueT 0 (0)) ++ toks 0 (h3) 8) ++ toks 0 (h5) 8) ++ toks 0 (o) 1) ++ (if ((o : Nat) : Int) = (1 : Int) then (ueT 0 (h9 - 1)) else ([] : List Tok))) ++ toks 0 (0) 1) (n + 472) (L ++ L173) y171.2 := by
      have z := hy171
      rw [eL173]
      simp only [List.append_assoc, List.nil_append] at z ⊢
      exact z
    refine ok_some ?_
    have z := hL173
    simp only [eL173, List.append_assoc, List.nil_append, List.append_nil] at z ⊢
    exact z
  intro y56 hy56
  refine ok_app (ok_ltt (fun L58 eL58 => ?_))
  have hL58 : WV G M u fr st B c0 ((((((((D ++ ueT 0 (h0)) ++ ueT 0 (0)) ++ ueT 0 (0)) ++ toks 0 (h3) 8) ++ toks 0 (h5) 8) ++ toks 0 (o) 1) ++ (if ((o : Nat) : Int) = (1 : Int) then (ueT 0 (h9 - 1)) else ([] : List Tok))) ++ toks 0 (0) 1) (n + 472) (L ++ L58) y56.2 := by
    have z := hy56
    rw [eL58]
    simp only [List.append_assoc, List.nil_append] at z ⊢
    exact z
  refine ok_chk (by rw [wu_len hL58.1 (b := 216) (by decide) rfl]; decide) ?_
  refine ok_ltt (fun x60 ex60 => ?_)
  have vx60 : x60.toInt = h11 := by rw [ex60]; exact (congrArg Int32.toInt (wu_rd hL58.1 (by decide) rfl 11)).trans g216_11
  refine ok_bnd (Q := fun y61 => WV G M u fr st B c0 (((((((((D ++ ueT 0 (h0)) ++ ueT 0 (0)) ++ ueT 0 (0)) ++ toks 0 (h3) 8) ++ toks 0 (h5) 8) ++ toks 0 (o) 1) ++ (if ((o : Nat) : Int) = (1 : Int) then (ueT 0 (h9 - 1)) else ([] : List Tok))) ++ toks 0 (0) 1) ++ (if ¬ h11 = (0 : Int) then (toks 0 (0) 1) else ([] : List Tok))) (n + 531) ((L ++ L58) ++ y61.1) y61.2) (ok_if ?_ ?_) ?_
  · intro hc
    have hq : (h11 = (0 : Int)) := by
      exact (show _ = h11 from vx60).symm.trans ((congrArg Int32.toInt hc).trans (show _ = (0 : Int) from rfl))
    have hqq : ¬ (¬ h11 = (0 : Int)) := by first | exact hq | (intro q; exact q hq) | omega
    refine ok_some (wv_le (n := n + 472) ?_ (by omega))
    rw [show (if ¬ h11 = (0 : Int) then (toks 0 (0) 1) else ([] : List Tok)) = ([] : List Tok) from if_neg hqq]
    have z := hL58
    simp only [List.append_assoc, List.nil_append, List.append_nil] at z ⊢
    exact z
  · intro hc
    have hq : ¬ (h11 = (0 : Int)) := by
      exact fun q => hc (Int32.toInt_inj.1 (Eq.trans vx60 (Eq.trans q (Eq.symm rfl))))
    have hqq : (¬ h11 = (0 : Int)) := by first | exact hq | (intro q; exact q hq) | omega
    refine ok_chk (by rw [wu_ref h.1 (a := 215) (f := 0) (b := 216) (by decide) rfl rfl (by decide)]; exact okd_sm (wu_lt h.1 (by decide) _)) ?_
    refine ok_bnd (wv_flag (V := 0) hL58 rfl (by omega)) ?_
    intro y161 hy161
    have hy161 : WV G M u fr st B c0 (((((((((D ++ ueT 0 (h0)) ++ ueT 0 (0)) ++ ueT 0 (0)) ++ toks 0 (h3) 8) ++ toks 0 (h5) 8) ++ toks 0 (o) 1) ++ (if ((o : Nat) : Int) = (1 : Int) then (ueT 0 (h9 - 1)) else ([] : List Tok))) ++ toks 0 (0) 1) ++ toks 0 (0) 1) (n + 531) ((L ++ L58) ++ y161.1) y161.2 := hy161
    refine ok_app (ok_ltt (fun L164 eL164 => ?_))
    have hL164 : WV G M u fr st B c0 (((((((((D ++ ueT 0 (h0)) ++ ueT 0 (0)) ++ ueT 0 (0)) ++ toks 0 (h3) 8) ++ toks 0 (h5) 8) ++ toks 0 (o) 1) ++ (if ((o : Nat) : Int) = (1 : Int) then (ueT 0 (h9 - 1)) else ([] : List Tok))) ++ toks 0 (0) 1) ++ toks 0 (0) 1) (n + 531) (L ++ L164) y161.2 := by
      have z := hy161
      rw [eL164]
      simp only [List.append_assoc, List.nil_append] at z ⊢
      exact z
    refine ok_some (wv_le (n := n + 531) ?_ (by omega))
    rw [show (if ¬ h11 = (0 : Int) then (toks 0 (0) 1) else ([] : List Tok)) = (toks 0 (0) 1) from if_pos hqq]
    have z := hL164
    simp only [eL164, List.append_assoc, List.nil_append, List.append_nil] at z ⊢
    exact z
  intro y61 hy61
  refine ok_app (ok_ltt (fun L63 eL63 => ?_))
  have hL63 : WV G M u fr st B c0 (((((((((D ++ ueT 0 (h0)) ++ ueT 0 (0)) ++ ueT 0 (0)) ++ toks 0 (h3) 8) ++ toks 0 (h5) 8) ++ toks 0 (o) 1) ++ (if ((o : Nat) : Int) = (1 : Int) then (ueT 0 (h9 - 1)) else ([] : List Tok))) ++ toks 0 (0) 1) ++ (if ¬ h11 = (0 : Int) then (toks 0 (0) 1) else ([] : List Tok))) (n + 531) (L ++ L63) y61.2 := by
    have z := hy61
    rw [eL63]
    simp only [List.append_assoc, List.nil_append] at z ⊢
    exact z
  refine ok_drW (b := 125) hL63.1 (by decide) rfl rfl (by decide) rfl ?_
  refine ok_drW (b := 215) hL63.1 (by decide) rfl rfl (by decide) rfl ?_
  refine ok_bnd (wv_isOwn hL63 g216_18 (r := 0) rfl) ?_
  rintro y67 ⟨ey67, vy67⟩
  have hy67 : WV G M u fr st B c0 (((((((((D ++ ueT 0 (h0)) ++ ueT 0 (0)) ++ ueT 0 (0)) ++ toks 0 (h3) 8) ++ toks 0 (h5) 8) ++ toks 0 (o) 1) ++ (if ((o : Nat) : Int) = (1 : Int) then (ueT 0 (h9 - 1)) else ([] : List Tok))) ++ toks 0 (0) 1) ++ (if ¬ h11 = (0 : Int) then (toks 0 (0) 1) else ([] : List Tok))) (n + 531) (L ++ L63) y67.1 := by rw [ey67]; exact hL63
  rw [if_pos (show y67.2 = (0 : Int32) from pz_eq.mpr (by rw [(show (y67.2).toInt = (0 : Int) from vy67), (show ((0 : Int32)).toInt = (0 : Int) from rfl)] <;> first | decide | omega))]
  refine ok_bnd (Q := fun y68 => WV G M u fr st B c0 (((((((((D ++ ueT 0 (h0)) ++ ueT 0 (0)) ++ ueT 0 (0)) ++ toks 0 (h3) 8) ++ toks 0 (h5) 8) ++ toks 0 (o) 1) ++ (if ((o : Nat) : Int) = (1 : Int) then (ueT 0 (h9 - 1)) else ([] : List Tok))) ++ toks 0 (0) 1) ++ (if ¬ h11 = (0 : Int) then (toks 0 (0) 1) else ([] : List Tok))) (n + 531) ((L ++ L63) ++ y68.1) y68.2) ?_ ?_
  · skip
    refine ok_some ?_
    have z := hy67
    simp only [List.append_assoc, List.nil_append, List.append_nil] at z ⊢
    exact z
  intro y68 hy68
  refine ok_app (ok_ltt (fun L70 eL70 => ?_))
  have hL70 : WV G M u fr st B c0 (((((((((D ++ ueT 0 (h0)) ++ ueT 0 (0)) ++ ueT 0 (0)) ++ toks 0 (h3) 8) ++ toks 0 (h5) 8) ++ toks 0 (o) 1) ++ (if ((o : Nat) : Int) = (1 : Int) then (ueT 0 (h9 - 1)) else ([] : List Tok))) ++ toks 0 (0) 1) ++ (if ¬ h11 = (0 : Int) then (toks 0 (0) 1) else ([] : List Tok))) (n + 531) (L ++ L70) y68.2 := by
    have z := hy68
    rw [eL70]
    simp only [List.append_assoc, List.nil_append] at z ⊢
    exact z
  refine ok_drW (b := 125) hL70.1 (by decide) rfl rfl (by decide) rfl ?_
  refine ok_drW (b := 220) hL70.1 (by decide) rfl rfl (by decide) rfl ?_
  refine ok_chk (by rw [wu_len hL70.1 (b := 220) (by decide) rfl]; decide) ?_
  refine ok_ltt (fun x74 ex74 => ?_)
  have vx74 : x74.toInt = (0 : Int) := by rw [ex74]; exact (congrArg Int32.toInt (wu_rd hL70.1 (by decide) rfl 1)).trans g220_1
  rw [if_neg (show ¬ (x74 = (1 : Int32)) from fun qq => absurd (pz_eq.mp qq) (by rw [(show (x74).toInt = (0 : Int) from vx74), (show ((1 : Int32)).toInt = (1 : Int) from rfl)] <;> first | decide | omega))]
  refine ok_bnd (Q := fun y75 => WV G M u fr st B c0 (((((((((D ++ ueT 0 (h0)) ++ ueT 0 (0)) ++ ueT 0 (0)) ++ toks 0 (h3) 8) ++ toks 0 (h5) 8) ++ toks 0 (o) 1) ++ (if ((o : Nat) : Int) = (1 : Int) then (ueT 0 (h9 - 1)) else ([] : List Tok))) ++ toks 0 (0) 1) ++ (if ¬ h11 = (0 : Int) then (toks 0 (0) 1) else ([] : List Tok))) (n + 531) ((L ++ L70) ++ y75.1) y75.2) ?_ ?_
  · skip
    refine ok_some ?_
    have z := hL70
    simp only [List.append_assoc, List.nil_append, List.append_nil] at z ⊢
    exact z
  intro y75 hy75
  refine ok_app (ok_ltt (fun L77 eL77 => ?_))
  have hL77 : WV G M u fr st B c0 (((((((((D ++ ueT 0 (h0)) ++ ueT 0 (0)) ++ ueT 0 (0)) ++ toks 0 (h3) 8) ++ toks 0 (h5) 8) ++ toks 0 (o) 1) ++ (if ((o : Nat) : Int) = (1 : Int) then (ueT 0 (h9 - 1)) else ([] : List Tok))) ++ toks 0 (0) 1) ++ (if ¬ h11 = (0 : Int) then (toks 0 (0) 1) else ([] : List Tok))) (n + 531) (L ++ L77) y75.2 := by
    have z := hy75
    rw [eL77]
    simp only [List.append_assoc, List.nil_append] at z ⊢
    exact z
  refine ok_chk (by rw [wu_len hL77.1 (b := 216) (by decide) rfl]; decide) ?_
  refine ok_ltt (fun x79 ex79 => ?_)
  have vx79 : x79.toInt = h12 := by rw [ex79]; exact (congrArg Int32.toInt (wu_rd hL77.1 (by decide) rfl 12)).trans g216_12
  refine ok_drW (b := 118) hL77.1 (by decide) rfl rfl (by decide) rfl ?_
  refine ok_chk (by rw [wu_len hL77.1 (b := 118) (by decide) rfl]; decide) ?_
  refine ok_ltt (fun x81 ex81 => ?_)
  have vx81 : x81.toInt = z := by rw [ex81]; exact (congrArg Int32.toInt (wu_rd hL77.1 (by decide) rfl 3)).trans g118_3
  refine ok_ltt (fun x82 ex82 => ?_)
  have vx82 : x82.toInt = (h12 - z) := by
    have q1 : (x79).toInt = h12 := vx79
    have q2 : (x81).toInt = z := vx81
    rw [ex82, ti_sub (by rw [q1, q2]; omega) (by rw [q1, q2]; omega), q1, q2] <;> omega
  refine ok_drW (b := 119) hL77.1 (by decide) rfl rfl (by decide) rfl ?_
  refine ok_chk (by rw [wu_ref h.1 (a := 215) (f := 0) (b := 216) (by decide) rfl rfl (by decide)]; exact okd_sm (wu_lt h.1 (by decide) _)) ?_
  refine ok_bnd (wv_se (v := h12 - z) hL77 rfl vx82 (by omega) (by omega) (by omega)) ?_
  intro y84 hy84
  have hy84 : WV G M u fr st B c0 ((((((((((D ++ ueT 0 (h0)) ++ ueT 0 (0)) ++ ueT 0 (0)) ++ toks 0 (h3) 8) ++ toks 0 (h5) 8) ++ toks 0 (o) 1) ++ (if ((o : Nat) : Int) = (1 : Int) then (ueT 0 (h9 - 1)) else ([] : List Tok))) ++ toks 0 (0) 1) ++ (if ¬ h11 = (0 : Int) then (toks 0 (0) 1) else ([] : List Tok))) ++ ueT 0 (sei (h12 - z))) (n + 590) ((L ++ L77) ++ y84.1) y84.2 := hy84
  refine ok_app (ok_ltt (fun L87 eL87 => ?_))
  have hL87 : WV G M u fr st B c0 ((((((((((D ++ ueT 0 (h0)) ++ ueT 0 (0)) ++ ueT 0 (0)) ++ toks 0 (h3) 8) ++ toks 0 (h5) 8) ++ toks 0 (o) 1) ++ (if ((o : Nat) : Int) = (1 : Int) then (ueT 0 (h9 - 1)) else ([] : List Tok))) ++ toks 0 (0) 1) ++ (if ¬ h11 = (0 : Int) then (toks 0 (0) 1) else ([] : List Tok))) ++ ueT 0 (sei (h12 - z))) (n + 590) (L ++ L87) y84.2 := by
    have z := hy84
    rw [eL87]
    simp only [List.append_assoc, List.nil_append] at z ⊢
    exact z
  refine ok_chk (by rw [wu_len hL87.1 (b := 216) (by decide) rfl]; decide) ?_
  refine ok_ltt (fun x90 ex90 => ?_)
  have vx90 : x90.toInt = ((h13 : Nat) : Int) := by rw [ex90]; exact (congrArg Int32.toInt (wu_rd hL87.1 (by decide) rfl 13)).trans g216_13
  refine ok_drW (b := 119) hL87.1 (by decide) rfl rfl (by decide) rfl ?_
  refine ok_chk (by rw [wu_ref h.1 (a := 215) (f := 0) (b := 216) (by decide) rfl rfl (by decide)]; exact okd_sm (wu_lt h.1 (by decide) _)) ?_
  refine ok_bnd (wv_ue (v := h13) hL87 rfl vx90 (by omega) (by omega)) ?_
  intro y92 hy92
  have hy92 : WV G M u fr st B c0 (((((((((((D ++ ueT 0 (h0)) ++ ueT 0 (0)) ++ ueT 0 (0)) ++ toks 0 (h3) 8) ++ toks 0 (h5) 8) ++ toks 0 (o) 1) ++ (if ((o : Nat) : Int) = (1 : Int) then (ueT 0 (h9 - 1)) else ([] : List Tok))) ++ toks 0 (0) 1) ++ (if ¬ h11 = (0 : Int) then (toks 0 (0) 1) else ([] : List Tok))) ++ ueT 0 (sei (h12 - z))) ++ ueT 0 (h13)) (n + 649) ((L ++ L87) ++ y92.1) y92.2 := hy92
  refine ok_app (ok_ltt (fun L95 eL95 => ?_))
  have hL95 : WV G M u fr st B c0 (((((((((((D ++ ueT 0 (h0)) ++ ueT 0 (0)) ++ ueT 0 (0)) ++ toks 0 (h3) 8) ++ toks 0 (h5) 8) ++ toks 0 (o) 1) ++ (if ((o : Nat) : Int) = (1 : Int) then (ueT 0 (h9 - 1)) else ([] : List Tok))) ++ toks 0 (0) 1) ++ (if ¬ h11 = (0 : Int) then (toks 0 (0) 1) else ([] : List Tok))) ++ ueT 0 (sei (h12 - z))) ++ ueT 0 (h13)) (n + 649) (L ++ L95) y92.2 := by
    have z := hy92
    rw [eL95]
    simp only [List.append_assoc, List.nil_append] at z ⊢
    exact z
  refine ok_chk (by rw [wu_len hL95.1 (b := 216) (by decide) rfl]; decide) ?_
  refine ok_ltt (fun x98 ex98 => ?_)
  have vx98 : x98.toInt = ((h13 : Nat) : Int) := by rw [ex98]; exact (congrArg Int32.toInt (wu_rd hL95.1 (by decide) rfl 13)).trans g216_13
  refine ok_bnd (Q := fun y99 => WV G M u fr st B c0 ((((((((((((D ++ ueT 0 (h0)) ++ ueT 0 (0)) ++ ueT 0 (0)) ++ toks 0 (h3) 8) ++ toks 0 (h5) 8) ++ toks 0 (o) 1) ++ (if ((o : Nat) : Int) = (1 : Int) then (ueT 0 (h9 - 1)) else ([] : List Tok))) ++ toks 0 (0) 1) ++ (if ¬ h11 = (0 : Int) then (toks 0 (0) 1) else ([] : List Tok))) ++ ueT 0 (sei (h12 - z))) ++ ueT 0 (h13)) ++ (if ¬ ((h13 : Nat) : Int) = (1 : Int) then (ueT 0 (sei (h14)) ++ (ueT 0 (sei (h15)))) else ([] : List Tok))) (n + 767) ((L ++ L95) ++ y99.1) y99.2) (ok_if ?_ ?_) ?_
  · intro hc
    have hq : (((h13 : Nat) : Int) = (1 : Int)) := by
      exact (show _ = ((h13 : Nat) : Int) from vx98).symm.trans ((congrArg Int32.toInt hc).trans (show _ = (1 : Int) from rfl))
    have hqq : ¬ (¬ ((h13 : Nat) : Int) = (1 : Int)) := by first | exact hq | (intro q; exact q hq) | omega
    refine ok_some (wv_le (n := n + 649) ?_ (by omega))
    rw [show (if ¬ ((h13 : Nat) : Int) = (1 : Int) then (ueT 0 (sei (h14)) ++ (ueT 0 (sei (h15)))) else ([] : List Tok)) = ([] : List Tok) from if_neg hqq]
    have z := hL95
    simp only [List.append_assoc, List.nil_append, List.append_nil] at z ⊢
    exact z
  · intro hc
    have hq : ¬ (((h13 : Nat) : Int) = (1 : Int)) := by
      exact fun q => hc (Int32.toInt_inj.1 (Eq.trans vx98 (Eq.trans q (Eq.symm rfl))))
    have hqq : (¬ ((h13 : Nat) : Int) = (1 : Int)) := by first | exact hq | (intro q; exact q hq) | omega
    refine ok_chk (by rw [wu_len hL95.1 (b := 216) (by decide) rfl]; decide) ?_
    refine ok_ltt (fun x120 ex120 => ?_)
    have vx120 : x120.toInt = h14 := by rw [ex120]; exact (congrArg Int32.toInt (wu_rd hL95.1 (by decide) rfl 14)).trans g216_14
    refine ok_drW (b := 119) hL95.1 (by decide) rfl rfl (by decide) rfl ?_
    refine ok_chk (by rw [wu_ref h.1 (a := 215) (f := 0) (b := 216) (by decide) rfl rfl (by decide)]; exact okd_sm (wu_lt h.1 (by decide) _)) ?_
    refine ok_bnd (wv_se (v := h14) hL95 rfl vx120 (by omega) (by omega) (by omega)) ?_
    intro y122 hy122
    have hy122 : WV G M u fr st B c0 ((((((((((((D ++ ueT 0 (h0)) ++ ueT 0 (0)) ++ ueT 0 (0)) ++ toks 0 (h3) 8) ++ toks 0 (h5) 8) ++ toks 0 (o) 1) ++ (if ((o : Nat) : Int) = (1 : Int) then (ueT 0 (h9 - 1)) else ([] : List Tok))) ++ toks 0 (0) 1) ++ (if ¬ h11 = (0 : Int) then (toks 0 (0) 1) else ([] : List Tok))) ++ ueT 0 (sei (h12 - z))) ++ ueT 0 (h13)) ++ ueT 0 (sei (h14))) (n + 708) ((L ++ L95) ++ y122.1) y122.2 := hy122
    refine ok_app (ok_ltt (fun L125 eL125 => ?_))
    have hL125 : WV G M u fr st B c0 ((((((((((((D ++ ueT 0 (h0)) ++ ueT 0 (0)) ++ ueT 0 (0)) ++ toks 0 (h3) 8) ++ toks 0 (h5) 8) ++ toks 0 (o) 1) ++ (if ((o : Nat) : Int) = (1 : Int) then (ueT 0 (h9 - 1)) else ([] : List Tok))) ++ toks 0 (0) 1) ++ (if ¬ h11 = (0 : Int) then (toks 0 (0) 1) else ([] : List Tok))) ++ ueT 0 (sei (h12 - z))) ++ ueT 0 (h13)) ++ ueT 0 (sei (h14))) (n + 708) (L ++ L125) y122.2 := by
      have z := hy122
      rw [eL125]
      simp only [List.append_assoc, List.nil_append] at z ⊢
      exact z
    refine ok_chk (by rw [wu_len hL125.1 (b := 216) (by decide) rfl]; decide) ?_
    refine ok_ltt (fun x128 ex128 => ?_)
    have vx128 : x128.toInt = h15 := by rw [ex128]; exact (congrArg Int32.toInt (wu_rd hL125.1 (by decide) rfl 15)).trans g216_15
    refine ok_drW (b := 119) hL125.1 (by decide) rfl rfl (by decide) rfl ?_
    refine ok_bnd (wv_se (v := h15) hL125 rfl vx128 (by omega) (by omega) (by omega)) ?_
    intro y130 hy130
    have hy130 : WV G M u fr st B c0 (((((((((((((D ++ ueT 0 (h0)) ++ ueT 0 (0)) ++ ueT 0 (0)) ++ toks 0 (h3) 8) ++ toks 0 (h5) 8) ++ toks 0 (o) 1) ++ (if ((o : Nat) : Int) = (1 : Int) then (ueT 0 (h9 - 1)) else ([] : List Tok))) ++ toks 0 (0) 1) ++ (if ¬ h11 = (0 : Int) then (toks 0 (0) 1) else ([] : List Tok))) ++ ueT 0 (sei (h12 - z))) ++ ueT 0 (h13)) ++ ueT 0 (sei (h14))) ++ ueT 0 (sei (h15))) (n + 767) ((L ++ L125) ++ y130.1) y130.2 := hy130
    refine ok_app (ok_ltt (fun L132 eL132 => ?_))
    have hL132 : WV G M u fr st B c0 (((((((((((((D ++ ueT 0 (h0)) ++ ueT 0 (0)) ++ ueT 0 (0)) ++ toks 0 (h3) 8) ++ toks 0 (h5) 8) ++ toks 0 (o) 1) ++ (if ((o : Nat) : Int) = (1 : Int) then (ueT 0 (h9 - 1)) else ([] : List Tok))) ++ toks 0 (0) 1) ++ (if ¬ h11 = (0 : Int) then (toks 0 (0) 1) else ([] : List Tok))) ++ ueT 0 (sei (h12 - z))) ++ ueT 0 (h13)) ++ ueT 0 (sei (h14))) ++ ueT 0 (sei (h15))) (n + 767) (L ++ L132) y130.2 := by
      have z := hy130
      rw [eL132]
      simp only [List.append_assoc, List.nil_append] at z ⊢
      exact z
    refine ok_some (wv_le (n := n + 767) ?_ (by omega))
    rw [show (if ¬ ((h13 : Nat) : Int) = (1 : Int) then (ueT 0 (sei (h14)) ++ (ueT 0 (sei (h15)))) else ([] : List Tok)) = (ueT 0 (sei (h14)) ++ (ueT 0 (sei (h15)))) from if_pos hqq]
    have z := hL132
    simp only [eL125, eL132, List.append_assoc, List.nil_append, List.append_nil] at z ⊢
    exact z
  intro y99 hy99
  refine ok_app (ok_ltt (fun L101 eL101 => ?_))
  have hL101 : WV G M u fr st B c0 ((((((((((((D ++ ueT 0 (h0)) ++ ueT 0 (0)) ++ ueT 0 (0)) ++ toks 0 (h3) 8) ++ toks 0 (h5) 8) ++ toks 0 (o) 1) ++ (if ((o : Nat) : Int) = (1 : Int) then (ueT 0 (h9 - 1)) else ([] : List Tok))) ++ toks 0 (0) 1) ++ (if ¬ h11 = (0 : Int) then (toks 0 (0) 1) else ([] : List Tok))) ++ ueT 0 (sei (h12 - z))) ++ ueT 0 (h13)) ++ (if ¬ ((h13 : Nat) : Int) = (1 : Int) then (ueT 0 (sei (h14)) ++ (ueT 0 (sei (h15)))) else ([] : List Tok))) (n + 767) (L ++ L101) y99.2 := by
    have z := hy99
    rw [eL101]
    simp only [List.append_assoc, List.nil_append] at z ⊢
    exact z
  refine ok_drW (b := 125) hL101.1 (by decide) rfl rfl (by decide) rfl ?_
  refine ok_drW (b := 220) hL101.1 (by decide) rfl rfl (by decide) rfl ?_
  refine ok_chk (by rw [wu_len hL101.1 (b := 220) (by decide) rfl]; decide) ?_
  refine ok_ltt (fun x105 ex105 => ?_)
  have vx105 : x105.toInt = (0 : Int) := by rw [ex105]; exact (congrArg Int32.toInt (wu_rd hL101.1 (by decide) rfl 1)).trans g220_1
  rw [if_neg (show ¬ (x105 = (1 : Int32)) from fun qq => absurd (pz_eq.mp qq) (by rw [(show (x105).toInt = (0 : Int) from vx105), (show ((1 : Int32)).toInt = (1 : Int) from rfl)] <;> first | decide | omega))]
  refine ok_bnd (Q := fun y106 => WV G M u fr st B c0 ((((((((((((D ++ ueT 0 (h0)) ++ ueT 0 (0)) ++ ueT 0 (0)) ++ toks 0 (h3) 8) ++ toks 0 (h5) 8) ++ toks 0 (o) 1) ++ (if ((o : Nat) : Int) = (1 : Int) then (ueT 0 (h9 - 1)) else ([] : List Tok))) ++ toks 0 (0) 1) ++ (if ¬ h11 = (0 : Int) then (toks 0 (0) 1) else ([] : List Tok))) ++ ueT 0 (sei (h12 - z))) ++ ueT 0 (h13)) ++ (if ¬ ((h13 : Nat) : Int) = (1 : Int) then (ueT 0 (sei (h14)) ++ (ueT 0 (sei (h15)))) else ([] : List Tok))) (n + 767) ((L ++ L101) ++ y106.1) y106.2) ?_ ?_
  · skip
    refine ok_some ?_
    have z := hL101
    simp only [List.append_assoc, List.nil_append, List.append_nil] at z ⊢
    exact z
  intro y106 hy106
  refine ok_app (ok_ltt (fun L108 eL108 => ?_))
  have hL108 : WV G M u fr st B c0 ((((((((((((D ++ ueT 0 (h0)) ++ ueT 0 (0)) ++ ueT 0 (0)) ++ toks 0 (h3) 8) ++ toks 0 (h5) 8) ++ toks 0 (o) 1) ++ (if ((o : Nat) : Int) = (1 : Int) then (ueT 0 (h9 - 1)) else ([] : List Tok))) ++ toks 0 (0) 1) ++ (if ¬ h11 = (0 : Int) then (toks 0 (0) 1) else ([] : List Tok))) ++ ueT 0 (sei (h12 - z))) ++ ueT 0 (h13)) ++ (if ¬ ((h13 : Nat) : Int) = (1 : Int) then (ueT 0 (sei (h14)) ++ (ueT 0 (sei (h15)))) else ([] : List Tok))) (n + 767) (L ++ L108) y106.2 := by
    have z := hy106
    rw [eL108]
    simp only [List.append_assoc, List.nil_append] at z ⊢
    exact z
  refine ok_some ?_
  have z := hL108
  simp only [eL10, eL18, eL25, eL34, eL42, eL48, eL53, eL58, eL63, eL70, eL77, eL87, eL95, eL101, eL108, List.append_assoc, List.nil_append, List.append_nil] at z ⊢
  exact z
theorem w_head01 {G : GG} {M N : DD} {u fr c0 n : Nat} {st : Nat → Nat} {B : List Nat} {D : List Tok} {L : NN} {h0 h3 h4 h5 h13 o h9 r : Nat} {h11 h12 z h14 h15 : Int} (g118_3 : (M.1 118 3).toInt = z) (g118_7 : (M.1 118 7).toInt = ((r : Nat) : Int)) (g118_18 : (M.1 118 18).toInt = (0 : Int)) (g118_20 : (M.1 118 20).toInt = (0 : Int)) (g216_0 : (M.1 216 0).toInt = ((h0 : Nat) : Int)) (g216_1 : (M.1 216 1).toInt = (0 : Int)) (g216_3 : (M.1 216 3).toInt = ((h3 : Nat) : Int)) (g216_5 : (M.1 216 5).toInt = ((h5 : Nat) : Int)) (g216_9 : (M.1 216 9).toInt = ((h9 : Nat) : Int)) (g216_11 : (M.1 216 11).toInt = h11) (g216_12 : (M.1 216 12).toInt = h12) (g216_13 : (M.1 216 13).toInt = ((h13 : Nat) : Int)) (g216_14 : (M.1 216 14).toInt = h14) (g216_15 : (M.1 216 15).toInt = h15) (g216_18 : (M.1 216 18).toInt = (1 : Int)) (g220_1 : (M.1 220 1).toInt = (1 : Int)) (b0 : h0 < 100000) (b4 : h4 < 100000) (b12 : 0 ≤ h12 ∧ h12 ≤ 100) (bz : -100 ≤ z ∧ z ≤ 100) (b13 : h13 ≤ 2) (b14 : -6 ≤ h14 ∧ h14 ≤ 6) (b15 : -6 ≤ h15 ∧ h15 ≤ 6) (ho : (o = 0 ∧ ((h9 : Nat) : Int) = ((r : Nat) : Int)) ∨ (o = 1 ∧ ¬ ((h9 : Nat) : Int) = ((r : Nat) : Int))) (b9 : 1 ≤ h9 ∧ h9 ≤ 8) (hn : n ≤ 100000) (h : WV G M u fr st B c0 D n L N) : OK (FX0_writeHeader (xt G L) N 116) (fun y => WU G M u fr st B c0 ((((((((((((((D ++ ueT 0 (h0)) ++ ueT 0 (0)) ++ ueT 0 (0)) ++ toks 0 (h3) 8) ++ toks 0 (h5) 8) ++ toks 0 (o) 1) ++ (if ((o : Nat) : Int) = (1 : Int) then (ueT 0 (h9 - 1)) else ([] : List Tok))) ++ toks 0 (0) 1) ++ (if ¬ h11 = (0 : Int) then (toks 0 (0) 1) else ([] : List Tok))) ++ ueT 0 (0)) ++ ueT 0 (sei (h12 - z))) ++ ueT 0 (h13)) ++ (if ¬ ((h13 : Nat) : Int) = (1 : Int) then (ueT 0 (sei (h14)) ++ (ueT 0 (sei (h15)))) else ([] : List Tok))) ++ dataT (((((((((((((D ++ ueT 0 (h0)) ++ ueT 0 (0)) ++ ueT 0 (0)) ++ toks 0 (h3) 8) ++ toks 0 (h5) 8) ++ toks 0 (o) 1) ++ (if ((o : Nat) : Int) = (1 : Int) then (ueT 0 (h9 - 1)) else ([] : List Tok))) ++ toks 0 (0) 1) ++ (if ¬ h11 = (0 : Int) then (toks 0 (0) 1) else ([] : List Tok))) ++ ueT 0 (0)) ++ ueT 0 (sei (h12 - z))) ++ ueT 0 (h13)) ++ (if ¬ ((h13 : Nat) : Int) = (1 : Int) then (ueT 0 (sei (h14)) ++ (ueT 0 (sei (h15)))) else ([] : List Tok))).length) (L ++ y.1) y.2) := by
  unfold FX0_writeHeader
  simp only [xt_xt, List.append_nil]
  refine ok_drW (b := 125) h.1 (by decide) rfl rfl (by decide) rfl ?_
  refine ok_drW (b := 215) h.1 (by decide) rfl rfl (by decide) rfl ?_
  refine ok_drW (b := 216) h.1 (by decide) rfl rfl (by decide) rfl ?_
  refine ok_chk (by rw [wu_len h.1 (b := 216) (by decide) rfl]; decide) ?_
  refine ok_ltt (fun x5 ex5 => ?_)
  have vx5 : x5.toInt = ((h0 : Nat) : Int) := by rw [ex5]; exact (congrArg Int32.toInt (wu_rd h.1 (by decide) rfl 0)).trans g216_0
  refine ok_drW (b := 119) h.1 (by decide) rfl rfl (by decide) rfl ?_
  refine ok_chk (by rw [wu_ref h.1 (a := 215) (f := 0) (b := 216) (by decide) rfl rfl (by decide)]; exact okd_sm (wu_lt h.1 (by decide) _)) ?_
  refine ok_bnd (wv_ue (v := h0) h rfl vx5 (by omega) (by omega)) ?_
  intro y7 hy7
  have hy7 : WV G M u fr st B c0 (D ++ ueT 0 (h0)) (n + 59) ((L) ++ y7.1) y7.2 := hy7
  refine ok_app (ok_ltt (fun L10 eL10 => ?_))
  have hL10 : WV G M u fr st B c0 (D ++ ueT 0 (h0)) (n + 59) (L ++ L10) y7.2 := by
    have z := hy7
    rw [eL10]
    simp only [List.append_assoc, List.nil_append] at z ⊢
    exact z
  refine ok_chk (by rw [wu_len hL10.1 (b := 216) (by decide) rfl]; decide) ?_
  refine ok_ltt (fun x13 ex13 => ?_)
  have vx13 : x13.toInt = (0 : Int) := by rw [ex13]; exact (congrArg Int32.toInt (wu_rd hL10.1 (by decide) rfl 1)).trans g216_1
  refine ok_drW (b := 119) hL10.1 (by decide) rfl rfl (by decide) rfl ?_
  refine ok_chk (by rw [wu_ref h.1 (a := 215) (f := 0) (b := 216) (by decide) rfl rfl (by decide)]; exact okd_sm (wu_lt h.1 (by decide) _)) ?_
  refine ok_bnd (wv_ue (v := 0) hL10 rfl vx13 (by omega) (by omega)) ?_
  intro y15 hy15
  have hy15 : WV G M u fr st B c0 ((D ++ ueT 0 (h0)) ++ ueT 0 (0)) (n + 118) ((L ++ L10) ++ y15.1) y15.2 := hy15
  refine ok_app (ok_ltt (fun L18 eL18 => ?_))
  have hL18 : WV G M u fr st B c0 ((D ++ ueT 0 (h0)) ++ ueT 0 (0)) (n + 118) (L ++ L18) y15.2 := by
    have z := hy15
    rw [eL18]
    simp only [List.append_assoc, List.nil_append] at z ⊢
    exact z
  refine ok_drW (b := 119) hL18.1 (by decide) rfl rfl (by decide) rfl ?_
  refine ok_chk (by rw [wu_ref h.1 (a := 215) (f := 0) (b := 216) (by decide) rfl rfl (by decide)]; exact okd_sm (wu_lt h.1 (by decide) _)) ?_
  refine ok_bnd (wv_ue (v := 0) hL18 rfl rfl (by omega) (by omega)) ?_
  intro y22 hy22
  have hy22 : WV G M u fr st B c0 (((D ++ ueT 0 (h0)) ++ ueT 0 (0)) ++ ueT 0 (0)) (n + 177) ((L ++ L18) ++ y22.1) y22.2 := hy22
  refine ok_app (ok_ltt (fun L25 eL25 => ?_))
  have hL25 : WV G M u fr st B c0 (((D ++ ueT 0 (h0)) ++ ueT 0 (0)) ++ ueT 0 (0)) (n + 177) (L ++ L25) y22.2 := by
    have z := hy22
    rw [eL25]
    simp only [List.append_assoc, List.nil_append] at z ⊢
    exact z
  refine ok_chk (by rw [wu_len hL25.1 (b := 216) (by decide) rfl]; decide) ?_
  refine ok_ltt (fun x28 ex28 => ?_)
  have vx28 : x28.toInt = ((h3 : Nat) : Int) := by rw [ex28]; exact (congrArg Int32.toInt (wu_rd hL25.1 (by decide) rfl 3)).trans g216_3
  refine ok_ltt (fun x29 ex29 => ?_)
  have vx29 : x29.toInt = ((h3 : Nat) : Int) := by rw [ex29, Int32.toInt_toInt64]; exact vx28
  refine ok_drW (b := 119) hL25.1 (by decide) rfl rfl (by decide) rfl ?_
  refine ok_chk (by rw [wu_ref h.1 (a := 215) (f := 0) (b := 216) (by decide) rfl rfl (by decide)]; exact okd_sm (wu_lt h.1 (by decide) _)) ?_
  refine ok_bnd (wv_code (V := h3) (m := 8) hL25 rfl vx29 rfl (by decide) (by omega)) ?_
  intro y31 hy31
  have hy31 : WV G M u fr st B c0 ((((D ++ ueT 0 (h0)) ++ ueT 0 (0)) ++ ueT 0 (0)) ++ toks 0 (h3) 8) (n + 236) ((L ++ L25) ++ y31.1) y31.2 := hy31
  refine ok_app (ok_ltt (fun L34 eL34 => ?_))
  have hL34 : WV G M u fr st B c0 ((((D ++ ueT 0 (h0)) ++ ueT 0 (0)) ++ ueT 0 (0)) ++ toks 0 (h3) 8) (n + 236) (L ++ L34) y31.2 := by
    have z := hy31
    rw [eL34]
    simp only [List.append_assoc, List.nil_append] at z ⊢
    exact z
  refine ok_drW (b := 125) hL34.1 (by decide) rfl rfl (by decide) rfl ?_
  refine ok_drW (b := 215) hL34.1 (by decide) rfl rfl (by decide) rfl ?_
  refine ok_bnd (wv_isOwn hL34 g216_18 (r := 0) rfl) ?_
  rintro y39 ⟨ey39, vy39⟩
  have hy39 : WV G M u fr st B c0 ((((D ++ ueT 0 (h0)) ++ ueT 0 (0)) ++ ueT 0 (0)) ++ toks 0 (h3) 8) (n + 236) (L ++ L34) y39.1 := by rw [ey39]; exact hL34
  rw [if_pos (show y39.2 = (0 : Int32) from pz_eq.mpr (by rw [(show (y39.2).toInt = (0 : Int) from vy39), (show ((0 : Int32)).toInt = (0 : Int) from rfl)] <;> first | decide | omega))]
  refine ok_bnd (Q := fun y40 => WV G M u fr st B c0 ((((D ++ ueT 0 (h0)) ++ ueT 0 (0)) ++ ueT 0 (0)) ++ toks 0 (h3) 8) (n + 236) ((L ++ L34) ++ y40.1) y40.2) ?_ ?_
  · skip
    refine ok_some ?_
    have z := hy39
    simp only [List.append_assoc, List.nil_append, List.append_nil] at z ⊢
    exact z
  intro y40 hy40
  refine ok_app (ok_ltt (fun L42 eL42 => ?_))
  have hL42 : WV G M u fr st B c0 ((((D ++ ueT 0 (h0)) ++ ueT 0 (0)) ++ ueT 0 (0)) ++ toks 0 (h3) 8) (n + 236) (L ++ L42) y40.2 := by
    have z := hy40
    rw [eL42]
    simp only [List.append_assoc, List.nil_append] at z ⊢
    exact z
  refine ok_drW (b := 118) hL42.1 (by decide) rfl rfl (by decide) rfl ?_
  refine ok_chk (by rw [wu_len hL42.1 (b := 118) (by decide) rfl]; decide) ?_
  refine ok_ltt (fun x45 ex45 => ?_)
  have vx45 : x45.toInt = (0 : Int) := by rw [ex45]; exact (congrArg Int32.toInt (wu_rd hL42.1 (by decide) rfl 18)).trans g118_18
  rw [if_pos (show x45 = (0 : Int32) from pz_eq.mpr (by rw [(show (x45).toInt = (0 : Int) from vx45), (show ((0 : Int32)).toInt = (0 : Int) from rfl)] <;> first | decide | omega))]
  refine ok_bnd (Q := fun y46 => WV G M u fr st B c0 (((((D ++ ueT 0 (h0)) ++ ueT 0 (0)) ++ ueT 0 (0)) ++ toks 0 (h3) 8) ++ toks 0 (h5) 8) (n + 295) ((L ++ L42) ++ y46.1) y46.2) ?_ ?_
  · skip
    refine ok_chk (by rw [wu_len hL42.1 (b := 216) (by decide) rfl]; decide) ?_
    refine ok_ltt (fun x193 ex193 => ?_)
    have vx193 : x193.toInt = ((h5 : Nat) : Int) := by rw [ex193]; exact (congrArg Int32.toInt (wu_rd hL42.1 (by decide) rfl 5)).trans g216_5
    refine ok_ltt (fun x194 ex194 => ?_)
    have vx194 : x194.toInt = ((h5 : Nat) : Int) := by rw [ex194, Int32.toInt_toInt64]; exact vx193
    refine ok_drW (b := 119) hL42.1 (by decide) rfl rfl (by decide) rfl ?_
    refine ok_chk (by rw [wu_ref h.1 (a := 215) (f := 0) (b := 216) (by decide) rfl rfl (by decide)]; exact okd_sm (wu_lt h.1 (by decide) _)) ?_
    refine ok_bnd (wv_code (V := h5) (m := 8) hL42 rfl vx194 rfl (by decide) (by omega)) ?_
    intro y196 hy196
    have hy196 : WV G M u fr st B c0 (((((D ++ ueT 0 (h0)) ++ ueT 0 (0)) ++ ueT 0 (0)) ++ toks 0 (h3) 8) ++ toks 0 (h5) 8) (n + 295) ((L ++ L42) ++ y196.1) y196.2 := hy196
    refine ok_app (ok_ltt (fun L199 eL199 => ?_))
    have hL199 : WV G M u fr st B c0 (((((D ++ ueT 0 (h0)) ++ ueT 0 (0)) ++ ueT 0 (0)) ++ toks 0 (h3) 8) ++ toks 0 (h5) 8) (n + 295) (L ++ L199) y196.2 := by
      have z := hy196
      rw [eL199]
      simp only [List.append_assoc, List.nil_append] at z ⊢
      exact z
    refine ok_some ?_
    have z := hL199
    simp only [eL199, List.append_assoc, List.nil_append, List.append_nil] at z ⊢
    exact z
  intro y46 hy46
  refine ok_app (ok_ltt (fun L48 eL48 => ?_))
  have hL48 : WV G M u fr st B c0 (((((D ++ ueT 0 (h0)) ++ ueT 0 (0)) ++ ueT 0 (0)) ++ toks 0 (h3) 8) ++ toks 0 (h5) 8) (n + 295) (L ++ L48) y46.2 := by
    have z := hy46
    rw [eL48]
    simp only [List.append_assoc, List.nil_append] at z ⊢
    exact z
  refine ok_chk (by rw [wu_len hL48.1 (b := 216) (by decide) rfl]; decide) ?_
  refine ok_ltt (fun x50 ex50 => ?_)
  have vx50 : x50.toInt = (0 : Int) := by rw [ex50]; exact (congrArg Int32.toInt (wu_rd hL48.1 (by decide) rfl 1)).trans g216_1
  rw [if_neg (show ¬ (x50 = (2 : Int32)) from fun qq => absurd (pz_eq.mp qq) (by rw [(show (x50).toInt = (0 : Int) from vx50), (show ((2 : Int32)).toInt = (2 : Int) from rfl)] <;> first | decide | omega))]
  refine ok_bnd (Q := fun y51 => WV G M u fr st B c0 ((((((((D ++ ueT 0 (h0)) ++ ueT 0 (0)) ++ ueT 0 (0)) ++ toks 0 (h3) 8) ++ toks 0 (h5) 8) ++ toks 0 (o) 1) ++ (if ((o : Nat) : Int) = (1 : Int) then (ueT 0 (h9 - 1)) else ([] : List Tok))) ++ toks 0 (0) 1) (n + 472) ((L ++ L48) ++ y51.1) y51.2) ?_ ?_
  · skip
    refine ok_chk (by rw [wu_ref h.1 (a := 215) (f := 0) (b := 216) (by decide) rfl rfl (by decide)]; exact okd_sm (wu_lt h.1 (by decide) _)) ?_
    refine ok_bnd (w_lists0 (D := (((((D ++ ueT 0 (h0)) ++ ueT 0 (0)) ++ ueT 0 (0)) ++ toks 0 (h3) 8) ++ toks 0 (h5) 8)) (n := n + 295) g118_7 g216_1 g216_9 ho b9 (by omega) hL48) ?_
    intro y185 hy185
    have hy185 : WV G M u fr st B c0 ((((((((D ++ ueT 0 (h0)) ++ ueT 0 (0)) ++ ueT 0 (0)) ++ toks 0 (h3) 8) ++ toks 0 (h5) 8) ++ toks 0 (o) 1) ++ (if ((o : Nat) : Int) = (1 : Int) then (ueT 0 (h9 - 1)) else ([] : List Tok))) ++ toks 0 (0) 1) (n + 472) ((L ++ L48) ++ y185.1) y185.2 := wv_le hy185 (by omega)
    refine ok_app (ok_ltt (fun L188 eL188 => ?_))
    have hL188 : WV G M u fr st B c0 ((((((((D ++ ueT 0 (h0)) ++ ueT 0 (0)) ++ ueT 0 (0)) ++ toks 0 (h3) 8) ++ toks 0 (h5) 8) ++ toks 0 (o) 1) ++ (if ((o : Nat) : Int) = (1 : Int) then (ueT 0 (h9 - 1)) else ([] : List Tok))) ++ toks 0 (0) 1) (n + 472) (L ++ L188) y185.2 := by
      have z := hy185
      rw [eL188]
      simp only [List.append_assoc, List.nil_append] at z ⊢
      exact z
    refine ok_some ?_
    have z := hL188
    simp only [eL188, List.append_assoc, List.nil_append, List.append_nil] at z ⊢
    exact z
  intro y51 hy51
  refine ok_app (ok_ltt (fun L53 eL53 => ?_))
  have hL53 : WV G M u fr st B c0 ((((((((D ++ ueT 0 (h0)) ++ ueT 0 (0)) ++ ueT 0 (0)) ++ toks 0 (h3) 8) ++ toks 0 (h5) 8) ++ toks 0 (o) 1) ++ (if ((o : Nat) : Int) = (1 : Int) then (ueT 0 (h9 - 1)) else ([] : List Tok))) ++ toks 0 (0) 1) (n + 472) (L ++ L53) y51.2 := by
    have z := hy51
    rw [eL53]
    simp only [List.append_assoc, List.nil_append] at z ⊢
    exact z
  refine ok_chk (by rw [wu_len hL53.1 (b := 216) (by decide) rfl]; decide) ?_
  refine ok_ltt (fun x55 ex55 => ?_)
  have vx55 : x55.toInt = (0 : Int) := by rw [ex55]; exact (congrArg Int32.toInt (wu_rd hL53.1 (by decide) rfl 1)).trans g216_1
  rw [if_pos (show x55 = (0 : Int32) from pz_eq.mpr (by rw [(show (x55).toInt = (0 : Int) from vx55), (show ((0 : Int32)).toInt = (0 : Int) from rfl)] <;> first | decide | omega))]
  refine ok_bnd (Q := fun y56 => WV G M u fr st B c0 ((((((((D ++ ueT 0 (h0)) ++ ueT 0 (0)) ++ ueT 0 (0)) ++ toks 0 (h3) 8) ++ toks 0 (h5) 8) ++ toks 0 (o) 1) ++ (if ((o : Nat) : Int) = (1 : Int) then (ueT 0 (h9 - 1)) else ([] : List Tok))) ++ toks 0 (0) 1) (n + 472) ((L ++ L53) ++ y56.1) y56.2) ?_ ?_
  · skip
    refine ok_drW (b := 118) hL53.1 (by decide) rfl rfl (by decide) rfl ?_
    refine ok_chk (by rw [wu_len hL53.1 (b := 118) (by decide) rfl]; decide) ?_
    refine ok_ltt (fun x170 ex170 => ?_)
    have vx170 : x170.toInt = (0 : Int) := by rw [ex170]; exact (congrArg Int32.toInt (wu_rd hL53.1 (by decide) rfl 20)).trans g118_20
    rw [if_neg (show ¬ (x170 = (1 : Int32)) from fun qq => absurd (pz_eq.mp qq) (by rw [(show (x170).toInt = (0 : Int) from vx170), (show ((1 : Int32)).toInt = (1 : Int) from rfl)] <;> first | decide | omega))]
    refine ok_bnd (Q := fun y171 => WV G M u fr st B c0 ((((((((D ++ ueT 0 (h0)) ++ ueT 0 (0)) ++ ueT 0 (0)) ++ toks 0 (h3) 8) ++ toks 0 (h5) 8) ++ toks 0 (o) 1) ++ (if ((o : Nat) : Int) = (1 : Int) then (ueT 0 (h9 - 1)) else ([] : List Tok))) ++ toks 0 (0) 1) (n + 472) ((L ++ L53) ++ y171.1) y171.2) ?_ ?_
    · skip
      refine ok_some ?_
      have z := hL53
      simp only [List.append_assoc, List.nil_append, List.append_nil] at z ⊢
      exact z
    intro y171 hy171
    refine ok_app (ok_ltt (fun L173 eL173 => ?_))
    have hL173 : WV G M u fr st B c0 ((((((((D ++ ueT 0 (h0)) ++ ueT 0 (0)) ++ ueT 0 (0)) ++ toks 0 (h3) 8) ++ toks 0 (h5) 8) ++ toks 0 (o) 1) ++ (if ((o : Nat) : Int) = (1 : Int) then (ueT 0 (h9 - 1)) else ([] : List Tok))) ++ toks 0 (0) 1) (n + 472) (L ++ L173) y171.2 := by
      have z := hy171
      rw [eL173]
      simp only [List.append_assoc, List.nil_append] at z ⊢
      exact z
    refine ok_some ?_
    have z := hL173
    simp only [eL173, List.append_assoc, List.nil_append, List.append_nil] at z ⊢
    exact z
  intro y56 hy56
  refine ok_app (ok_ltt (fun L58 eL58 => ?_))
  have hL58 : WV G M u fr st B c0 ((((((((D ++ ueT 0 (h0)) ++ ueT 0 (0)) ++ ueT 0 (0)) ++ toks 0 (h3) 8) ++ toks 0 (h5) 8) ++ toks 0 (o) 1) ++ (if ((o : Nat) : Int) = (1 : Int) then (ueT 0 (h9 - 1)) else ([] : List Tok))) ++ toks 0 (0) 1) (n + 472) (L ++ L58) y56.2 := by
    have z := hy56
    rw [eL58]
    simp only [List.append_assoc, List.nil_append] at z ⊢
    exact z
  refine ok_chk (by rw [wu_len hL58.1 (b := 216) (by decide) rfl]; decide) ?_
  refine ok_ltt (fun x60 ex60 => ?_)
  have vx60 : x60.toInt = h11 := by rw [ex60]; exact (congrArg Int32.toInt (wu_rd hL58.1 (by decide) rfl 11)).trans g216_11
  refine ok_bnd (Q := fun y61 => WV G M u fr st B c0 (((((((((D ++ ueT 0 (h0)) ++ ueT 0 (0)) ++ ueT 0 (0)) ++ toks 0 (h3) 8) ++ toks 0 (h5) 8) ++ toks 0 (o) 1) ++ (if ((o : Nat) : Int) = (1 : Int) then (ueT 0 (h9 - 1)) else ([] : List Tok))) ++ toks 0 (0) 1) ++ (if ¬ h11 = (0 : Int) then (toks 0 (0) 1) else ([] : List Tok))) (n + 531) ((L ++ L58) ++ y61.1) y61.2) (ok_if ?_ ?_) ?_
  · intro hc
    have hq : (h11 = (0 : Int)) := by
      exact (show _ = h11 from vx60).symm.trans ((congrArg Int32.toInt hc).trans (show _ = (0 : Int) from rfl))
    have hqq : ¬ (¬ h11 = (0 : Int)) := by first | exact hq | (intro q; exact q hq) | omega
    refine ok_some (wv_le (n := n + 472) ?_ (by omega))
    rw [show (if ¬ h11 = (0 : Int) then (toks 0 (0) 1) else ([] : List Tok)) = ([] : List Tok) from if_neg hqq]
    have z := hL58
    simp only [List.append_assoc, List.nil_append, List.append_nil] at z ⊢
    exact z
  · intro hc
    have hq : ¬ (h11 = (0 : Int)) := by
      exact fun q => hc (Int32.toInt_inj.1 (Eq.trans vx60 (Eq.trans q (Eq.symm rfl))))
    have hqq : (¬ h11 = (0 : Int)) := by first | exact hq | (intro q; exact q hq) | omega
    refine ok_chk (by rw [wu_ref h.1 (a := 215) (f := 0) (b := 216) (by decide) rfl rfl (by decide)]; exact okd_sm (wu_lt h.1 (by decide) _)) ?_
    refine ok_bnd (wv_flag (V := 0) hL58 rfl (by omega)) ?_
    intro y161 hy161
    have hy161 : WV G M u fr st B c0 (((((((((D ++ ueT 0 (h0)) ++ ueT 0 (0)) ++ ueT 0 (0)) ++ toks 0 (h3) 8) ++ toks 0 (h5) 8) ++ toks 0 (o) 1) ++ (if ((o : Nat) : Int) = (1 : Int) then (ueT 0 (h9 - 1)) else ([] : List Tok))) ++ toks 0 (0) 1) ++ toks 0 (0) 1) (n + 531) ((L ++ L58) ++ y161.1) y161.2 := hy161
    refine ok_app (ok_ltt (fun L164 eL164 => ?_))
    have hL164 : WV G M u fr st B c0 (((((((((D ++ ueT 0 (h0)) ++ ueT 0 (0)) ++ ueT 0 (0)) ++ toks 0 (h3) 8) ++ toks 0 (h5) 8) ++ toks 0 (o) 1) ++ (if ((o : Nat) : Int) = (1 : Int) then (ueT 0 (h9 - 1)) else ([] : List Tok))) ++ toks 0 (0) 1) ++ toks 0 (0) 1) (n + 531) (L ++ L164) y161.2 := by
      have z := hy161
      rw [eL164]
      simp only [List.append_assoc, List.nil_append] at z ⊢
      exact z
    refine ok_some (wv_le (n := n + 531) ?_ (by omega))
    rw [show (if ¬ h11 = (0 : Int) then (toks 0 (0) 1) else ([] : List Tok)) = (toks 0 (0) 1) from if_pos hqq]
    have z := hL164
    simp only [eL164, List.append_assoc, List.nil_append, List.append_nil] at z ⊢
    exact z
  intro y61 hy61
  refine ok_app (ok_ltt (fun L63 eL63 => ?_))
  have hL63 : WV G M u fr st B c0 (((((((((D ++ ueT 0 (h0)) ++ ueT 0 (0)) ++ ueT 0 (0)) ++ toks 0 (h3) 8) ++ toks 0 (h5) 8) ++ toks 0 (o) 1) ++ (if ((o : Nat) : Int) = (1 : Int) then (ueT 0 (h9 - 1)) else ([] : List Tok))) ++ toks 0 (0) 1) ++ (if ¬ h11 = (0 : Int) then (toks 0 (0) 1) else ([] : List Tok))) (n + 531) (L ++ L63) y61.2 := by
    have z := hy61
    rw [eL63]
    simp only [List.append_assoc, List.nil_append] at z ⊢
    exact z
  refine ok_drW (b := 125) hL63.1 (by decide) rfl rfl (by decide) rfl ?_
  refine ok_drW (b := 215) hL63.1 (by decide) rfl rfl (by decide) rfl ?_
  refine ok_bnd (wv_isOwn hL63 g216_18 (r := 0) rfl) ?_
  rintro y67 ⟨ey67, vy67⟩
  have hy67 : WV G M u fr st B c0 (((((((((D ++ ueT 0 (h0)) ++ ueT 0 (0)) ++ ueT 0 (0)) ++ toks 0 (h3) 8) ++ toks 0 (h5) 8) ++ toks 0 (o) 1) ++ (if ((o : Nat) : Int) = (1 : Int) then (ueT 0 (h9 - 1)) else ([] : List Tok))) ++ toks 0 (0) 1) ++ (if ¬ h11 = (0 : Int) then (toks 0 (0) 1) else ([] : List Tok))) (n + 531) (L ++ L63) y67.1 := by rw [ey67]; exact hL63
  rw [if_pos (show y67.2 = (0 : Int32) from pz_eq.mpr (by rw [(show (y67.2).toInt = (0 : Int) from vy67), (show ((0 : Int32)).toInt = (0 : Int) from rfl)] <;> first | decide | omega))]
  refine ok_bnd (Q := fun y68 => WV G M u fr st B c0 (((((((((D ++ ueT 0 (h0)) ++ ueT 0 (0)) ++ ueT 0 (0)) ++ toks 0 (h3) 8) ++ toks 0 (h5) 8) ++ toks 0 (o) 1) ++ (if ((o : Nat) : Int) = (1 : Int) then (ueT 0 (h9 - 1)) else ([] : List Tok))) ++ toks 0 (0) 1) ++ (if ¬ h11 = (0 : Int) then (toks 0 (0) 1) else ([] : List Tok))) (n + 531) ((L ++ L63) ++ y68.1) y68.2) ?_ ?_
  · skip
    refine ok_some ?_
    have z := hy67
    simp only [List.append_assoc, List.nil_append, List.append_nil] at z ⊢
    exact z
  intro y68 hy68
  refine ok_app (ok_ltt (fun L70 eL70 => ?_))
  have hL70 : WV G M u fr st B c0 (((((((((D ++ ueT 0 (h0)) ++ ueT 0 (0)) ++ ueT 0 (0)) ++ toks 0 (h3) 8) ++ toks 0 (h5) 8) ++ toks 0 (o) 1) ++ (if ((o : Nat) : Int) = (1 : Int) then (ueT 0 (h9 - 1)) else ([] : List Tok))) ++ toks 0 (0) 1) ++ (if ¬ h11 = (0 : Int) then (toks 0 (0) 1) else ([] : List Tok))) (n + 531) (L ++ L70) y68.2 := by
    have z := hy68
    rw [eL70]
    simp only [List.append_assoc, List.nil_append] at z ⊢
    exact z
  refine ok_drW (b := 125) hL70.1 (by decide) rfl rfl (by decide) rfl ?_
  refine ok_drW (b := 220) hL70.1 (by decide) rfl rfl (by decide) rfl ?_
  refine ok_chk (by rw [wu_len hL70.1 (b := 220) (by decide) rfl]; decide) ?_
  refine ok_ltt (fun x74 ex74 => ?_)
  have vx74 : x74.toInt = (1 : Int) := by rw [ex74]; exact (congrArg Int32.toInt (wu_rd hL70.1 (by decide) rfl 1)).trans g220_1
  rw [if_pos (show x74 = (1 : Int32) from pz_eq.mpr (by rw [(show (x74).toInt = (1 : Int) from vx74), (show ((1 : Int32)).toInt = (1 : Int) from rfl)] <;> first | decide | omega))]
  refine ok_bnd (Q := fun y75 => WV G M u fr st B c0 ((((((((((D ++ ueT 0 (h0)) ++ ueT 0 (0)) ++ ueT 0 (0)) ++ toks 0 (h3) 8) ++ toks 0 (h5) 8) ++ toks 0 (o) 1) ++ (if ((o : Nat) : Int) = (1 : Int) then (ueT 0 (h9 - 1)) else ([] : List Tok))) ++ toks 0 (0) 1) ++ (if ¬ h11 = (0 : Int) then (toks 0 (0) 1) else ([] : List Tok))) ++ ueT 0 (0)) (n + 590) ((L ++ L70) ++ y75.1) y75.2) ?_ ?_
  · skip
    refine ok_chk (by rw [wu_len hL70.1 (b := 216) (by decide) rfl]; decide) ?_
    refine ok_ltt (fun x137 ex137 => ?_)
    have vx137 : x137.toInt = (0 : Int) := by rw [ex137]; exact (congrArg Int32.toInt (wu_rd hL70.1 (by decide) rfl 1)).trans g216_1
    rw [if_neg (show ¬ (x137 = (2 : Int32)) from fun qq => absurd (pz_eq.mp qq) (by rw [(show (x137).toInt = (0 : Int) from vx137), (show ((2 : Int32)).toInt = (2 : Int) from rfl)] <;> first | decide | omega))]
    refine ok_bnd (Q := fun y138 => WV G M u fr st B c0 ((((((((((D ++ ueT 0 (h0)) ++ ueT 0 (0)) ++ ueT 0 (0)) ++ toks 0 (h3) 8) ++ toks 0 (h5) 8) ++ toks 0 (o) 1) ++ (if ((o : Nat) : Int) = (1 : Int) then (ueT 0 (h9 - 1)) else ([] : List Tok))) ++ toks 0 (0) 1) ++ (if ¬ h11 = (0 : Int) then (toks 0 (0) 1) else ([] : List Tok))) ++ ueT 0 (0)) (n + 590) ((L ++ L70) ++ y138.1) y138.2) ?_ ?_
    · skip
      refine ok_drW (b := 119) hL70.1 (by decide) rfl rfl (by decide) rfl ?_
      refine ok_chk (by rw [wu_ref h.1 (a := 215) (f := 0) (b := 216) (by decide) rfl rfl (by decide)]; exact okd_sm (wu_lt h.1 (by decide) _)) ?_
      refine ok_bnd (wv_ue (v := 0) hL70 rfl rfl (by omega) (by omega)) ?_
      intro y145 hy145
      have hy145 : WV G M u fr st B c0 ((((((((((D ++ ueT 0 (h0)) ++ ueT 0 (0)) ++ ueT 0 (0)) ++ toks 0 (h3) 8) ++ toks 0 (h5) 8) ++ toks 0 (o) 1) ++ (if ((o : Nat) : Int) = (1 : Int) then (ueT 0 (h9 - 1)) else ([] : List Tok))) ++ toks 0 (0) 1) ++ (if ¬ h11 = (0 : Int) then (toks 0 (0) 1) else ([] : List Tok))) ++ ueT 0 (0)) (n + 590) ((L ++ L70) ++ y145.1) y145.2 := hy145
      refine ok_app (ok_ltt (fun L148 eL148 => ?_))
      have hL148 : WV G M u fr st B c0 ((((((((((D ++ ueT 0 (h0)) ++ ueT 0 (0)) ++ ueT 0 (0)) ++ toks 0 (h3) 8) ++ toks 0 (h5) 8) ++ toks 0 (o) 1) ++ (if ((o : Nat) : Int) = (1 : Int) then (ueT 0 (h9 - 1)) else ([] : List Tok))) ++ toks 0 (0) 1) ++ (if ¬ h11 = (0 : Int) then (toks 0 (0) 1) else ([] : List Tok))) ++ ueT 0 (0)) (n + 590) (L ++ L148) y145.2 := by
        have z := hy145
        rw [eL148]
        simp only [List.append_assoc, List.nil_append] at z ⊢
        exact z
      refine ok_some ?_
      have z := hL148
      simp only [eL148, List.append_assoc, List.nil_append, List.append_nil] at z ⊢
      exact z
    intro y138 hy138
    refine ok_app (ok_ltt (fun L140 eL140 => ?_))
    have hL140 : WV G M u fr st B c0 ((((((((((D ++ ueT 0 (h0)) ++ ueT 0 (0)) ++ ueT 0 (0)) ++ toks 0 (h3) 8) ++ toks 0 (h5) 8) ++ toks 0 (o) 1) ++ (if ((o : Nat) : Int) = (1 : Int) then (ueT 0 (h9 - 1)) else ([] : List Tok))) ++ toks 0 (0) 1) ++ (if ¬ h11 = (0 : Int) then (toks 0 (0) 1) else ([] : List Tok))) ++ ueT 0 (0)) (n + 590) (L ++ L140) y138.2 := by
      have z := hy138
      rw [eL140]
      simp only [List.append_assoc, List.nil_append] at z ⊢
      exact z
    refine ok_some ?_
    have z := hL140
    simp only [eL140, List.append_assoc, List.nil_append, List.append_nil] at z ⊢
    exact z
  intro y75 hy75
  refine ok_app (ok_ltt (fun L77 eL77 => ?_))
  have hL77 : WV G M u fr st B c0 ((((((((((D ++ ueT 0 (h0)) ++ ueT 0 (0)) ++ ueT 0 (0)) ++ toks 0 (h3) 8) ++ toks 0 (h5) 8) ++ toks 0 (o) 1) ++ (if ((o : Nat) : Int) = (1 : Int) then (ueT 0 (h9 - 1)) else ([] : List Tok))) ++ toks 0 (0) 1) ++ (if ¬ h11 = (0 : Int) then (toks 0 (0) 1) else ([] : List Tok))) ++ ueT 0 (0)) (n + 590) (L ++ L77) y75.2 := by
    have z := hy75
    rw [eL77]
    simp only [List.append_assoc, List.nil_append] at z ⊢
    exact z
  refine ok_chk (by rw [wu_len hL77.1 (b := 216) (by decide) rfl]; decide) ?_
  refine ok_ltt (fun x79 ex79 => ?_)
  have vx79 : x79.toInt = h12 := by rw [ex79]; exact (congrArg Int32.toInt (wu_rd hL77.1 (by decide) rfl 12)).trans g216_12
  refine ok_drW (b := 118) hL77.1 (by decide) rfl rfl (by decide) rfl ?_
  refine ok_chk (by rw [wu_len hL77.1 (b := 118) (by decide) rfl]; decide) ?_
  refine ok_ltt (fun x81 ex81 => ?_)
  have vx81 : x81.toInt = z := by rw [ex81]; exact (congrArg Int32.toInt (wu_rd hL77.1 (by decide) rfl 3)).trans g118_3
  refine ok_ltt (fun x82 ex82 => ?_)
  have vx82 : x82.toInt = (h12 - z) := by
    have q1 : (x79).toInt = h12 := vx79
    have q2 : (x81).toInt = z := vx81
    rw [ex82, ti_sub (by rw [q1, q2]; omega) (by rw [q1, q2]; omega), q1, q2] <;> omega
  refine ok_drW (b := 119) hL77.1 (by decide) rfl rfl (by decide) rfl ?_
  refine ok_chk (by rw [wu_ref h.1 (a := 215) (f := 0) (b := 216) (by decide) rfl rfl (by decide)]; exact okd_sm (wu_lt h.1 (by decide) _)) ?_
  refine ok_bnd (wv_se (v := h12 - z) hL77 rfl vx82 (by omega) (by omega) (by omega)) ?_
  intro y84 hy84
  have hy84 : WV G M u fr st B c0 (((((((((((D ++ ueT 0 (h0)) ++ ueT 0 (0)) ++ ueT 0 (0)) ++ toks 0 (h3) 8) ++ toks 0 (h5) 8) ++ toks 0 (o) 1) ++ (if ((o : Nat) : Int) = (1 : Int) then (ueT 0 (h9 - 1)) else ([] : List Tok))) ++ toks 0 (0) 1) ++ (if ¬ h11 = (0 : Int) then (toks 0 (0) 1) else ([] : List Tok))) ++ ueT 0 (0)) ++ ueT 0 (sei (h12 - z))) (n + 649) ((L ++ L77) ++ y84.1) y84.2 := hy84
  refine ok_app (ok_ltt (fun L87 eL87 => ?_))
  have hL87 : WV G M u fr st B c0 (((((((((((D ++ ueT 0 (h0)) ++ ueT 0 (0)) ++ ueT 0 (0)) ++ toks 0 (h3) 8) ++ toks 0 (h5) 8) ++ toks 0 (o) 1) ++ (if ((o : Nat) : Int) = (1 : Int) then (ueT 0 (h9 - 1)) else ([] : List Tok))) ++ toks 0 (0) 1) ++ (if ¬ h11 = (0 : Int) then (toks 0 (0) 1) else ([] : List Tok))) ++ ueT 0 (0)) ++ ueT 0 (sei (h12 - z))) (n + 649) (L ++ L87) y84.2 := by
    have z := hy84
    rw [eL87]
    simp only [List.append_assoc, List.nil_append] at z ⊢
    exact z
  refine ok_chk (by rw [wu_len hL87.1 (b := 216) (by decide) rfl]; decide) ?_
  refine ok_ltt (fun x90 ex90 => ?_)
  have vx90 : x90.toInt = ((h13 : Nat) : Int) := by rw [ex90]; exact (congrArg Int32.toInt (wu_rd hL87.1 (by decide) rfl 13)).trans g216_13
  refine ok_drW (b := 119) hL87.1 (by decide) rfl rfl (by decide) rfl ?_
  refine ok_chk (by rw [wu_ref h.1 (a := 215) (f := 0) (b := 216) (by decide) rfl rfl (by decide)]; exact okd_sm (wu_lt h.1 (by decide) _)) ?_
  refine ok_bnd (wv_ue (v := h13) hL87 rfl vx90 (by omega) (by omega)) ?_
  intro y92 hy92
  have hy92 : WV G M u fr st B c0 ((((((((((((D ++ ueT 0 (h0)) ++ ueT 0 (0)) ++ ueT 0 (0)) ++ toks 0 (h3) 8) ++ toks 0 (h5) 8) ++ toks 0 (o) 1) ++ (if ((o : Nat) : Int) = (1 : Int) then (ueT 0 (h9 - 1)) else ([] : List Tok))) ++ toks 0 (0) 1) ++ (if ¬ h11 = (0 : Int) then (toks 0 (0) 1) else ([] : List Tok))) ++ ueT 0 (0)) ++ ueT 0 (sei (h12 - z))) ++ ueT 0 (h13)) (n + 708) ((L ++ L87) ++ y92.1) y92.2 := hy92
  refine ok_app (ok_ltt (fun L95 eL95 => ?_))
  have hL95 : WV G M u fr st B c0 ((((((((((((D ++ ueT 0 (h0)) ++ ueT 0 (0)) ++ ueT 0 (0)) ++ toks 0 (h3) 8) ++ toks 0 (h5) 8) ++ toks 0 (o) 1) ++ (if ((o : Nat) : Int) = (1 : Int) then (ueT 0 (h9 - 1)) else ([] : List Tok))) ++ toks 0 (0) 1) ++ (if ¬ h11 = (0 : Int) then (toks 0 (0) 1) else ([] : List Tok))) ++ ueT 0 (0)) ++ ueT 0 (sei (h12 - z))) ++ ueT 0 (h13)) (n + 708) (L ++ L95) y92.2 := by
    have z := hy92
    rw [eL95]
    simp only [List.append_assoc, List.nil_append] at z ⊢
    exact z
  refine ok_chk (by rw [wu_len hL95.1 (b := 216) (by decide) rfl]; decide) ?_
  refine ok_ltt (fun x98 ex98 => ?_)
  have vx98 : x98.toInt = ((h13 : Nat) : Int) := by rw [ex98]; exact (congrArg Int32.toInt (wu_rd hL95.1 (by decide) rfl 13)).trans g216_13
  refine ok_bnd (Q := fun y99 => WV G M u fr st B c0 (((((((((((((D ++ ueT 0 (h0)) ++ ueT 0 (0)) ++ ueT 0 (0)) ++ toks 0 (h3) 8) ++ toks 0 (h5) 8) ++ toks 0 (o) 1) ++ (if ((o : Nat) : Int) = (1 : Int) then (ueT 0 (h9 - 1)) else ([] : List Tok))) ++ toks 0 (0) 1) ++ (if ¬ h11 = (0 : Int) then (toks 0 (0) 1) else ([] : List Tok))) ++ ueT 0 (0)) ++ ueT 0 (sei (h12 - z))) ++ ueT 0 (h13)) ++ (if ¬ ((h13 : Nat) : Int) = (1 : Int) then (ueT 0 (sei (h14)) ++ (ueT 0 (sei (h15)))) else ([] : List Tok))) (n + 826) ((L ++ L95) ++ y99.1) y99.2) (ok_if ?_ ?_) ?_
  · intro hc
    have hq : (((h13 : Nat) : Int) = (1 : Int)) := by
      exact (show _ = ((h13 : Nat) : Int) from vx98).symm.trans ((congrArg Int32.toInt hc).trans (show _ = (1 : Int) from rfl))
    have hqq : ¬ (¬ ((h13 : Nat) : Int) = (1 : Int)) := by first | exact hq | (intro q; exact q hq) | omega
    refine ok_some (wv_le (n := n + 708) ?_ (by omega))
    rw [show (if ¬ ((h13 : Nat) : Int) = (1 : Int) then (ueT 0 (sei (h14)) ++ (ueT 0 (sei (h15)))) else ([] : List Tok)) = ([] : List Tok) from if_neg hqq]
    have z := hL95
    simp only [List.append_assoc, List.nil_append, List.append_nil] at z ⊢
    exact z
  · intro hc
    have hq : ¬ (((h13 : Nat) : Int) = (1 : Int)) := by
      exact fun q => hc (Int32.toInt_inj.1 (Eq.trans vx98 (Eq.trans q (Eq.symm rfl))))
    have hqq : (¬ ((h13 : Nat) : Int) = (1 : Int)) := by first | exact hq | (intro q; exact q hq) | omega
    refine ok_chk (by rw [wu_len hL95.1 (b := 216) (by decide) rfl]; decide) ?_
    refine ok_ltt (fun x120 ex120 => ?_)
    have vx120 : x120.toInt = h14 := by rw [ex120]; exact (congrArg Int32.toInt (wu_rd hL95.1 (by decide) rfl 14)).trans g216_14
    refine ok_drW (b := 119) hL95.1 (by decide) rfl rfl (by decide) rfl ?_
    refine ok_chk (by rw [wu_ref h.1 (a := 215) (f := 0) (b := 216) (by decide) rfl rfl (by decide)]; exact okd_sm (wu_lt h.1 (by decide) _)) ?_
    refine ok_bnd (wv_se (v := h14) hL95 rfl vx120 (by omega) (by omega) (by omega)) ?_
    intro y122 hy122
    have hy122 : WV G M u fr st B c0 (((((((((((((D ++ ueT 0 (h0)) ++ ueT 0 (0)) ++ ueT 0 (0)) ++ toks 0 (h3) 8) ++ toks 0 (h5) 8) ++ toks 0 (o) 1) ++ (if ((o : Nat) : Int) = (1 : Int) then (ueT 0 (h9 - 1)) else ([] : List Tok))) ++ toks 0 (0) 1) ++ (if ¬ h11 = (0 : Int) then (toks 0 (0) 1) else ([] : List Tok))) ++ ueT 0 (0)) ++ ueT 0 (sei (h12 - z))) ++ ueT 0 (h13)) ++ ueT 0 (sei (h14))) (n + 767) ((L ++ L95) ++ y122.1) y122.2 := hy122
    refine ok_app (ok_ltt (fun L125 eL125 => ?_))
    have hL125 : WV G M u fr st B c0 (((((((((((((D ++ ueT 0 (h0)) ++ ueT 0 (0)) ++ ueT 0 (0)) ++ toks 0 (h3) 8) ++ toks 0 (h5) 8) ++ toks 0 (o) 1) ++ (if ((o : Nat) : Int) = (1 : Int) then (ueT 0 (h9 - 1)) else ([] : List Tok))) ++ toks 0 (0) 1) ++ (if ¬ h11 = (0 : Int) then (toks 0 (0) 1) else ([] : List Tok))) ++ ueT 0 (0)) ++ ueT 0 (sei (h12 - z))) ++ ueT 0 (h13)) ++ ueT 0 (sei (h14))) (n + 767) (L ++ L125) y122.2 := by
      have z := hy122
      rw [eL125]
      simp only [List.append_assoc, List.nil_append] at z ⊢
      exact z
    refine ok_chk (by rw [wu_len hL125.1 (b := 216) (by decide) rfl]; decide) ?_
    refine ok_ltt (fun x128 ex128 => ?_)
    have vx128 : x128.toInt = h15 := by rw [ex128]; exact (congrArg Int32.toInt (wu_rd hL125.1 (by decide) rfl 15)).trans g216_15
    refine ok_drW (b := 119) hL125.1 (by decide) rfl rfl (by decide) rfl ?_
    refine ok_bnd (wv_se (v := h15) hL125 rfl vx128 (by omega) (by omega) (by omega)) ?_
    intro y130 hy130
    have hy130 : WV G M u fr st B c0 ((((((((((((((D ++ ueT 0 (h0)) ++ ueT 0 (0)) ++ ueT 0 (0)) ++ toks 0 (h3) 8) ++ toks 0 (h5) 8) ++ toks 0 (o) 1) ++ (if ((o : Nat) : Int) = (1 : Int) then (ueT 0 (h9 - 1)) else ([] : List Tok))) ++ toks 0 (0) 1) ++ (if ¬ h11 = (0 : Int) then (toks 0 (0) 1) else ([] : List Tok))) ++ ueT 0 (0)) ++ ueT 0 (sei (h12 - z))) ++ ueT 0 (h13)) ++ ueT 0 (sei (h14))) ++ ueT 0 (sei (h15))) (n + 826) ((L ++ L125) ++ y130.1) y130.2 := hy130
    refine ok_app (ok_ltt (fun L132 eL132 => ?_))
    have hL132 : WV G M u fr st B c0 ((((((((((((((D ++ ueT 0 (h0)) ++ ueT 0 (0)) ++ ueT 0 (0)) ++ toks 0 (h3) 8) ++ toks 0 (h5) 8) ++ toks 0 (o) 1) ++ (if ((o : Nat) : Int) = (1 : Int) then (ueT 0 (h9 - 1)) else ([] : List Tok))) ++ toks 0 (0) 1) ++ (if ¬ h11 = (0 : Int) then (toks 0 (0) 1) else ([] : List Tok))) ++ ueT 0 (0)) ++ ueT 0 (sei (h12 - z))) ++ ueT 0 (h13)) ++ ueT 0 (sei (h14))) ++ ueT 0 (sei (h15))) (n + 826) (L ++ L132) y130.2 := by
      have z := hy130
      rw [eL132]
      simp only [List.append_assoc, List.nil_append] at z ⊢
      exact z
    refine ok_some (wv_le (n := n + 826) ?_ (by omega))
    rw [show (if ¬ ((h13 : Nat) : Int) = (1 : Int) then (ueT 0 (sei (h14)) ++ (ueT 0 (sei (h15)))) else ([] : List Tok)) = (ueT 0 (sei (h14)) ++ (ueT 0 (sei (h15)))) from if_pos hqq]
    have z := hL132
    simp only [eL125, eL132, List.append_assoc, List.nil_append, List.append_nil] at z ⊢
    exact z
  intro y99 hy99
  refine ok_app (ok_ltt (fun L101 eL101 => ?_))
  have hL101 : WV G M u fr st B c0 (((((((((((((D ++ ueT 0 (h0)) ++ ueT 0 (0)) ++ ueT 0 (0)) ++ toks 0 (h3) 8) ++ toks 0 (h5) 8) ++ toks 0 (o) 1) ++ (if ((o : Nat) : Int) = (1 : Int) then (ueT 0 (h9 - 1)) else ([] : List Tok))) ++ toks 0 (0) 1) ++ (if ¬ h11 = (0 : Int) then (toks 0 (0) 1) else ([] : List Tok))) ++ ueT 0 (0)) ++ ueT 0 (sei (h12 - z))) ++ ueT 0 (h13)) ++ (if ¬ ((h13 : Nat) : Int) = (1 : Int) then (ueT 0 (sei (h14)) ++ (ueT 0 (sei (h15)))) else ([] : List Tok))) (n + 826) (L ++ L101) y99.2 := by
    have z := hy99
    rw [eL101]
    simp only [List.append_assoc, List.nil_append] at z ⊢
    exact z
  refine ok_drW (b := 125) hL101.1 (by decide) rfl rfl (by decide) rfl ?_
  refine ok_drW (b := 220) hL101.1 (by decide) rfl rfl (by decide) rfl ?_
  refine ok_chk (by rw [wu_len hL101.1 (b := 220) (by decide) rfl]; decide) ?_
  refine ok_ltt (fun x105 ex105 => ?_)
  have vx105 : x105.toInt = (1 : Int) := by rw [ex105]; exact (congrArg Int32.toInt (wu_rd hL101.1 (by decide) rfl 1)).trans g220_1
  rw [if_pos (show x105 = (1 : Int32) from pz_eq.mpr (by rw [(show (x105).toInt = (1 : Int) from vx105), (show ((1 : Int32)).toInt = (1 : Int) from rfl)] <;> first | decide | omega))]
  refine ok_bnd (Q := fun y106 => WU G M u fr st B c0 ((((((((((((((D ++ ueT 0 (h0)) ++ ueT 0 (0)) ++ ueT 0 (0)) ++ toks 0 (h3) 8) ++ toks 0 (h5) 8) ++ toks 0 (o) 1) ++ (if ((o : Nat) : Int) = (1 : Int) then (ueT 0 (h9 - 1)) else ([] : List Tok))) ++ toks 0 (0) 1) ++ (if ¬ h11 = (0 : Int) then (toks 0 (0) 1) else ([] : List Tok))) ++ ueT 0 (0)) ++ ueT 0 (sei (h12 - z))) ++ ueT 0 (h13)) ++ (if ¬ ((h13 : Nat) : Int) = (1 : Int) then (ueT 0 (sei (h14)) ++ (ueT 0 (sei (h15)))) else ([] : List Tok))) ++ dataT (((((((((((((D ++ ueT 0 (h0)) ++ ueT 0 (0)) ++ ueT 0 (0)) ++ toks 0 (h3) 8) ++ toks 0 (h5) 8) ++ toks 0 (o) 1) ++ (if ((o : Nat) : Int) = (1 : Int) then (ueT 0 (h9 - 1)) else ([] : List Tok))) ++ toks 0 (0) 1) ++ (if ¬ h11 = (0 : Int) then (toks 0 (0) 1) else ([] : List Tok))) ++ ueT 0 (0)) ++ ueT 0 (sei (h12 - z))) ++ ueT 0 (h13)) ++ (if ¬ ((h13 : Nat) : Int) = (1 : Int) then (ueT 0 (sei (h14)) ++ (ueT 0 (sei (h15)))) else ([] : List Tok))).length) ((L ++ L101) ++ y106.1) y106.2) ?_ ?_
  · skip
    refine ok_drW (b := 119) hL101.1 (by decide) rfl rfl (by decide) rfl ?_
    refine ok_bnd (wv_data hL101 (by omega)) ?_
    intro y113 hy113
    refine ok_app (ok_ltt (fun L115 eL115 => ?_))
    have hL115 : WU G M u fr st B c0 ((((((((((((((D ++ ueT 0 (h0)) ++ ueT 0 (0)) ++ ueT 0 (0)) ++ toks 0 (h3) 8) ++ toks 0 (h5) 8) ++ toks 0 (o) 1) ++ (if ((o : Nat) : Int) = (1 : Int) then (ueT 0 (h9 - 1)) else ([] : List Tok))) ++ toks 0 (0) 1) ++ (if ¬ h11 = (0 : Int) then (toks 0 (0) 1) else ([] : List Tok))) ++ ueT 0 (0)) ++ ueT 0 (sei (h12 - z))) ++ ueT 0 (h13)) ++ (if ¬ ((h13 : Nat) : Int) = (1 : Int) then (ueT 0 (sei (h14)) ++ (ueT 0 (sei (h15)))) else ([] : List Tok))) ++ dataT (((((((((((((D ++ ueT 0 (h0)) ++ ueT 0 (0)) ++ ueT 0 (0)) ++ toks 0 (h3) 8) ++ toks 0 (h5) 8) ++ toks 0 (o) 1) ++ (if ((o : Nat) : Int) = (1 : Int) then (ueT 0 (h9 - 1)) else ([] : List Tok))) ++ toks 0 (0) 1) ++ (if ¬ h11 = (0 : Int) then (toks 0 (0) 1) else ([] : List Tok))) ++ ueT 0 (0)) ++ ueT 0 (sei (h12 - z))) ++ ueT 0 (h13)) ++ (if ¬ ((h13 : Nat) : Int) = (1 : Int) then (ueT 0 (sei (h14)) ++ (ueT 0 (sei (h15)))) else ([] : List Tok))).length) (L ++ L115) y113.2 := by
      have z := hy113
      rw [eL115]
      simp only [List.append_assoc, List.nil_append] at z ⊢
      exact z
    refine ok_some ?_
    have z := hL115
    simp only [eL115, List.append_assoc, List.nil_append, List.append_nil] at z ⊢
    exact z
  intro y106 hy106
  refine ok_app (ok_ltt (fun L108 eL108 => ?_))
  have hL108 : WU G M u fr st B c0 ((((((((((((((D ++ ueT 0 (h0)) ++ ueT 0 (0)) ++ ueT 0 (0)) ++ toks 0 (h3) 8) ++ toks 0 (h5) 8) ++ toks 0 (o) 1) ++ (if ((o : Nat) : Int) = (1 : Int) then (ueT 0 (h9 - 1)) else ([] : List Tok))) ++ toks 0 (0) 1) ++ (if ¬ h11 = (0 : Int) then (toks 0 (0) 1) else ([] : List Tok))) ++ ueT 0 (0)) ++ ueT 0 (sei (h12 - z))) ++ ueT 0 (h13)) ++ (if ¬ ((h13 : Nat) : Int) = (1 : Int) then (ueT 0 (sei (h14)) ++ (ueT 0 (sei (h15)))) else ([] : List Tok))) ++ dataT (((((((((((((D ++ ueT 0 (h0)) ++ ueT 0 (0)) ++ ueT 0 (0)) ++ toks 0 (h3) 8) ++ toks 0 (h5) 8) ++ toks 0 (o) 1) ++ (if ((o : Nat) : Int) = (1 : Int) then (ueT 0 (h9 - 1)) else ([] : List Tok))) ++ toks 0 (0) 1) ++ (if ¬ h11 = (0 : Int) then (toks 0 (0) 1) else ([] : List Tok))) ++ ueT 0 (0)) ++ ueT 0 (sei (h12 - z))) ++ ueT 0 (h13)) ++ (if ¬ ((h13 : Nat) : Int) = (1 : Int) then (ueT 0 (sei (h14)) ++ (ueT 0 (sei (h15)))) else ([] : List Tok))).length) (L ++ L108) y106.2 := by
    have z := hy106
    rw [eL108]
    simp only [List.append_assoc, List.nil_append] at z ⊢
    exact z
  refine ok_some ?_
  have z := hL108
  simp only [eL10, eL18, eL25, eL34, eL42, eL48, eL53, eL58, eL63, eL70, eL77, eL87, eL95, eL101, eL108, List.append_assoc, List.nil_append, List.append_nil] at z ⊢
  exact z
theorem w_head10 {G : GG} {M N : DD} {u fr c0 n : Nat} {st : Nat → Nat} {B : List Nat} {D : List Tok} {L : NN} {h0 h3 h4 h5 h13 o h9 r : Nat} {h11 h12 z h14 h15 : Int} {h8 : Nat} (g118_3 : (M.1 118 3).toInt = z) (g118_7 : (M.1 118 7).toInt = ((r : Nat) : Int)) (g118_18 : (M.1 118 18).toInt = (0 : Int)) (g216_0 : (M.1 216 0).toInt = ((h0 : Nat) : Int)) (g216_1 : (M.1 216 1).toInt = (1 : Int)) (g216_3 : (M.1 216 3).toInt = ((h3 : Nat) : Int)) (g216_5 : (M.1 216 5).toInt = ((h5 : Nat) : Int)) (g216_8 : (M.1 216 8).toInt = ((h8 : Nat) : Int)) (g216_9 : (M.1 216 9).toInt = ((h9 : Nat) : Int)) (g216_11 : (M.1 216 11).toInt = h11) (g216_12 : (M.1 216 12).toInt = h12) (g216_13 : (M.1 216 13).toInt = ((h13 : Nat) : Int)) (g216_14 : (M.1 216 14).toInt = h14) (g216_15 : (M.1 216 15).toInt = h15) (g216_18 : (M.1 216 18).toInt = (1 : Int)) (g220_1 : (M.1 220 1).toInt = (0 : Int)) (b0 : h0 < 100000) (b4 : h4 < 100000) (b12 : 0 ≤ h12 ∧ h12 ≤ 100) (bz : -100 ≤ z ∧ z ≤ 100) (b13 : h13 ≤ 2) (b14 : -6 ≤ h14 ∧ h14 ≤ 6) (b15 : -6 ≤ h15 ∧ h15 ≤ 6) (ho : (o = 0 ∧ ((h9 : Nat) : Int) = ((r : Nat) : Int)) ∨ (o = 1 ∧ ¬ ((h9 : Nat) : Int) = ((r : Nat) : Int))) (b9 : 1 ≤ h9 ∧ h9 ≤ 8) (hn : n ≤ 100000) (h : WV G M u fr st B c0 D n L N) : OK (FX0_writeHeader (xt G L) N 116) (fun y => WV G M u fr st B c0 (((((((((((((((D ++ ueT 0 (h0)) ++ ueT 0 (1)) ++ ueT 0 (0)) ++ toks 0 (h3) 8) ++ toks 0 (h5) 8) ++ toks 0 (h8) 1) ++ toks 0 (o) 1) ++ (if ((o : Nat) : Int) = (1 : Int) then (ueT 0 (h9 - 1)) else ([] : List Tok))) ++ (if ((o : Nat) : Int) = (1 : Int) then (ueT 0 (0)) else ([] : List Tok))) ++ toks 0 (0) 1) ++ toks 0 (0) 1) ++ (if ¬ h11 = (0 : Int) then (toks 0 (0) 1) else ([] : List Tok))) ++ ueT 0 (sei (h12 - z))) ++ ueT 0 (h13)) ++ (if ¬ ((h13 : Nat) : Int) = (1 : Int) then (ueT 0 (sei (h14)) ++ (ueT 0 (sei (h15)))) else ([] : List Tok))) (n + 944) (L ++ y.1) y.2) := by
  unfold FX0_writeHeader
  simp only [xt_xt, List.append_nil]
  refine ok_drW (b := 125) h.1 (by decide) rfl rfl (by decide) rfl ?_
  refine ok_drW (b := 215) h.1 (by decide) rfl rfl (by decide) rfl ?_
  refine ok_drW (b := 216) h.1 (by decide) rfl rfl (by decide) rfl ?_
  refine ok_chk (by rw [wu_len h.1 (b := 216) (by decide) rfl]; decide) ?_
  refine ok_ltt (fun x5 ex5 => ?_)
  have vx5 : x5.toInt = ((h0 : Nat) : Int) := by rw [ex5]; exact (congrArg Int32.toInt (wu_rd h.1 (by decide) rfl 0)).trans g216_0
  refine ok_drW (b := 119) h.1 (by decide) rfl rfl (by decide) rfl ?_
  refine ok_chk (by rw [wu_ref h.1 (a := 215) (f := 0) (b := 216) (by decide) rfl rfl (by decide)]; exact okd_sm (wu_lt h.1 (by decide) _)) ?_
  refine ok_bnd (wv_ue (v := h0) h rfl vx5 (by omega) (by omega)) ?_
  intro y7 hy7
  have hy7 : WV G M u fr st B c0 (D ++ ueT 0 (h0)) (n + 59) ((L) ++ y7.1) y7.2 := hy7
  refine ok_app (ok_ltt (fun L10 eL10 => ?_))
  have hL10 : WV G M u fr st B c0 (D ++ ueT 0 (h0)) (n + 59) (L ++ L10) y7.2 := by
    have z := hy7
    rw [eL10]
    simp only [List.append_assoc, List.nil_append] at z ⊢
    exact z
  refine ok_chk (by rw [wu_len hL10.1 (b := 216) (by decide) rfl]; decide) ?_
  refine ok_ltt (fun x13 ex13 => ?_)
  have vx13 : x13.toInt = (1 : Int) := by rw [ex13]; exact (congrArg Int32.toInt (wu_rd hL10.1 (by decide) rfl 1)).trans g216_1
  refine ok_drW (b := 119) hL10.1 (by decide) rfl rfl (by decide) rfl ?_
  refine ok_chk (by rw [wu_ref h.1 (a := 215) (f := 0) (b := 216) (by decide) rfl rfl (by decide)]; exact okd_sm (wu_lt h.1 (by decide) _)) ?_
  refine ok_bnd (wv_ue (v := 1) hL10 rfl vx13 (by omega) (by omega)) ?_
  intro y15 hy15
  have hy15 : WV G M u fr st B c0 ((D ++ ueT 0 (h0)) ++ ueT 0 (1)) (n + 118) ((L ++ L10) ++ y15.1) y15.2 := hy15
  refine ok_app (ok_ltt (fun L18 eL18 => ?_))
  have hL18 : WV G M u fr st B c0 ((D ++ ueT 0 (h0)) ++ ueT 0 (1)) (n + 118) (L ++ L18) y15.2 := by
    have z := hy15
    rw [eL18]
    simp only [List.append_assoc, List.nil_append] at z ⊢
    exact z
  refine ok_drW (b := 119) hL18.1 (by decide) rfl rfl (by decide) rfl ?_
  refine ok_chk (by rw [wu_ref h.1 (a := 215) (f := 0) (b := 216) (by decide) rfl rfl (by decide)]; exact okd_sm (wu_lt h.1 (by decide) _)) ?_
  refine ok_bnd (wv_ue (v := 0) hL18 rfl rfl (by omega) (by omega)) ?_
  intro y22 hy22
  have hy22 : WV G M u fr st B c0 (((D ++ ueT 0 (h0)) ++ ueT 0 (1)) ++ ueT 0 (0)) (n + 177) ((L ++ L18) ++ y22.1) y22.2 := hy22
  refine ok_app (ok_ltt (fun L25 eL25 => ?_))
  have hL25 : WV G M u fr st B c0 (((D ++ ueT 0 (h0)) ++ ueT 0 (1)) ++ ueT 0 (0)) (n + 177) (L ++ L25) y22.2 := by
    have z := hy22
    rw [eL25]
    simp only [List.append_assoc, List.nil_append] at z ⊢
    exact z
  refine ok_chk (by rw [wu_len hL25.1 (b := 216) (by decide) rfl]; decide) ?_
  refine ok_ltt (fun x28 ex28 => ?_)
  have vx28 : x28.toInt = ((h3 : Nat) : Int) := by rw [ex28]; exact (congrArg Int32.toInt (wu_rd hL25.1 (by decide) rfl 3)).trans g216_3
  refine ok_ltt (fun x29 ex29 => ?_)
  have vx29 : x29.toInt = ((h3 : Nat) : Int) := by rw [ex29, Int32.toInt_toInt64]; exact vx28
  refine ok_drW (b := 119) hL25.1 (by decide) rfl rfl (by decide) rfl ?_
  refine ok_chk (by rw [wu_ref h.1 (a := 215) (f := 0) (b := 216) (by decide) rfl rfl (by decide)]; exact okd_sm (wu_lt h.1 (by decide) _)) ?_
  refine ok_bnd (wv_code (V := h3) (m := 8) hL25 rfl vx29 rfl (by decide) (by omega)) ?_
  intro y31 hy31
  have hy31 : WV G M u fr st B c0 ((((D ++ ueT 0 (h0)) ++ ueT 0 (1)) ++ ueT 0 (0)) ++ toks 0 (h3) 8) (n + 236) ((L ++ L25) ++ y31.1) y31.2 := hy31
  refine ok_app (ok_ltt (fun L34 eL34 => ?_))
  have hL34 : WV G M u fr st B c0 ((((D ++ ueT 0 (h0)) ++ ueT 0 (1)) ++ ueT 0 (0)) ++ toks 0 (h3) 8) (n + 236) (L ++ L34) y31.2 := by
    have z := hy31
    rw [eL34]
    simp only [List.append_assoc, List.nil_append] at z ⊢
    exact z
  refine ok_drW (b := 125) hL34.1 (by decide) rfl rfl (by decide) rfl ?_
  refine ok_drW (b := 215) hL34.1 (by decide) rfl rfl (by decide) rfl ?_
  refine ok_bnd (wv_isOwn hL34 g216_18 (r := 0) rfl) ?_
  rintro y39 ⟨ey39, vy39⟩
  have hy39 : WV G M u fr st B c0 ((((D ++ ueT 0 (h0)) ++ ueT 0 (1)) ++ ueT 0 (0)) ++ toks 0 (h3) 8) (n + 236) (L ++ L34) y39.1 := by rw [ey39]; exact hL34
  rw [if_pos (show y39.2 = (0 : Int32) from pz_eq.mpr (by rw [(show (y39.2).toInt = (0 : Int) from vy39), (show ((0 : Int32)).toInt = (0 : Int) from rfl)] <;> first | decide | omega))]
  refine ok_bnd (Q := fun y40 => WV G M u fr st B c0 ((((D ++ ueT 0 (h0)) ++ ueT 0 (1)) ++ ueT 0 (0)) ++ toks 0 (h3) 8) (n + 236) ((L ++ L34) ++ y40.1) y40.2) ?_ ?_
  · skip
    refine ok_some ?_
    have z := hy39
    simp only [List.append_assoc, List.nil_append, List.append_nil] at z ⊢
    exact z
  intro y40 hy40
  refine ok_app (ok_ltt (fun L42 eL42 => ?_))
  have hL42 : WV G M u fr st B c0 ((((D ++ ueT 0 (h0)) ++ ueT 0 (1)) ++ ueT 0 (0)) ++ toks 0 (h3) 8) (n + 236) (L ++ L42) y40.2 := by
    have z := hy40
    rw [eL42]
    simp only [List.append_assoc, List.nil_append] at z ⊢
    exact z
  refine ok_drW (b := 118) hL42.1 (by decide) rfl rfl (by decide) rfl ?_
  refine ok_chk (by rw [wu_len hL42.1 (b := 118) (by decide) rfl]; decide) ?_
  refine ok_ltt (fun x45 ex45 => ?_)
  have vx45 : x45.toInt = (0 : Int) := by rw [ex45]; exact (congrArg Int32.toInt (wu_rd hL42.1 (by decide) rfl 18)).trans g118_18
  rw [if_pos (show x45 = (0 : Int32) from pz_eq.mpr (by rw [(show (x45).toInt = (0 : Int) from vx45), (show ((0 : Int32)).toInt = (0 : Int) from rfl)] <;> first | decide | omega))]
  refine ok_bnd (Q := fun y46 => WV G M u fr st B c0 (((((D ++ ueT 0 (h0)) ++ ueT 0 (1)) ++ ueT 0 (0)) ++ toks 0 (h3) 8) ++ toks 0 (h5) 8) (n + 295) ((L ++ L42) ++ y46.1) y46.2) ?_ ?_
  · skip
    refine ok_chk (by rw [wu_len hL42.1 (b := 216) (by decide) rfl]; decide) ?_
    refine ok_ltt (fun x193 ex193 => ?_)
    have vx193 : x193.toInt = ((h5 : Nat) : Int) := by rw [ex193]; exact (congrArg Int32.toInt (wu_rd hL42.1 (by decide) rfl 5)).trans g216_5
    refine ok_ltt (fun x194 ex194 => ?_)
    have vx194 : x194.toInt = ((h5 : Nat) : Int) := by rw [ex194, Int32.toInt_toInt64]; exact vx193
    refine ok_drW (b := 119) hL42.1 (by decide) rfl rfl (by decide) rfl ?_
    refine ok_chk (by rw [wu_ref h.1 (a := 215) (f := 0) (b := 216) (by decide) rfl rfl (by decide)]; exact okd_sm (wu_lt h.1 (by decide) _)) ?_
    refine ok_bnd (wv_code (V := h5) (m := 8) hL42 rfl vx194 rfl (by decide) (by omega)) ?_
    intro y196 hy196
    have hy196 : WV G M u fr st B c0 (((((D ++ ueT 0 (h0)) ++ ueT 0 (1)) ++ ueT 0 (0)) ++ toks 0 (h3) 8) ++ toks 0 (h5) 8) (n + 295) ((L ++ L42) ++ y196.1) y196.2 := hy196
    refine ok_app (ok_ltt (fun L199 eL199 => ?_))
    have hL199 : WV G M u fr st B c0 (((((D ++ ueT 0 (h0)) ++ ueT 0 (1)) ++ ueT 0 (0)) ++ toks 0 (h3) 8) ++ toks 0 (h5) 8) (n + 295) (L ++ L199) y196.2 := by
      have z := hy196
      rw [eL199]
      simp only [List.append_assoc, List.nil_append] at z ⊢
      exact z
    refine ok_some ?_
    have z := hL199
    simp only [eL199, List.append_assoc, List.nil_append, List.append_nil] at z ⊢
    exact z
  intro y46 hy46
  refine ok_app (ok_ltt (fun L48 eL48 => ?_))
  have hL48 : WV G M u fr st B c0 (((((D ++ ueT 0 (h0)) ++ ueT 0 (1)) ++ ueT 0 (0)) ++ toks 0 (h3) 8) ++ toks 0 (h5) 8) (n + 295) (L ++ L48) y46.2 := by
    have z := hy46
    rw [eL48]
    simp only [List.append_assoc, List.nil_append] at z ⊢
    exact z
  refine ok_chk (by rw [wu_len hL48.1 (b := 216) (by decide) rfl]; decide) ?_
  refine ok_ltt (fun x50 ex50 => ?_)
  have vx50 : x50.toInt = (1 : Int) := by rw [ex50]; exact (congrArg Int32.toInt (wu_rd hL48.1 (by decide) rfl 1)).trans g216_1
  rw [if_neg (show ¬ (x50 = (2 : Int32)) from fun qq => absurd (pz_eq.mp qq) (by rw [(show (x50).toInt = (1 : Int) from vx50), (show ((2 : Int32)).toInt = (2 : Int) from rfl)] <;> first | decide | omega))]
  refine ok_bnd (Q := fun y51 => WV G M u fr st B c0 (((((((((((D ++ ueT 0 (h0)) ++ ueT 0 (1)) ++ ueT 0 (0)) ++ toks 0 (h3) 8) ++ toks 0 (h5) 8) ++ toks 0 (h8) 1) ++ toks 0 (o) 1) ++ (if ((o : Nat) : Int) = (1 : Int) then (ueT 0 (h9 - 1)) else ([] : List Tok))) ++ (if ((o : Nat) : Int) = (1 : Int) then (ueT 0 (0)) else ([] : List Tok))) ++ toks 0 (0) 1) ++ toks 0 (0) 1) (n + 649) ((L ++ L48) ++ y51.1) y51.2) ?_ ?_
  · skip
    refine ok_chk (by rw [wu_ref h.1 (a := 215) (f := 0) (b := 216) (by decide) rfl rfl (by decide)]; exact okd_sm (wu_lt h.1 (by decide) _)) ?_
    refine ok_bnd (w_lists1 (D := (((((D ++ ueT 0 (h0)) ++ ueT 0 (1)) ++ ueT 0 (0)) ++ toks 0 (h3) 8) ++ toks 0 (h5) 8)) (n := n + 295) g118_7 g216_1 g216_8 g216_9 ho b9 (by omega) hL48) ?_
    intro y185 hy185
    have hy185 : WV G M u fr st B c0 (((((((((((D ++ ueT 0 (h0)) ++ ueT 0 (1)) ++ ueT 0 (0)) ++ toks 0 (h3) 8) ++ toks 0 (h5) 8) ++ toks 0 (h8) 1) ++ toks 0 (o) 1) ++ (if ((o : Nat) : Int) = (1 : Int) then (ueT 0 (h9 - 1)) else ([] : List Tok))) ++ (if ((o : Nat) : Int) = (1 : Int) then (ueT 0 (0)) else ([] : List Tok))) ++ toks 0 (0) 1) ++ toks 0 (0) 1) (n + 649) ((L ++ L48) ++ y185.1) y185.2 := wv_le hy185 (by omega)
    refine ok_app (ok_ltt (fun L188 eL188 => ?_))
    have hL188 : WV G M u fr st B c0 (((((((((((D ++ ueT 0 (h0)) ++ ueT 0 (1)) ++ ueT 0 (0)) ++ toks 0 (h3) 8) ++ toks 0 (h5) 8) ++ toks 0 (h8) 1) ++ toks 0 (o) 1) ++ (if ((o : Nat) : Int) = (1 : Int) then (ueT 0 (h9 - 1)) else ([] : List Tok))) ++ (if ((o : Nat) : Int) = (1 : Int) then (ueT 0 (0)) else ([] : List Tok))) ++ toks 0 (0) 1) ++ toks 0 (0) 1) (n + 649) (L ++ L188) y185.2 := by
      have z := hy185
      rw [eL188]
      simp only [List.append_assoc, List.nil_append] at z ⊢
      exact z
    refine ok_some ?_
    have z := hL188
    simp only [eL188, List.append_assoc, List.nil_append, List.append_nil] at z ⊢
    exact z
  intro y51 hy51
  refine ok_app (ok_ltt (fun L53 eL53 => ?_))
  have hL53 : WV G M u fr st B c0 (((((((((((D ++ ueT 0 (h0)) ++ ueT 0 (1)) ++ ueT 0 (0)) ++ toks 0 (h3) 8) ++ toks 0 (h5) 8) ++ toks 0 (h8) 1) ++ toks 0 (o) 1) ++ (if ((o : Nat) : Int) = (1 : Int) then (ueT 0 (h9 - 1)) else ([] : List Tok))) ++ (if ((o : Nat) : Int) = (1 : Int) then (ueT 0 (0)) else ([] : List Tok))) ++ toks 0 (0) 1) ++ toks 0 (0) 1) (n + 649) (L ++ L53) y51.2 := by
    have z := hy51
    rw [eL53]
    simp only [List.append_assoc, List.nil_append] at z ⊢
    exact z
  refine ok_chk (by rw [wu_len hL53.1 (b := 216) (by decide) rfl]; decide) ?_
  refine ok_ltt (fun x55 ex55 => ?_)
  have vx55 : x55.toInt = (1 : Int) := by rw [ex55]; exact (congrArg Int32.toInt (wu_rd hL53.1 (by decide) rfl 1)).trans g216_1
  rw [if_neg (show ¬ (x55 = (0 : Int32)) from fun qq => absurd (pz_eq.mp qq) (by rw [(show (x55).toInt = (1 : Int) from vx55), (show ((0 : Int32)).toInt = (0 : Int) from rfl)] <;> first | decide | omega))]
  refine ok_bnd (Q := fun y56 => WV G M u fr st B c0 (((((((((((D ++ ueT 0 (h0)) ++ ueT 0 (1)) ++ ueT 0 (0)) ++ toks 0 (h3) 8) ++ toks 0 (h5) 8) ++ toks 0 (h8) 1) ++ toks 0 (o) 1) ++ (if ((o : Nat) : Int) = (1 : Int) then (ueT 0 (h9 - 1)) else ([] : List Tok))) ++ (if ((o : Nat) : Int) = (1 : Int) then (ueT 0 (0)) else ([] : List Tok))) ++ toks 0 (0) 1) ++ toks 0 (0) 1) (n + 649) ((L ++ L53) ++ y56.1) y56.2) ?_ ?_
  · skip
    refine ok_some ?_
    have z := hL53
    simp only [List.append_assoc, List.nil_append, List.append_nil] at z ⊢
    exact z
  intro y56 hy56
  refine ok_app (ok_ltt (fun L58 eL58 => ?_))
  have hL58 : WV G M u fr st B c0 (((((((((((D ++ ueT 0 (h0)) ++ ueT 0 (1)) ++ ueT 0 (0)) ++ toks 0 (h3) 8) ++ toks 0 (h5) 8) ++ toks 0 (h8) 1) ++ toks 0 (o) 1) ++ (if ((o : Nat) : Int) = (1 : Int) then (ueT 0 (h9 - 1)) else ([] : List Tok))) ++ (if ((o : Nat) : Int) = (1 : Int) then (ueT 0 (0)) else ([] : List Tok))) ++ toks 0 (0) 1) ++ toks 0 (0) 1) (n + 649) (L ++ L58) y56.2 := by
    have z := hy56
    rw [eL58]
    simp only [List.append_assoc, List.nil_append] at z ⊢
    exact z
  refine ok_chk (by rw [wu_len hL58.1 (b := 216) (by decide) rfl]; decide) ?_
  refine ok_ltt (fun x60 ex60 => ?_)
  have vx60 : x60.toInt = h11 := by rw [ex60]; exact (congrArg Int32.toInt (wu_rd hL58.1 (by decide) rfl 11)).trans g216_11
  refine ok_bnd (Q := fun y61 => WV G M u fr st B c0 ((((((((((((D ++ ueT 0 (h0)) ++ ueT 0 (1)) ++ ueT 0 (0)) ++ toks 0 (h3) 8) ++ toks 0 (h5) 8) ++ toks 0 (h8) 1) ++ toks 0 (o) 1) ++ (if ((o : Nat) : Int) = (1 : Int) then (ueT 0 (h9 - 1)) else ([] : List Tok))) ++ (if ((o : Nat) : Int) = (1 : Int) then (ueT 0 (0)) else ([] : List Tok))) ++ toks 0 (0) 1) ++ toks 0 (0) 1) ++ (if ¬ h11 = (0 : Int) then (toks 0 (0) 1) else ([] : List Tok))) (n + 708) ((L ++ L58) ++ y61.1) y61.2) (ok_if ?_ ?_) ?_
  · intro hc
    have hq : (h11 = (0 : Int)) := by
      exact (show _ = h11 from vx60).symm.trans ((congrArg Int32.toInt hc).trans (show _ = (0 : Int) from rfl))
    have hqq : ¬ (¬ h11 = (0 : Int)) := by first | exact hq | (intro q; exact q hq) | omega
    refine ok_some (wv_le (n := n + 649) ?_ (by omega))
    rw [show (if ¬ h11 = (0 : Int) then (toks 0 (0) 1) else ([] : List Tok)) = ([] : List Tok) from if_neg hqq]
    have z := hL58
    simp only [List.append_assoc, List.nil_append, List.append_nil] at z ⊢
    exact z
  · intro hc
    have hq : ¬ (h11 = (0 : Int)) := by
      exact fun q => hc (Int32.toInt_inj.1 (Eq.trans vx60 (Eq.trans q (Eq.symm rfl))))
    have hqq : (¬ h11 = (0 : Int)) := by first | exact hq | (intro q; exact q hq) | omega
    refine ok_chk (by rw [wu_ref h.1 (a := 215) (f := 0) (b := 216) (by decide) rfl rfl (by decide)]; exact okd_sm (wu_lt h.1 (by decide) _)) ?_
    refine ok_bnd (wv_flag (V := 0) hL58 rfl (by omega)) ?_
    intro y161 hy161
    have hy161 : WV G M u fr st B c0 ((((((((((((D ++ ueT 0 (h0)) ++ ueT 0 (1)) ++ ueT 0 (0)) ++ toks 0 (h3) 8) ++ toks 0 (h5) 8) ++ toks 0 (h8) 1) ++ toks 0 (o) 1) ++ (if ((o : Nat) : Int) = (1 : Int) then (ueT 0 (h9 - 1)) else ([] : List Tok))) ++ (if ((o : Nat) : Int) = (1 : Int) then (ueT 0 (0)) else ([] : List Tok))) ++ toks 0 (0) 1) ++ toks 0 (0) 1) ++ toks 0 (0) 1) (n + 708) ((L ++ L58) ++ y161.1) y161.2 := hy161
    refine ok_app (ok_ltt (fun L164 eL164 => ?_))
    have hL164 : WV G M u fr st B c0 ((((((((((((D ++ ueT 0 (h0)) ++ ueT 0 (1)) ++ ueT 0 (0)) ++ toks 0 (h3) 8) ++ toks 0 (h5) 8) ++ toks 0 (h8) 1) ++ toks 0 (o) 1) ++ (if ((o : Nat) : Int) = (1 : Int) then (ueT 0 (h9 - 1)) else ([] : List Tok))) ++ (if ((o : Nat) : Int) = (1 : Int) then (ueT 0 (0)) else ([] : List Tok))) ++ toks 0 (0) 1) ++ toks 0 (0) 1) ++ toks 0 (0) 1) (n + 708) (L ++ L164) y161.2 := by
      have z := hy161
      rw [eL164]
      simp only [List.append_assoc, List.nil_append] at z ⊢
      exact z
    refine ok_some (wv_le (n := n + 708) ?_ (by omega))
    rw [show (if ¬ h11 = (0 : Int) then (toks 0 (0) 1) else ([] : List Tok)) = (toks 0 (0) 1) from if_pos hqq]
    have z := hL164
    simp only [eL164, List.append_assoc, List.nil_append, List.append_nil] at z ⊢
    exact z
  intro y61 hy61
  refine ok_app (ok_ltt (fun L63 eL63 => ?_))
  have hL63 : WV G M u fr st B c0 ((((((((((((D ++ ueT 0 (h0)) ++ ueT 0 (1)) ++ ueT 0 (0)) ++ toks 0 (h3) 8) ++ toks 0 (h5) 8) ++ toks 0 (h8) 1) ++ toks 0 (o) 1) ++ (if ((o : Nat) : Int) = (1 : Int) then (ueT 0 (h9 - 1)) else ([] : List Tok))) ++ (if ((o : Nat) : Int) = (1 : Int) then (ueT 0 (0)) else ([] : List Tok))) ++ toks 0 (0) 1) ++ toks 0 (0) 1) ++ (if ¬ h11 = (0 : Int) then (toks 0 (0) 1) else ([] : List Tok))) (n + 708) (L ++ L63) y61.2 := by
    have z := hy61
    rw [eL63]
    simp only [List.append_assoc, List.nil_append] at z ⊢
    exact z
  refine ok_drW (b := 125) hL63.1 (by decide) rfl rfl (by decide) rfl ?_
  refine ok_drW (b := 215) hL63.1 (by decide) rfl rfl (by decide) rfl ?_
  refine ok_bnd (wv_isOwn hL63 g216_18 (r := 0) rfl) ?_
  rintro y67 ⟨ey67, vy67⟩
  have hy67 : WV G M u fr st B c0 ((((((((((((D ++ ueT 0 (h0)) ++ ueT 0 (1)) ++ ueT 0 (0)) ++ toks 0 (h3) 8) ++ toks 0 (h5) 8) ++ toks 0 (h8) 1) ++ toks 0 (o) 1) ++ (if ((o : Nat) : Int) = (1 : Int) then (ueT 0 (h9 - 1)) else ([] : List Tok))) ++ (if ((o : Nat) : Int) = (1 : Int) then (ueT 0 (0)) else ([] : List Tok))) ++ toks 0 (0) 1) ++ toks 0 (0) 1) ++ (if ¬ h11 = (0 : Int) then (toks 0 (0) 1) else ([] : List Tok))) (n + 708) (L ++ L63) y67.1 := by rw [ey67]; exact hL63
  rw [if_pos (show y67.2 = (0 : Int32) from pz_eq.mpr (by rw [(show (y67.2).toInt = (0 : Int) from vy67), (show ((0 : Int32)).toInt = (0 : Int) from rfl)] <;> first | decide | omega))]
  refine ok_bnd (Q := fun y68 => WV G M u fr st B c0 ((((((((((((D ++ ueT 0 (h0)) ++ ueT 0 (1)) ++ ueT 0 (0)) ++ toks 0 (h3) 8) ++ toks 0 (h5) 8) ++ toks 0 (h8) 1) ++ toks 0 (o) 1) ++ (if ((o : Nat) : Int) = (1 : Int) then (ueT 0 (h9 - 1)) else ([] : List Tok))) ++ (if ((o : Nat) : Int) = (1 : Int) then (ueT 0 (0)) else ([] : List Tok))) ++ toks 0 (0) 1) ++ toks 0 (0) 1) ++ (if ¬ h11 = (0 : Int) then (toks 0 (0) 1) else ([] : List Tok))) (n + 708) ((L ++ L63) ++ y68.1) y68.2) ?_ ?_
  · skip
    refine ok_some ?_
    have z := hy67
    simp only [List.append_assoc, List.nil_append, List.append_nil] at z ⊢
    exact z
  intro y68 hy68
  refine ok_app (ok_ltt (fun L70 eL70 => ?_))
  have hL70 : WV G M u fr st B c0 ((((((((((((D ++ ueT 0 (h0)) ++ ueT 0 (1)) ++ ueT 0 (0)) ++ toks 0 (h3) 8) ++ toks 0 (h5) 8) ++ toks 0 (h8) 1) ++ toks 0 (o) 1) ++ (if ((o : Nat) : Int) = (1 : Int) then (ueT 0 (h9 - 1)) else ([] : List Tok))) ++ (if ((o : Nat) : Int) = (1 : Int) then (ueT 0 (0)) else ([] : List Tok))) ++ toks 0 (0) 1) ++ toks 0 (0) 1) ++ (if ¬ h11 = (0 : Int) then (toks 0 (0) 1) else ([] : List Tok))) (n + 708) (L ++ L70) y68.2 := by
    have z := hy68
    rw [eL70]
    simp only [List.append_assoc, List.nil_append] at z ⊢
    exact z
  refine ok_drW (b := 125) hL70.1 (by decide) rfl rfl (by decide) rfl ?_
  refine ok_drW (b := 220) hL70.1 (by decide) rfl rfl (by decide) rfl ?_
  refine ok_chk (by rw [wu_len hL70.1 (b := 220) (by decide) rfl]; decide) ?_
  refine ok_ltt (fun x74 ex74 => ?_)
  have vx74 : x74.toInt = (0 : Int) := by rw [ex74]; exact (congrArg Int32.toInt (wu_rd hL70.1 (by decide) rfl 1)).trans g220_1
  rw [if_neg (show ¬ (x74 = (1 : Int32)) from fun qq => absurd (pz_eq.mp qq) (by rw [(show (x74).toInt = (0 : Int) from vx74), (show ((1 : Int32)).toInt = (1 : Int) from rfl)] <;> first | decide | omega))]
  refine ok_bnd (Q := fun y75 => WV G M u fr st B c0 ((((((((((((D ++ ueT 0 (h0)) ++ ueT 0 (1)) ++ ueT 0 (0)) ++ toks 0 (h3) 8) ++ toks 0 (h5) 8) ++ toks 0 (h8) 1) ++ toks 0 (o) 1) ++ (if ((o : Nat) : Int) = (1 : Int) then (ueT 0 (h9 - 1)) else ([] : List Tok))) ++ (if ((o : Nat) : Int) = (1 : Int) then (ueT 0 (0)) else ([] : List Tok))) ++ toks 0 (0) 1) ++ toks 0 (0) 1) ++ (if ¬ h11 = (0 : Int) then (toks 0 (0) 1) else ([] : List Tok))) (n + 708) ((L ++ L70) ++ y75.1) y75.2) ?_ ?_
  · skip
    refine ok_some ?_
    have z := hL70
    simp only [List.append_assoc, List.nil_append, List.append_nil] at z ⊢
    exact z
  intro y75 hy75
  refine ok_app (ok_ltt (fun L77 eL77 => ?_))
  have hL77 : WV G M u fr st B c0 ((((((((((((D ++ ueT 0 (h0)) ++ ueT 0 (1)) ++ ueT 0 (0)) ++ toks 0 (h3) 8) ++ toks 0 (h5) 8) ++ toks 0 (h8) 1) ++ toks 0 (o) 1) ++ (if ((o : Nat) : Int) = (1 : Int) then (ueT 0 (h9 - 1)) else ([] : List Tok))) ++ (if ((o : Nat) : Int) = (1 : Int) then (ueT 0 (0)) else ([] : List Tok))) ++ toks 0 (0) 1) ++ toks 0 (0) 1) ++ (if ¬ h11 = (0 : Int) then (toks 0 (0) 1) else ([] : List Tok))) (n + 708) (L ++ L77) y75.2 := by
    have z := hy75
    rw [eL77]
    simp only [List.append_assoc, List.nil_append] at z ⊢
    exact z
  refine ok_chk (by rw [wu_len hL77.1 (b := 216) (by decide) rfl]; decide) ?_
  refine ok_ltt (fun x79 ex79 => ?_)
  have vx79 : x79.toInt = h12 := by rw [ex79]; exact (congrArg Int32.toInt (wu_rd hL77.1 (by decide) rfl 12)).trans g216_12
  refine ok_drW (b := 118) hL77.1 (by decide) rfl rfl (by decide) rfl ?_
  refine ok_chk (by rw [wu_len hL77.1 (b := 118) (by decide) rfl]; decide) ?_
  refine ok_ltt (fun x81 ex81 => ?_)
  have vx81 : x81.toInt = z := by rw [ex81]; exact (congrArg Int32.toInt (wu_rd hL77.1 (by decide) rfl 3)).trans g118_3
  refine ok_ltt (fun x82 ex82 => ?_)
  have vx82 : x82.toInt = (h12 - z) := by
    have q1 : (x79).toInt = h12 := vx79
    have q2 : (x81).toInt = z := vx81
    rw [ex82, ti_sub (by rw [q1, q2]; omega) (by rw [q1, q2]; omega), q1, q2] <;> omega
  refine ok_drW (b := 119) hL77.1 (by decide) rfl rfl (by decide) rfl ?_
  refine ok_chk (by rw [wu_ref h.1 (a := 215) (f := 0) (b := 216) (by decide) rfl rfl (by decide)]; exact okd_sm (wu_lt h.1 (by decide) _)) ?_
  refine ok_bnd (wv_se (v := h12 - z) hL77 rfl vx82 (by omega) (by omega) (by omega)) ?_
  intro y84 hy84
  have hy84 : WV G M u fr st B c0 (((((((((((((D ++ ueT 0 (h0)) ++ ueT 0 (1)) ++ ueT 0 (0)) ++ toks 0 (h3) 8) ++ toks 0 (h5) 8) ++ toks 0 (h8) 1) ++ toks 0 (o) 1) ++ (if ((o : Nat) : Int) = (1 : Int) then (ueT 0 (h9 - 1)) else ([] : List Tok))) ++ (if ((o : Nat) : Int) = (1 : Int) then (ueT 0 (0)) else ([] : List Tok))) ++ toks 0 (0) 1) ++ toks 0 (0) 1) ++ (if ¬ h11 = (0 : Int) then (toks 0 (0) 1) else ([] : List Tok))) ++ ueT 0 (sei (h12 - z))) (n + 767) ((L ++ L77) ++ y84.1) y84.2 := hy84
  refine ok_app (ok_ltt (fun L87 eL87 => ?_))
  have hL87 : WV G M u fr st B c0 (((((((((((((D ++ ueT 0 (h0)) ++ ueT 0 (1)) ++ ueT 0 (0)) ++ toks 0 (h3) 8) ++ toks 0 (h5) 8) ++ toks 0 (h8) 1) ++ toks 0 (o) 1) ++ (if ((o : Nat) : Int) = (1 : Int) then (ueT 0 (h9 - 1)) else ([] : List Tok))) ++ (if ((o : Nat) : Int) = (1 : Int) then (ueT 0 (0)) else ([] : List Tok))) ++ toks 0 (0) 1) ++ toks 0 (0) 1) ++ (if ¬ h11 = (0 : Int) then (toks 0 (0) 1) else ([] : List Tok))) ++ ueT 0 (sei (h12 - z))) (n + 767) (L ++ L87) y84.2 := by
    have z := hy84
    rw [eL87]
    simp only [List.append_assoc, List.nil_append] at z ⊢
    exact z
  refine ok_chk (by rw [wu_len hL87.1 (b := 216) (by decide) rfl]; decide) ?_
  refine ok_ltt (fun x90 ex90 => ?_)
  have vx90 : x90.toInt = ((h13 : Nat) : Int) := by rw [ex90]; exact (congrArg Int32.toInt (wu_rd hL87.1 (by decide) rfl 13)).trans g216_13
  refine ok_drW (b := 119) hL87.1 (by decide) rfl rfl (by decide) rfl ?_
  refine ok_chk (by rw [wu_ref h.1 (a := 215) (f := 0) (b := 216) (by decide) rfl rfl (by decide)]; exact okd_sm (wu_lt h.1 (by decide) _)) ?_
  refine ok_bnd (wv_ue (v := h13) hL87 rfl vx90 (by omega) (by omega)) ?_
  intro y92 hy92
  have hy92 : WV G M u fr st B c0 ((((((((((((((D ++ ueT 0 (h0)) ++ ueT 0 (1)) ++ ueT 0 (0)) ++ toks 0 (h3) 8) ++ toks 0 (h5) 8) ++ toks 0 (h8) 1) ++ toks 0 (o) 1) ++ (if ((o : Nat) : Int) = (1 : Int) then (ueT 0 (h9 - 1)) else ([] : List Tok))) ++ (if ((o : Nat) : Int) = (1 : Int) then (ueT 0 (0)) else ([] : List Tok))) ++ toks 0 (0) 1) ++ toks 0 (0) 1) ++ (if ¬ h11 = (0 : Int) then (toks 0 (0) 1) else ([] : List Tok))) ++ ueT 0 (sei (h12 - z))) ++ ueT 0 (h13)) (n + 826) ((L ++ L87) ++ y92.1) y92.2 := hy92
  refine ok_app (ok_ltt (fun L95 eL95 => ?_))
  have hL95 : WV G M u fr st B c0 ((((((((((((((D ++ ueT 0 (h0)) ++ ueT 0 (1)) ++ ueT 0 (0)) ++ toks 0 (h3) 8) ++ toks 0 (h5) 8) ++ toks 0 (h8) 1) ++ toks 0 (o) 1) ++ (if ((o : Nat) : Int) = (1 : Int) then (ueT 0 (h9 - 1)) else ([] : List Tok))) ++ (if ((o : Nat) : Int) = (1 : Int) then (ueT 0 (0)) else ([] : List Tok))) ++ toks 0 (0) 1) ++ toks 0 (0) 1) ++ (if ¬ h11 = (0 : Int) then (toks 0 (0) 1) else ([] : List Tok))) ++ ueT 0 (sei (h12 - z))) ++ ueT 0 (h13)) (n + 826) (L ++ L95) y92.2 := by
    have z := hy92
    rw [eL95]
    simp only [List.append_assoc, List.nil_append] at z ⊢
    exact z
  refine ok_chk (by rw [wu_len hL95.1 (b := 216) (by decide) rfl]; decide) ?_
  refine ok_ltt (fun x98 ex98 => ?_)
  have vx98 : x98.toInt = ((h13 : Nat) : Int) := by rw [ex98]; exact (congrArg Int32.toInt (wu_rd hL95.1 (by decide) rfl 13)).trans g216_13
  refine ok_bnd (Q := fun y99 => WV G M u fr st B c0 (((((((((((((((D ++ ueT 0 (h0)) ++ ueT 0 (1)) ++ ueT 0 (0)) ++ toks 0 (h3) 8) ++ toks 0 (h5) 8) ++ toks 0 (h8) 1) ++ toks 0 (o) 1) ++ (if ((o : Nat) : Int) = (1 : Int) then (ueT 0 (h9 - 1)) else ([] : List Tok))) ++ (if ((o : Nat) : Int) = (1 : Int) then (ueT 0 (0)) else ([] : List Tok))) ++ toks 0 (0) 1) ++ toks 0 (0) 1) ++ (if ¬ h11 = (0 : Int) then (toks 0 (0) 1) else ([] : List Tok))) ++ ueT 0 (sei (h12 - z))) ++ ueT 0 (h13)) ++ (if ¬ ((h13 : Nat) : Int) = (1 : Int) then (ueT 0 (sei (h14)) ++ (ueT 0 (sei (h15)))) else ([] : List Tok))) (n + 944) ((L ++ L95) ++ y99.1) y99.2) (ok_if ?_ ?_) ?_
  · intro hc
    have hq : (((h13 : Nat) : Int) = (1 : Int)) := by
      exact (show _ = ((h13 : Nat) : Int) from vx98).symm.trans ((congrArg Int32.toInt hc).trans (show _ = (1 : Int) from rfl))
    have hqq : ¬ (¬ ((h13 : Nat) : Int) = (1 : Int)) := by first | exact hq | (intro q; exact q hq) | omega
    refine ok_some (wv_le (n := n + 826) ?_ (by omega))
    rw [show (if ¬ ((h13 : Nat) : Int) = (1 : Int) then (ueT 0 (sei (h14)) ++ (ueT 0 (sei (h15)))) else ([] : List Tok)) = ([] : List Tok) from if_neg hqq]
    have z := hL95
    simp only [List.append_assoc, List.nil_append, List.append_nil] at z ⊢
    exact z
  · intro hc
    have hq : ¬ (((h13 : Nat) : Int) = (1 : Int)) := by
      exact fun q => hc (Int32.toInt_inj.1 (Eq.trans vx98 (Eq.trans q (Eq.symm rfl))))
    have hqq : (¬ ((h13 : Nat) : Int) = (1 : Int)) := by first | exact hq | (intro q; exact q hq) | omega
    refine ok_chk (by rw [wu_len hL95.1 (b := 216) (by decide) rfl]; decide) ?_
    refine ok_ltt (fun x120 ex120 => ?_)
    have vx120 : x120.toInt = h14 := by rw [ex120]; exact (congrArg Int32.toInt (wu_rd hL95.1 (by decide) rfl 14)).trans g216_14
    refine ok_drW (b := 119) hL95.1 (by decide) rfl rfl (by decide) rfl ?_
    refine ok_chk (by rw [wu_ref h.1 (a := 215) (f := 0) (b := 216) (by decide) rfl rfl (by decide)]; exact okd_sm (wu_lt h.1 (by decide) _)) ?_
    refine ok_bnd (wv_se (v := h14) hL95 rfl vx120 (by omega) (by omega) (by omega)) ?_
    intro y122 hy122
    have hy122 : WV G M u fr st B c0 (((((((((((((((D ++ ueT 0 (h0)) ++ ueT 0 (1)) ++ ueT 0 (0)) ++ toks 0 (h3) 8) ++ toks 0 (h5) 8) ++ toks 0 (h8) 1) ++ toks 0 (o) 1) ++ (if ((o : Nat) : Int) = (1 : Int) then (ueT 0 (h9 - 1)) else ([] : List Tok))) ++ (if ((o : Nat) : Int) = (1 : Int) then (ueT 0 (0)) else ([] : List Tok))) ++ toks 0 (0) 1) ++ toks 0 (0) 1) ++ (if ¬ h11 = (0 : Int) then (toks 0 (0) 1) else ([] : List Tok))) ++ ueT 0 (sei (h12 - z))) ++ ueT 0 (h13)) ++ ueT 0 (sei (h14))) (n + 885) ((L ++ L95) ++ y122.1) y122.2 := hy122
    refine ok_app (ok_ltt (fun L125 eL125 => ?_))
    have hL125 : WV G M u fr st B c0 (((((((((((((((D ++ ueT 0 (h0)) ++ ueT 0 (1)) ++ ueT 0 (0)) ++ toks 0 (h3) 8) ++ toks 0 (h5) 8) ++ toks 0 (h8) 1) ++ toks 0 (o) 1) ++ (if ((o : Nat) : Int) = (1 : Int) then (ueT 0 (h9 - 1)) else ([] : List Tok))) ++ (if ((o : Nat) : Int) = (1 : Int) then (ueT 0 (0)) else ([] : List Tok))) ++ toks 0 (0) 1) ++ toks 0 (0) 1) ++ (if ¬ h11 = (0 : Int) then (toks 0 (0) 1) else ([] : List Tok))) ++ ueT 0 (sei (h12 - z))) ++ ueT 0 (h13)) ++ ueT 0 (sei (h14))) (n + 885) (L ++ L125) y122.2 := by
      have z := hy122
      rw [eL125]
      simp only [List.append_assoc, List.nil_append] at z ⊢
      exact z
    refine ok_chk (by rw [wu_len hL125.1 (b := 216) (by decide) rfl]; decide) ?_
    refine ok_ltt (fun x128 ex128 => ?_)
    have vx128 : x128.toInt = h15 := by rw [ex128]; exact (congrArg Int32.toInt (wu_rd hL125.1 (by decide) rfl 15)).trans g216_15
    refine ok_drW (b := 119) hL125.1 (by decide) rfl rfl (by decide) rfl ?_
    refine ok_bnd (wv_se (v := h15) hL125 rfl vx128 (by omega) (by omega) (by omega)) ?_
    intro y130 hy130
    have hy130 : WV G M u fr st B c0 ((((((((((((((((D ++ ueT 0 (h0)) ++ ueT 0 (1)) ++ ueT 0 (0)) ++ toks 0 (h3) 8) ++ toks 0 (h5) 8) ++ toks 0 (h8) 1) ++ toks 0 (o) 1) ++ (if ((o : Nat) : Int) = (1 : Int) then (ueT 0 (h9 - 1)) else ([] : List Tok))) ++ (if ((o : Nat) : Int) = (1 : Int) then (ueT 0 (0)) else ([] : List Tok))) ++ toks 0 (0) 1) ++ toks 0 (0) 1) ++ (if ¬ h11 = (0 : Int) then (toks 0 (0) 1) else ([] : List Tok))) ++ ueT 0 (sei (h12 - z))) ++ ueT 0 (h13)) ++ ueT 0 (sei (h14))) ++ ueT 0 (sei (h15))) (n + 944) ((L ++ L125) ++ y130.1) y130.2 := hy130
    refine ok_app (ok_ltt (fun L132 eL132 => ?_))
    have hL132 : WV G M u fr st B c0 ((((((((((((((((D ++ ueT 0 (h0)) ++ ueT 0 (1)) ++ ueT 0 (0)) ++ toks 0 (h3) 8) ++ toks 0 (h5) 8) ++ toks 0 (h8) 1) ++ toks 0 (o) 1) ++ (if ((o : Nat) : Int) = (1 : Int) then (ueT 0 (h9 - 1)) else ([] : List Tok))) ++ (if ((o : Nat) : Int) = (1 : Int) then (ueT 0 (0)) else ([] : List Tok))) ++ toks 0 (0) 1) ++ toks 0 (0) 1) ++ (if ¬ h11 = (0 : Int) then (toks 0 (0) 1) else ([] : List Tok))) ++ ueT 0 (sei (h12 - z))) ++ ueT 0 (h13)) ++ ueT 0 (sei (h14))) ++ ueT 0 (sei (h15))) (n + 944) (L ++ L132) y130.2 := by
      have z := hy130
      rw [eL132]
      simp only [List.append_assoc, List.nil_append] at z ⊢
      exact z
    refine ok_some (wv_le (n := n + 944) ?_ (by omega))
    rw [show (if ¬ ((h13 : Nat) : Int) = (1 : Int) then (ueT 0 (sei (h14)) ++ (ueT 0 (sei (h15)))) else ([] : List Tok)) = (ueT 0 (sei (h14)) ++ (ueT 0 (sei (h15)))) from if_pos hqq]
    have z := hL132
    simp only [eL125, eL132, List.append_assoc, List.nil_append, List.append_nil] at z ⊢
    exact z
  intro y99 hy99
  refine ok_app (ok_ltt (fun L101 eL101 => ?_))
  have hL101 : WV G M u fr st B c0 (((((((((((((((D ++ ueT 0 (h0)) ++ ueT 0 (1)) ++ ueT 0 (0)) ++ toks 0 (h3) 8) ++ toks 0 (h5) 8) ++ toks 0 (h8) 1) ++ toks 0 (o) 1) ++ (if ((o : Nat) : Int) = (1 : Int) then (ueT 0 (h9 - 1)) else ([] : List Tok))) ++ (if ((o : Nat) : Int) = (1 : Int) then (ueT 0 (0)) else ([] : List Tok))) ++ toks 0 (0) 1) ++ toks 0 (0) 1) ++ (if ¬ h11 = (0 : Int) then (toks 0 (0) 1) else ([] : List Tok))) ++ ueT 0 (sei (h12 - z))) ++ ueT 0 (h13)) ++ (if ¬ ((h13 : Nat) : Int) = (1 : Int) then (ueT 0 (sei (h14)) ++ (ueT 0 (sei (h15)))) else ([] : List Tok))) (n + 944) (L ++ L101) y99.2 := by
    have z := hy99
    rw [eL101]
    simp only [List.append_assoc, List.nil_append] at z ⊢
    exact z
  refine ok_drW (b := 125) hL101.1 (by decide) rfl rfl (by decide) rfl ?_
  refine ok_drW (b := 220) hL101.1 (by decide) rfl rfl (by decide) rfl ?_
  refine ok_chk (by rw [wu_len hL101.1 (b := 220) (by decide) rfl]; decide) ?_
  refine ok_ltt (fun x105 ex105 => ?_)
  have vx105 : x105.toInt = (0 : Int) := by rw [ex105]; exact (congrArg Int32.toInt (wu_rd hL101.1 (by decide) rfl 1)).trans g220_1
  rw [if_neg (show ¬ (x105 = (1 : Int32)) from fun qq => absurd (pz_eq.mp qq) (by rw [(show (x105).toInt = (0 : Int) from vx105), (show ((1 : Int32)).toInt = (1 : Int) from rfl)] <;> first | decide | omega))]
  refine ok_bnd (Q := fun y106 => WV G M u fr st B c0 (((((((((((((((D ++ ueT 0 (h0)) ++ ueT 0 (1)) ++ ueT 0 (0)) ++ toks 0 (h3) 8) ++ toks 0 (h5) 8) ++ toks 0 (h8) 1) ++ toks 0 (o) 1) ++ (if ((o : Nat) : Int) = (1 : Int) then (ueT 0 (h9 - 1)) else ([] : List Tok))) ++ (if ((o : Nat) : Int) = (1 : Int) then (ueT 0 (0)) else ([] : List Tok))) ++ toks 0 (0) 1) ++ toks 0 (0) 1) ++ (if ¬ h11 = (0 : Int) then (toks 0 (0) 1) else ([] : List Tok))) ++ ueT 0 (sei (h12 - z))) ++ ueT 0 (h13)) ++ (if ¬ ((h13 : Nat) : Int) = (1 : Int) then (ueT 0 (sei (h14)) ++ (ueT 0 (sei (h15)))) else ([] : List Tok))) (n + 944) ((L ++ L101) ++ y106.1) y106.2) ?_ ?_
  · skip
    refine ok_some ?_
    have z := hL101
    simp only [List.append_assoc, List.nil_append, List.append_nil] at z ⊢
    exact z
  intro y106 hy106
  refine ok_app (ok_ltt (fun L108 eL108 => ?_))
  have hL108 : WV G M u fr st B c0 (((((((((((((((D ++ ueT 0 (h0)) ++ ueT 0 (1)) ++ ueT 0 (0)) ++ toks 0 (h3) 8) ++ toks 0 (h5) 8) ++ toks 0 (h8) 1) ++ toks 0 (o) 1) ++ (if ((o : Nat) : Int) = (1 : Int) then (ueT 0 (h9 - 1)) else ([] : List Tok))) ++ (if ((o : Nat) : Int) = (1 : Int) then (ueT 0 (0)) else ([] : List Tok))) ++ toks 0 (0) 1) ++ toks 0 (0) 1) ++ (if ¬ h11 = (0 : Int) then (toks 0 (0) 1) else ([] : List Tok))) ++ ueT 0 (sei (h12 - z))) ++ ueT 0 (h13)) ++ (if ¬ ((h13 : Nat) : Int) = (1 : Int) then (ueT 0 (sei (h14)) ++ (ueT 0 (sei (h15)))) else ([] : List Tok))) (n + 944) (L ++ L108) y106.2 := by
    have z := hy106
    rw [eL108]
    simp only [List.append_assoc, List.nil_append] at z ⊢
    exact z
  refine ok_some ?_
  have z := hL108
  simp only [eL10, eL18, eL25, eL34, eL42, eL48, eL53, eL58, eL63, eL70, eL77, eL87, eL95, eL101, eL108, List.append_assoc, List.nil_append, List.append_nil] at z ⊢
  exact z
theorem w_head11 {G : GG} {M N : DD} {u fr c0 n : Nat} {st : Nat → Nat} {B : List Nat} {D : List Tok} {L : NN} {h0 h3 h4 h5 h13 o h9 r : Nat} {h11 h12 z h14 h15 : Int} {h8 : Nat} (g118_3 : (M.1 118 3).toInt = z) (g118_7 : (M.1 118 7).toInt = ((r : Nat) : Int)) (g118_18 : (M.1 118 18).toInt = (0 : Int)) (g216_0 : (M.1 216 0).toInt = ((h0 : Nat) : Int)) (g216_1 : (M.1 216 1).toInt = (1 : Int)) (g216_3 : (M.1 216 3).toInt = ((h3 : Nat) : Int)) (g216_5 : (M.1 216 5).toInt = ((h5 : Nat) : Int)) (g216_8 : (M.1 216 8).toInt = ((h8 : Nat) : Int)) (g216_9 : (M.1 216 9).toInt = ((h9 : Nat) : Int)) (g216_11 : (M.1 216 11).toInt = h11) (g216_12 : (M.1 216 12).toInt = h12) (g216_13 : (M.1 216 13).toInt = ((h13 : Nat) : Int)) (g216_14 : (M.1 216 14).toInt = h14) (g216_15 : (M.1 216 15).toInt = h15) (g216_18 : (M.1 216 18).toInt = (1 : Int)) (g220_1 : (M.1 220 1).toInt = (1 : Int)) (b0 : h0 < 100000) (b4 : h4 < 100000) (b12 : 0 ≤ h12 ∧ h12 ≤ 100) (bz : -100 ≤ z ∧ z ≤ 100) (b13 : h13 ≤ 2) (b14 : -6 ≤ h14 ∧ h14 ≤ 6) (b15 : -6 ≤ h15 ∧ h15 ≤ 6) (ho : (o = 0 ∧ ((h9 : Nat) : Int) = ((r : Nat) : Int)) ∨ (o = 1 ∧ ¬ ((h9 : Nat) : Int) = ((r : Nat) : Int))) (b9 : 1 ≤ h9 ∧ h9 ≤ 8) (hn : n ≤ 100000) (h : WV G M u fr st B c0 D n L N) : OK (FX0_writeHeader (xt G L) N 116) (fun y => WU G M u fr st B c0 (((((((((((((((((D ++ ueT 0 (h0)) ++ ueT 0 (1)) ++ ueT 0 (0)) ++ toks 0 (h3) 8) ++ toks 0 (h5) 8) ++ toks 0 (h8) 1) ++ toks 0 (o) 1) ++ (if ((o : Nat) : Int) = (1 : Int) then (ueT 0 (h9 - 1)) else ([] : List Tok))) ++ (if ((o : Nat) : Int) = (1 : Int) then (ueT 0 (0)) else ([] : List Tok))) ++ toks 0 (0) 1) ++ toks 0 (0) 1) ++ (if ¬ h11 = (0 : Int) then (toks 0 (0) 1) else ([] : List Tok))) ++ ueT 0 (0)) ++ ueT 0 (sei (h12 - z))) ++ ueT 0 (h13)) ++ (if ¬ ((h13 : Nat) : Int) = (1 : Int) then (ueT 0 (sei (h14)) ++ (ueT 0 (sei (h15)))) else ([] : List Tok))) ++ dataT ((((((((((((((((D ++ ueT 0 (h0)) ++ ueT 0 (1)) ++ ueT 0 (0)) ++ toks 0 (h3) 8) ++ toks 0 (h5) 8) ++ toks 0 (h8) 1) ++ toks 0 (o) 1) ++ (if ((o : Nat) : Int) = (1 : Int) then (ueT 0 (h9 - 1)) else ([] : List Tok))) ++ (if ((o : Nat) : Int) = (1 : Int) then (ueT 0 (0)) else ([] : List Tok))) ++ toks 0 (0) 1) ++ toks 0 (0) 1) ++ (if ¬ h11 = (0 : Int) then (toks 0 (0) 1) else ([] : List Tok))) ++ ueT 0 (0)) ++ ueT 0 (sei (h12 - z))) ++ ueT 0 (h13)) ++ (if ¬ ((h13 : Nat) : Int) = (1 : Int) then (ueT 0 (sei (h14)) ++ (ueT 0 (sei (h15)))) else ([] : List Tok))).length) (L ++ y.1) y.2) := by
  unfold FX0_writeHeader
  simp only [xt_xt, List.append_nil]
  refine ok_drW (b := 125) h.1 (by decide) rfl rfl (by decide) rfl ?_
  refine ok_drW (b := 215) h.1 (by decide) rfl rfl (by decide) rfl ?_
  refine ok_drW (b := 216) h.1 (by decide) rfl rfl (by decide) rfl ?_
  refine ok_chk (by rw [wu_len h.1 (b := 216) (by decide) rfl]; decide) ?_
  refine ok_ltt (fun x5 ex5 => ?_)
  have vx5 : x5.toInt = ((h0 : Nat) : Int) := by rw [ex5]; exact (congrArg Int32.toInt (wu_rd h.1 (by decide) rfl 0)).trans g216_0
  refine ok_drW (b := 119) h.1 (by decide) rfl rfl (by decide) rfl ?_
  refine ok_chk (by rw [wu_ref h.1 (a := 215) (f := 0) (b := 216) (by decide) rfl rfl (by decide)]; exact okd_sm (wu_lt h.1 (by decide) _)) ?_
  refine ok_bnd (wv_ue (v := h0) h rfl vx5 (by omega) (by omega)) ?_
  intro y7 hy7
  have hy7 : WV G M u fr st B c0 (D ++ ueT 0 (h0)) (n + 59) ((L) ++ y7.1) y7.2 := hy7
  refine ok_app (ok_ltt (fun L10 eL10 => ?_))
  have hL10 : WV G M u fr st B c0 (D ++ ueT 0 (h0)) (n + 59) (L ++ L10) y7.2 := by
    have z := hy7
    rw [eL10]
    simp only [List.append_assoc, List.nil_append] at z ⊢
    exact z
  refine ok_chk (by rw [wu_len hL10.1 (b := 216) (by decide) rfl]; decide) ?_
  refine ok_ltt (fun x13 ex13 => ?_)
  have vx13 : x13.toInt = (1 : Int) := by rw [ex13]; exact (congrArg Int32.toInt (wu_rd hL10.1 (by decide) rfl 1)).trans g216_1
  refine ok_drW (b := 119) hL10.1 (by decide) rfl rfl (by decide) rfl ?_
  refine ok_chk (by rw [wu_ref h.1 (a := 215) (f := 0) (b := 216) (by decide) rfl rfl (by decide)]; exact okd_sm (wu_lt h.1 (by decide) _)) ?_
  refine ok_bnd (wv_ue (v := 1) hL10 rfl vx13 (by omega) (by omega)) ?_
  intro y15 hy15
  have hy15 : WV G M u fr st B c0 ((D ++ ueT 0 (h0)) ++ ueT 0 (1)) (n + 118) ((L ++ L10) ++ y15.1) y15.2 := hy15
  refine ok_app (ok_ltt (fun L18 eL18 => ?_))
  have hL18 : WV G M u fr st B c0 ((D ++ ueT 0 (h0)) ++ ueT 0 (1)) (n + 118) (L ++ L18) y15.2 := by
    have z := hy15
    rw [eL18]
    simp only [List.append_assoc, List.nil_append] at z ⊢
    exact z
  refine ok_drW (b := 119) hL18.1 (by decide) rfl rfl (by decide) rfl ?_
  refine ok_chk (by rw [wu_ref h.1 (a := 215) (f := 0) (b := 216) (by decide) rfl rfl (by decide)]; exact okd_sm (wu_lt h.1 (by decide) _)) ?_
  refine ok_bnd (wv_ue (v := 0) hL18 rfl rfl (by omega) (by omega)) ?_
  intro y22 hy22
  have hy22 : WV G M u fr st B c0 (((D ++ ueT 0 (h0)) ++ ueT 0 (1)) ++ ueT 0 (0)) (n + 177) ((L ++ L18) ++ y22.1) y22.2 := hy22
  refine ok_app (ok_ltt (fun L25 eL25 => ?_))
  have hL25 : WV G M u fr st B c0 (((D ++ ueT 0 (h0)) ++ ueT 0 (1)) ++ ueT 0 (0)) (n + 177) (L ++ L25) y22.2 := by
    have z := hy22
    rw [eL25]
    simp only [List.append_assoc, List.nil_append] at z ⊢
    exact z
  refine ok_chk (by rw [wu_len hL25.1 (b := 216) (by decide) rfl]; decide) ?_
  refine ok_ltt (fun x28 ex28 => ?_)
  have vx28 : x28.toInt = ((h3 : Nat) : Int) := by rw [ex28]; exact (congrArg Int32.toInt (wu_rd hL25.1 (by decide) rfl 3)).trans g216_3
  refine ok_ltt (fun x29 ex29 => ?_)
  have vx29 : x29.toInt = ((h3 : Nat) : Int) := by rw [ex29, Int32.toInt_toInt64]; exact vx28
  refine ok_drW (b := 119) hL25.1 (by decide) rfl rfl (by decide) rfl ?_
  refine ok_chk (by rw [wu_ref h.1 (a := 215) (f := 0) (b := 216) (by decide) rfl rfl (by decide)]; exact okd_sm (wu_lt h.1 (by decide) _)) ?_
  refine ok_bnd (wv_code (V := h3) (m := 8) hL25 rfl vx29 rfl (by decide) (by omega)) ?_
  intro y31 hy31
  have hy31 : WV G M u fr st B c0 ((((D ++ ueT 0 (h0)) ++ ueT 0 (1)) ++ ueT 0 (0)) ++ toks 0 (h3) 8) (n + 236) ((L ++ L25) ++ y31.1) y31.2 := hy31
  refine ok_app (ok_ltt (fun L34 eL34 => ?_))
  have hL34 : WV G M u fr st B c0 ((((D ++ ueT 0 (h0)) ++ ueT 0 (1)) ++ ueT 0 (0)) ++ toks 0 (h3) 8) (n + 236) (L ++ L34) y31.2 := by
    have z := hy31
    rw [eL34]
    simp only [List.append_assoc, List.nil_append] at z ⊢
    exact z
  refine ok_drW (b := 125) hL34.1 (by decide) rfl rfl (by decide) rfl ?_
  refine ok_drW (b := 215) hL34.1 (by decide) rfl rfl (by decide) rfl ?_
  refine ok_bnd (wv_isOwn hL34 g216_18 (r := 0) rfl) ?_
  rintro y39 ⟨ey39, vy39⟩
  have hy39 : WV G M u fr st B c0 ((((D ++ ueT 0 (h0)) ++ ueT 0 (1)) ++ ueT 0 (0)) ++ toks 0 (h3) 8) (n + 236) (L ++ L34) y39.1 := by rw [ey39]; exact hL34
  rw [if_pos (show y39.2 = (0 : Int32) from pz_eq.mpr (by rw [(show (y39.2).toInt = (0 : Int) from vy39), (show ((0 : Int32)).toInt = (0 : Int) from rfl)] <;> first | decide | omega))]
  refine ok_bnd (Q := fun y40 => WV G M u fr st B c0 ((((D ++ ueT 0 (h0)) ++ ueT 0 (1)) ++ ueT 0 (0)) ++ toks 0 (h3) 8) (n + 236) ((L ++ L34) ++ y40.1) y40.2) ?_ ?_
  · skip
    refine ok_some ?_
    have z := hy39
    simp only [List.append_assoc, List.nil_append, List.append_nil] at z ⊢
    exact z
  intro y40 hy40
  refine ok_app (ok_ltt (fun L42 eL42 => ?_))
  have hL42 : WV G M u fr st B c0 ((((D ++ ueT 0 (h0)) ++ ueT 0 (1)) ++ ueT 0 (0)) ++ toks 0 (h3) 8) (n + 236) (L ++ L42) y40.2 := by
    have z := hy40
    rw [eL42]
    simp only [List.append_assoc, List.nil_append] at z ⊢
    exact z
  refine ok_drW (b := 118) hL42.1 (by decide) rfl rfl (by decide) rfl ?_
  refine ok_chk (by rw [wu_len hL42.1 (b := 118) (by decide) rfl]; decide) ?_
  refine ok_ltt (fun x45 ex45 => ?_)
  have vx45 : x45.toInt = (0 : Int) := by rw [ex45]; exact (congrArg Int32.toInt (wu_rd hL42.1 (by decide) rfl 18)).trans g118_18
  rw [if_pos (show x45 = (0 : Int32) from pz_eq.mpr (by rw [(show (x45).toInt = (0 : Int) from vx45), (show ((0 : Int32)).toInt = (0 : Int) from rfl)] <;> first | decide | omega))]
  refine ok_bnd (Q := fun y46 => WV G M u fr st B c0 (((((D ++ ueT 0 (h0)) ++ ueT 0 (1)) ++ ueT 0 (0)) ++ toks 0 (h3) 8) ++ toks 0 (h5) 8) (n + 295) ((L ++ L42) ++ y46.1) y46.2) ?_ ?_
  · skip
    refine ok_chk (by rw [wu_len hL42.1 (b := 216) (by decide) rfl]; decide) ?_
    refine ok_ltt (fun x193 ex193 => ?_)
    have vx193 : x193.toInt = ((h5 : Nat) : Int) := by rw [ex193]; exact (congrArg Int32.toInt (wu_rd hL42.1 (by decide) rfl 5)).trans g216_5
    refine ok_ltt (fun x194 ex194 => ?_)
    have vx194 : x194.toInt = ((h5 : Nat) : Int) := by rw [ex194, Int32.toInt_toInt64]; exact vx193
    refine ok_drW (b := 119) hL42.1 (by decide) rfl rfl (by decide) rfl ?_
    refine ok_chk (by rw [wu_ref h.1 (a := 215) (f := 0) (b := 216) (by decide) rfl rfl (by decide)]; exact okd_sm (wu_lt h.1 (by decide) _)) ?_
    refine ok_bnd (wv_code (V := h5) (m := 8) hL42 rfl vx194 rfl (by decide) (by omega)) ?_
    intro y196 hy196
    have hy196 : WV G M u fr st B c0 (((((D ++ ueT 0 (h0)) ++ ueT 0 (1)) ++ ueT 0 (0)) ++ toks 0 (h3) 8) ++ toks 0 (h5) 8) (n + 295) ((L ++ L42) ++ y196.1) y196.2 := hy196
    refine ok_app (ok_ltt (fun L199 eL199 => ?_))
    have hL199 : WV G M u fr st B c0 (((((D ++ ueT 0 (h0)) ++ ueT 0 (1)) ++ ueT 0 (0)) ++ toks 0 (h3) 8) ++ toks 0 (h5) 8) (n + 295) (L ++ L199) y196.2 := by
      have z := hy196
      rw [eL199]
      simp only [List.append_assoc, List.nil_append] at z ⊢
      exact z
    refine ok_some ?_
    have z := hL199
    simp only [eL199, List.append_assoc, List.nil_append, List.append_nil] at z ⊢
    exact z
  intro y46 hy46
  refine ok_app (ok_ltt (fun L48 eL48 => ?_))
  have hL48 : WV G M u fr st B c0 (((((D ++ ueT 0 (h0)) ++ ueT 0 (1)) ++ ueT 0 (0)) ++ toks 0 (h3) 8) ++ toks 0 (h5) 8) (n + 295) (L ++ L48) y46.2 := by
    have z := hy46
    rw [eL48]
    simp only [List.append_assoc, List.nil_append] at z ⊢
    exact z
  refine ok_chk (by rw [wu_len hL48.1 (b := 216) (by decide) rfl]; decide) ?_
  refine ok_ltt (fun x50 ex50 => ?_)
  have vx50 : x50.toInt = (1 : Int) := by rw [ex50]; exact (congrArg Int32.toInt (wu_rd hL48.1 (by decide) rfl 1)).trans g216_1
  rw [if_neg (show ¬ (x50 = (2 : Int32)) from fun qq => absurd (pz_eq.mp qq) (by rw [(show (x50).toInt = (1 : Int) from vx50), (show ((2 : Int32)).toInt = (2 : Int) from rfl)] <;> first | decide | omega))]
  refine ok_bnd (Q := fun y51 => WV G M u fr st B c0 (((((((((((D ++ ueT 0 (h0)) ++ ueT 0 (1)) ++ ueT 0 (0)) ++ toks 0 (h3) 8) ++ toks 0 (h5) 8) ++ toks 0 (h8) 1) ++ toks 0 (o) 1) ++ (if ((o : Nat) : Int) = (1 : Int) then (ueT 0 (h9 - 1)) else ([] : List Tok))) ++ (if ((o : Nat) : Int) = (1 : Int) then (ueT 0 (0)) else ([] : List Tok))) ++ toks 0 (0) 1) ++ toks 0 (0) 1) (n + 649) ((L ++ L48) ++ y51.1) y51.2) ?_ ?_
  · skip
    refine ok_chk (by rw [wu_ref h.1 (a := 215) (f := 0) (b := 216) (by decide) rfl rfl (by decide)]; exact okd_sm (wu_lt h.1 (by decide) _)) ?_
    refine ok_bnd (w_lists1 (D := (((((D ++ ueT 0 (h0)) ++ ueT 0 (1)) ++ ueT 0 (0)) ++ toks 0 (h3) 8) ++ toks 0 (h5) 8)) (n := n + 295) g118_7 g216_1 g216_8 g216_9 ho b9 (by omega) hL48) ?_
    intro y185 hy185
    have hy185 : WV G M u fr st B c0 (((((((((((D ++ ueT 0 (h0)) ++ ueT 0 (1)) ++ ueT 0 (0)) ++ toks 0 (h3) 8) ++ toks 0 (h5) 8) ++ toks 0 (h8) 1) ++ toks 0 (o) 1) ++ (if ((o : Nat) : Int) = (1 : Int) then (ueT 0 (h9 - 1)) else ([] : List Tok))) ++ (if ((o : Nat) : Int) = (1 : Int) then (ueT 0 (0)) else ([] : List Tok))) ++ toks 0 (0) 1) ++ toks 0 (0) 1) (n + 649) ((L ++ L48) ++ y185.1) y185.2 := wv_le hy185 (by omega)
    refine ok_app (ok_ltt (fun L188 eL188 => ?_))
    have hL188 : WV G M u fr st B c0 (((((((((((D ++ ueT 0 (h0)) ++ ueT 0 (1)) ++ ueT 0 (0)) ++ toks 0 (h3) 8) ++ toks 0 (h5) 8) ++ toks 0 (h8) 1) ++ toks 0 (o) 1) ++ (if ((o : Nat) : Int) = (1 : Int) then (ueT 0 (h9 - 1)) else ([] : List Tok))) ++ (if ((o : Nat) : Int) = (1 : Int) then (ueT 0 (0)) else ([] : List Tok))) ++ toks 0 (0) 1) ++ toks 0 (0) 1) (n + 649) (L ++ L188) y185.2 := by
      have z := hy185
      rw [eL188]
      simp only [List.append_assoc, List.nil_append] at z ⊢
      exact z
    refine ok_some ?_
    have z := hL188
    simp only [eL188, List.append_assoc, List.nil_append, List.append_nil] at z ⊢
    exact z
  intro y51 hy51
  refine ok_app (ok_ltt (fun L53 eL53 => ?_))
  have hL53 : WV G M u fr st B c0 (((((((((((D ++ ueT 0 (h0)) ++ ueT 0 (1)) ++ ueT 0 (0)) ++ toks 0 (h3) 8) ++ toks 0 (h5) 8) ++ toks 0 (h8) 1) ++ toks 0 (o) 1) ++ (if ((o : Nat) : Int) = (1 : Int) then (ueT 0 (h9 - 1)) else ([] : List Tok))) ++ (if ((o : Nat) : Int) = (1 : Int) then (ueT 0 (0)) else ([] : List Tok))) ++ toks 0 (0) 1) ++ toks 0 (0) 1) (n + 649) (L ++ L53) y51.2 := by
    have z := hy51
    rw [eL53]
    simp only [List.append_assoc, List.nil_append] at z ⊢
    exact z
  refine ok_chk (by rw [wu_len hL53.1 (b := 216) (by decide) rfl]; decide) ?_
  refine ok_ltt (fun x55 ex55 => ?_)
  have vx55 : x55.toInt = (1 : Int) := by rw [ex55]; exact (congrArg Int32.toInt (wu_rd hL53.1 (by decide) rfl 1)).trans g216_1
  rw [if_neg (show ¬ (x55 = (0 : Int32)) from fun qq => absurd (pz_eq.mp qq) (by rw [(show (x55).toInt = (1 : Int) from vx55), (show ((0 : Int32)).toInt = (0 : Int) from rfl)] <;> first | decide | omega))]
  refine ok_bnd (Q := fun y56 => WV G M u fr st B c0 (((((((((((D ++ ueT 0 (h0)) ++ ueT 0 (1)) ++ ueT 0 (0)) ++ toks 0 (h3) 8) ++ toks 0 (h5) 8) ++ toks 0 (h8) 1) ++ toks 0 (o) 1) ++ (if ((o : Nat) : Int) = (1 : Int) then (ueT 0 (h9 - 1)) else ([] : List Tok))) ++ (if ((o : Nat) : Int) = (1 : Int) then (ueT 0 (0)) else ([] : List Tok))) ++ toks 0 (0) 1) ++ toks 0 (0) 1) (n + 649) ((L ++ L53) ++ y56.1) y56.2) ?_ ?_
  · skip
    refine ok_some ?_
    have z := hL53
    simp only [List.append_assoc, List.nil_append, List.append_nil] at z ⊢
    exact z
  intro y56 hy56
  refine ok_app (ok_ltt (fun L58 eL58 => ?_))
  have hL58 : WV G M u fr st B c0 (((((((((((D ++ ueT 0 (h0)) ++ ueT 0 (1)) ++ ueT 0 (0)) ++ toks 0 (h3) 8) ++ toks 0 (h5) 8) ++ toks 0 (h8) 1) ++ toks 0 (o) 1) ++ (if ((o : Nat) : Int) = (1 : Int) then (ueT 0 (h9 - 1)) else ([] : List Tok))) ++ (if ((o : Nat) : Int) = (1 : Int) then (ueT 0 (0)) else ([] : List Tok))) ++ toks 0 (0) 1) ++ toks 0 (0) 1) (n + 649) (L ++ L58) y56.2 := by
    have z := hy56
    rw [eL58]
    simp only [List.append_assoc, List.nil_append] at z ⊢
    exact z
  refine ok_chk (by rw [wu_len hL58.1 (b := 216) (by decide) rfl]; decide) ?_
  refine ok_ltt (fun x60 ex60 => ?_)
  have vx60 : x60.toInt = h11 := by rw [ex60]; exact (congrArg Int32.toInt (wu_rd hL58.1 (by decide) rfl 11)).trans g216_11
  refine ok_bnd (Q := fun y61 => WV G M u fr st B c0 ((((((((((((D ++ ueT 0 (h0)) ++ ueT 0 (1)) ++ ueT 0 (0)) ++ toks 0 (h3) 8) ++ toks 0 (h5) 8) ++ toks 0 (h8) 1) ++ toks 0 (o) 1) ++ (if ((o : Nat) : Int) = (1 : Int) then (ueT 0 (h9 - 1)) else ([] : List Tok))) ++ (if ((o : Nat) : Int) = (1 : Int) then (ueT 0 (0)) else ([] : List Tok))) ++ toks 0 (0) 1) ++ toks 0 (0) 1) ++ (if ¬ h11 = (0 : Int) then (toks 0 (0) 1) else ([] : List Tok))) (n + 708) ((L ++ L58) ++ y61.1) y61.2) (ok_if ?_ ?_) ?_
  · intro hc
    have hq : (h11 = (0 : Int)) := by
      exact (show _ = h11 from vx60).symm.trans ((congrArg Int32.toInt hc).trans (show _ = (0 : Int) from rfl))
    have hqq : ¬ (¬ h11 = (0 : Int)) := by first | exact hq | (intro q; exact q hq) | omega
    refine ok_some (wv_le (n := n + 649) ?_ (by omega))
    rw [show (if ¬ h11 = (0 : Int) then (toks 0 (0) 1) else ([] : List Tok)) = ([] : List Tok) from if_neg hqq]
    have z := hL58
    simp only [List.append_assoc, List.nil_append, List.append_nil] at z ⊢
    exact z
  · intro hc
    have hq : ¬ (h11 = (0 : Int)) := by
      exact fun q => hc (Int32.toInt_inj.1 (Eq.trans vx60 (Eq.trans q (Eq.symm rfl))))
    have hqq : (¬ h11 = (0 : Int)) := by first | exact hq | (intro q; exact q hq) | omega
    refine ok_chk (by rw [wu_ref h.1 (a := 215) (f := 0) (b := 216) (by decide) rfl rfl (by decide)]; exact okd_sm (wu_lt h.1 (by decide) _)) ?_
    refine ok_bnd (wv_flag (V := 0) hL58 rfl (by omega)) ?_
    intro y161 hy161
    have hy161 : WV G M u fr st B c0 ((((((((((((D ++ ueT 0 (h0)) ++ ueT 0 (1)) ++ ueT 0 (0)) ++ toks 0 (h3) 8) ++ toks 0 (h5) 8) ++ toks 0 (h8) 1) ++ toks 0 (o) 1) ++ (if ((o : Nat) : Int) = (1 : Int) then (ueT 0 (h9 - 1)) else ([] : List Tok))) ++ (if ((o : Nat) : Int) = (1 : Int) then (ueT 0 (0)) else ([] : List Tok))) ++ toks 0 (0) 1) ++ toks 0 (0) 1) ++ toks 0 (0) 1) (n + 708) ((L ++ L58) ++ y161.1) y161.2 := hy161
    refine ok_app (ok_ltt (fun L164 eL164 => ?_))
    have hL164 : WV G M u fr st B c0 ((((((((((((D ++ ueT 0 (h0)) ++ ueT 0 (1)) ++ ueT 0 (0)) ++ toks 0 (h3) 8) ++ toks 0 (h5) 8) ++ toks 0 (h8) 1) ++ toks 0 (o) 1) ++ (if ((o : Nat) : Int) = (1 : Int) then (ueT 0 (h9 - 1)) else ([] : List Tok))) ++ (if ((o : Nat) : Int) = (1 : Int) then (ueT 0 (0)) else ([] : List Tok))) ++ toks 0 (0) 1) ++ toks 0 (0) 1) ++ toks 0 (0) 1) (n + 708) (L ++ L164) y161.2 := by
      have z := hy161
      rw [eL164]
      simp only [List.append_assoc, List.nil_append] at z ⊢
      exact z
    refine ok_some (wv_le (n := n + 708) ?_ (by omega))
    rw [show (if ¬ h11 = (0 : Int) then (toks 0 (0) 1) else ([] : List Tok)) = (toks 0 (0) 1) from if_pos hqq]
    have z := hL164
    simp only [eL164, List.append_assoc, List.nil_append, List.append_nil] at z ⊢
    exact z
  intro y61 hy61
  refine ok_app (ok_ltt (fun L63 eL63 => ?_))
  have hL63 : WV G M u fr st B c0 ((((((((((((D ++ ueT 0 (h0)) ++ ueT 0 (1)) ++ ueT 0 (0)) ++ toks 0 (h3) 8) ++ toks 0 (h5) 8) ++ toks 0 (h8) 1) ++ toks 0 (o) 1) ++ (if ((o : Nat) : Int) = (1 : Int) then (ueT 0 (h9 - 1)) else ([] : List Tok))) ++ (if ((o : Nat) : Int) = (1 : Int) then (ueT 0 (0)) else ([] : List Tok))) ++ toks 0 (0) 1) ++ toks 0 (0) 1) ++ (if ¬ h11 = (0 : Int) then (toks 0 (0) 1) else ([] : List Tok))) (n + 708) (L ++ L63) y61.2 := by
    have z := hy61
    rw [eL63]
    simp only [List.append_assoc, List.nil_append] at z ⊢
    exact z
  refine ok_drW (b := 125) hL63.1 (by decide) rfl rfl (by decide) rfl ?_
  refine ok_drW (b := 215) hL63.1 (by decide) rfl rfl (by decide) rfl ?_
  refine ok_bnd (wv_isOwn hL63 g216_18 (r := 0) rfl) ?_
  rintro y67 ⟨ey67, vy67⟩
  have hy67 : WV G M u fr st B c0 ((((((((((((D ++ ueT 0 (h0)) ++ ueT 0 (1)) ++ ueT 0 (0)) ++ toks 0 (h3) 8) ++ toks 0 (h5) 8) ++ toks 0 (h8) 1) ++ toks 0 (o) 1) ++ (if ((o : Nat) : Int) = (1 : Int) then (ueT 0 (h9 - 1)) else ([] : List Tok))) ++ (if ((o : Nat) : Int) = (1 : Int) then (ueT 0 (0)) else ([] : List Tok))) ++ toks 0 (0) 1) ++ toks 0 (0) 1) ++ (if ¬ h11 = (0 : Int) then (toks 0 (0) 1) else ([] : List Tok))) (n + 708) (L ++ L63) y67.1 := by rw [ey67]; exact hL63
  rw [if_pos (show y67.2 = (0 : Int32) from pz_eq.mpr (by rw [(show (y67.2).toInt = (0 : Int) from vy67), (show ((0 : Int32)).toInt = (0 : Int) from rfl)] <;> first | decide | omega))]
  refine ok_bnd (Q := fun y68 => WV G M u fr st B c0 ((((((((((((D ++ ueT 0 (h0)) ++ ueT 0 (1)) ++ ueT 0 (0)) ++ toks 0 (h3) 8) ++ toks 0 (h5) 8) ++ toks 0 (h8) 1) ++ toks 0 (o) 1) ++ (if ((o : Nat) : Int) = (1 : Int) then (ueT 0 (h9 - 1)) else ([] : List Tok))) ++ (if ((o : Nat) : Int) = (1 : Int) then (ueT 0 (0)) else ([] : List Tok))) ++ toks 0 (0) 1) ++ toks 0 (0) 1) ++ (if ¬ h11 = (0 : Int) then (toks 0 (0) 1) else ([] : List Tok))) (n + 708) ((L ++ L63) ++ y68.1) y68.2) ?_ ?_
  · skip
    refine ok_some ?_
    have z := hy67
    simp only [List.append_assoc, List.nil_append, List.append_nil] at z ⊢
    exact z
  intro y68 hy68
  refine ok_app (ok_ltt (fun L70 eL70 => ?_))
  have hL70 : WV G M u fr st B c0 ((((((((((((D ++ ueT 0 (h0)) ++ ueT 0 (1)) ++ ueT 0 (0)) ++ toks 0 (h3) 8) ++ toks 0 (h5) 8) ++ toks 0 (h8) 1) ++ toks 0 (o) 1) ++ (if ((o : Nat) : Int) = (1 : Int) then (ueT 0 (h9 - 1)) else ([] : List Tok))) ++ (if ((o : Nat) : Int) = (1 : Int) then (ueT 0 (0)) else ([] : List Tok))) ++ toks 0 (0) 1) ++ toks 0 (0) 1) ++ (if ¬ h11 = (0 : Int) then (toks 0 (0) 1) else ([] : List Tok))) (n + 708) (L ++ L70) y68.2 := by
    have z := hy68
    rw [eL70]
    simp only [List.append_assoc, List.nil_append] at z ⊢
    exact z
  refine ok_drW (b := 125) hL70.1 (by decide) rfl rfl (by decide) rfl ?_
  refine ok_drW (b := 220) hL70.1 (by decide) rfl rfl (by decide) rfl ?_
  refine ok_chk (by rw [wu_len hL70.1 (b := 220) (by decide) rfl]; decide) ?_
  refine ok_ltt (fun x74 ex74 => ?_)
  have vx74 : x74.toInt = (1 : Int) := by rw [ex74]; exact (congrArg Int32.toInt (wu_rd hL70.1 (by decide) rfl 1)).trans g220_1
  rw [if_pos (show x74 = (1 : Int32) from pz_eq.mpr (by rw [(show (x74).toInt = (1 : Int) from vx74), (show ((1 : Int32)).toInt = (1 : Int) from rfl)] <;> first | decide | omega))]
  refine ok_bnd (Q := fun y75 => WV G M u fr st B c0 (((((((((((((D ++ ueT 0 (h0)) ++ ueT 0 (1)) ++ ueT 0 (0)) ++ toks 0 (h3) 8) ++ toks 0 (h5) 8) ++ toks 0 (h8) 1) ++ toks 0 (o) 1) ++ (if ((o : Nat) : Int) = (1 : Int) then (ueT 0 (h9 - 1)) else ([] : List Tok))) ++ (if ((o : Nat) : Int) = (1 : Int) then (ueT 0 (0)) else ([] : List Tok))) ++ toks 0 (0) 1) ++ toks 0 (0) 1) ++ (if ¬ h11 = (0 : Int) then (toks 0 (0) 1) else ([] : List Tok))) ++ ueT 0 (0)) (n + 767) ((L ++ L70) ++ y75.1) y75.2) ?_ ?_
  · skip
    refine ok_chk (by rw [wu_len hL70.1 (b := 216) (by decide) rfl]; decide) ?_
    refine ok_ltt (fun x137 ex137 => ?_)
    have vx137 : x137.toInt = (1 : Int) := by rw [ex137]; exact (congrArg Int32.toInt (wu_rd hL70.1 (by decide) rfl 1)).trans g216_1
    rw [if_neg (show ¬ (x137 = (2 : Int32)) from fun qq => absurd (pz_eq.mp qq) (by rw [(show (x137).toInt = (1 : Int) from vx137), (show ((2 : Int32)).toInt = (2 : Int) from rfl)] <;> first | decide | omega))]
    refine ok_bnd (Q := fun y138 => WV G M u fr st B c0 (((((((((((((D ++ ueT 0 (h0)) ++ ueT 0 (1)) ++ ueT 0 (0)) ++ toks 0 (h3) 8) ++ toks 0 (h5) 8) ++ toks 0 (h8) 1) ++ toks 0 (o) 1) ++ (if ((o : Nat) : Int) = (1 : Int) then (ueT 0 (h9 - 1)) else ([] : List Tok))) ++ (if ((o : Nat) : Int) = (1 : Int) then (ueT 0 (0)) else ([] : List Tok))) ++ toks 0 (0) 1) ++ toks 0 (0) 1) ++ (if ¬ h11 = (0 : Int) then (toks 0 (0) 1) else ([] : List Tok))) ++ ueT 0 (0)) (n + 767) ((L ++ L70) ++ y138.1) y138.2) ?_ ?_
    · skip
      refine ok_drW (b := 119) hL70.1 (by decide) rfl rfl (by decide) rfl ?_
      refine ok_chk (by rw [wu_ref h.1 (a := 215) (f := 0) (b := 216) (by decide) rfl rfl (by decide)]; exact okd_sm (wu_lt h.1 (by decide) _)) ?_
      refine ok_bnd (wv_ue (v := 0) hL70 rfl rfl (by omega) (by omega)) ?_
      intro y145 hy145
      have hy145 : WV G M u fr st B c0 (((((((((((((D ++ ueT 0 (h0)) ++ ueT 0 (1)) ++ ueT 0 (0)) ++ toks 0 (h3) 8) ++ toks 0 (h5) 8) ++ toks 0 (h8) 1) ++ toks 0 (o) 1) ++ (if ((o : Nat) : Int) = (1 : Int) then (ueT 0 (h9 - 1)) else ([] : List Tok))) ++ (if ((o : Nat) : Int) = (1 : Int) then (ueT 0 (0)) else ([] : List Tok))) ++ toks 0 (0) 1) ++ toks 0 (0) 1) ++ (if ¬ h11 = (0 : Int) then (toks 0 (0) 1) else ([] : List Tok))) ++ ueT 0 (0)) (n + 767) ((L ++ L70) ++ y145.1) y145.2 := hy145
      refine ok_app (ok_ltt (fun L148 eL148 => ?_))
      have hL148 : WV G M u fr st B c0 (((((((((((((D ++ ueT 0 (h0)) ++ ueT 0 (1)) ++ ueT 0 (0)) ++ toks 0 (h3) 8) ++ toks 0 (h5) 8) ++ toks 0 (h8) 1) ++ toks 0 (o) 1) ++ (if ((o : Nat) : Int) = (1 : Int) then (ueT 0 (h9 - 1)) else ([] : List Tok))) ++ (if ((o : Nat) : Int) = (1 : Int) then (ueT 0 (0)) else ([] : List Tok))) ++ toks 0 (0) 1) ++ toks 0 (0) 1) ++ (if ¬ h11 = (0 : Int) then (toks 0 (0) 1) else ([] : List Tok))) ++ ueT 0 (0)) (n + 767) (L ++ L148) y145.2 := by
        have z := hy145
        rw [eL148]
        simp only [List.append_assoc, List.nil_append] at z ⊢
        exact z
      refine ok_some ?_
      have z := hL148
      simp only [eL148, List.append_assoc, List.nil_append, List.append_nil] at z ⊢
      exact z
    intro y138 hy138
    refine ok_app (ok_ltt (fun L140 eL140 => ?_))
    have hL140 : WV G M u fr st B c0 (((((((((((((D ++ ueT 0 (h0)) ++ ueT 0 (1)) ++ ueT 0 (0)) ++ toks 0 (h3) 8) ++ toks 0 (h5) 8) ++ toks 0 (h8) 1) ++ toks 0 (o) 1) ++ (if ((o : Nat) : Int) = (1 : Int) then (ueT 0 (h9 - 1)) else ([] : List Tok))) ++ (if ((o : Nat) : Int) = (1 : Int) then (ueT 0 (0)) else ([] : List Tok))) ++ toks 0 (0) 1) ++ toks 0 (0) 1) ++ (if ¬ h11 = (0 : Int) then (toks 0 (0) 1) else ([] : List Tok))) ++ ueT 0 (0)) (n + 767) (L ++ L140) y138.2 := by
      have z := hy138
      rw [eL140]
      simp only [List.append_assoc, List.nil_append] at z ⊢
      exact z
    refine ok_some ?_
    have z := hL140
    simp only [eL140, List.append_assoc, List.nil_append, List.append_nil] at z ⊢
    exact z
  intro y75 hy75
  refine ok_app (ok_ltt (fun L77 eL77 => ?_))
  have hL77 : WV G M u fr st B c0 (((((((((((((D ++ ueT 0 (h0)) ++ ueT 0 (1)) ++ ueT 0 (0)) ++ toks 0 (h3) 8) ++ toks 0 (h5) 8) ++ toks 0 (h8) 1) ++ toks 0 (o) 1) ++ (if ((o : Nat) : Int) = (1 : Int) then (ueT 0 (h9 - 1)) else ([] : List Tok))) ++ (if ((o : Nat) : Int) = (1 : Int) then (ueT 0 (0)) else ([] : List Tok))) ++ toks 0 (0) 1) ++ toks 0 (0) 1) ++ (if ¬ h11 = (0 : Int) then (toks 0 (0) 1) else ([] : List Tok))) ++ ueT 0 (0)) (n + 767) (L ++ L77) y75.2 := by
    have z := hy75
    rw [eL77]
    simp only [List.append_assoc, List.nil_append] at z ⊢
    exact z
  refine ok_chk (by rw [wu_len hL77.1 (b := 216) (by decide) rfl]; decide) ?_
  refine ok_ltt (fun x79 ex79 => ?_)
  have vx79 : x79.toInt = h12 := by rw [ex79]; exact (congrArg Int32.toInt (wu_rd hL77.1 (by decide) rfl 12)).trans g216_12
  refine ok_drW (b := 118) hL77.1 (by decide) rfl rfl (by decide) rfl ?_
  refine ok_chk (by rw [wu_len hL77.1 (b := 118) (by decide) rfl]; decide) ?_
  refine ok_ltt (fun x81 ex81 => ?_)
  have vx81 : x81.toInt = z := by rw [ex81]; exact (congrArg Int32.toInt (wu_rd hL77.1 (by decide) rfl 3)).trans g118_3
  refine ok_ltt (fun x82 ex82 => ?_)
  have vx82 : x82.toInt = (h12 - z) := by
    have q1 : (x79).toInt = h12 := vx79
    have q2 : (x81).toInt = z := vx81
    rw [ex82, ti_sub (by rw [q1, q2]; omega) (by rw [q1, q2]; omega), q1, q2] <;> omega
  refine ok_drW (b := 119) hL77.1 (by decide) rfl rfl (by decide) rfl ?_
  refine ok_chk (by rw [wu_ref h.1 (a := 215) (f := 0) (b := 216) (by decide) rfl rfl (by decide)]; exact okd_sm (wu_lt h.1 (by decide) _)) ?_
  refine ok_bnd (wv_se (v := h12 - z) hL77 rfl vx82 (by omega) (by omega) (by omega)) ?_
  intro y84 hy84
  have hy84 : WV G M u fr st B c0 ((((((((((((((D ++ ueT 0 (h0)) ++ ueT 0 (1)) ++ ueT 0 (0)) ++ toks 0 (h3) 8) ++ toks 0 (h5) 8) ++ toks 0 (h8) 1) ++ toks 0 (o) 1) ++ (if ((o : Nat) : Int) = (1 : Int) then (ueT 0 (h9 - 1)) else ([] : List Tok))) ++ (if ((o : Nat) : Int) = (1 : Int) then (ueT 0 (0)) else ([] : List Tok))) ++ toks 0 (0) 1) ++ toks 0 (0) 1) ++ (if ¬ h11 = (0 : Int) then (toks 0 (0) 1) else ([] : List Tok))) ++ ueT 0 (0)) ++ ueT 0 (sei (h12 - z))) (n + 826) ((L ++ L77) ++ y84.1) y84.2 := hy84
  refine ok_app (ok_ltt (fun L87 eL87 => ?_))
  have hL87 : WV G M u fr st B c0 ((((((((((((((D ++ ueT 0 (h0)) ++ ueT 0 (1)) ++ ueT 0 (0)) ++ toks 0 (h3) 8) ++ toks 0 (h5) 8) ++ toks 0 (h8) 1) ++ toks 0 (o) 1) ++ (if ((o : Nat) : Int) = (1 : Int) then (ueT 0 (h9 - 1)) else ([] : List Tok))) ++ (if ((o : Nat) : Int) = (1 : Int) then (ueT 0 (0)) else ([] : List Tok))) ++ toks 0 (0) 1) ++ toks 0 (0) 1) ++ (if ¬ h11 = (0 : Int) then (toks 0 (0) 1) else ([] : List Tok))) ++ ueT 0 (0)) ++ ueT 0 (sei (h12 - z))) (n + 826) (L ++ L87) y84.2 := by
    have z := hy84
    rw [eL87]
    simp only [List.append_assoc, List.nil_append] at z ⊢
    exact z
  refine ok_chk (by rw [wu_len hL87.1 (b := 216) (by decide) rfl]; decide) ?_
  refine ok_ltt (fun x90 ex90 => ?_)
  have vx90 : x90.toInt = ((h13 : Nat) : Int) := by rw [ex90]; exact (congrArg Int32.toInt (wu_rd hL87.1 (by decide) rfl 13)).trans g216_13
  refine ok_drW (b := 119) hL87.1 (by decide) rfl rfl (by decide) rfl ?_
  refine ok_chk (by rw [wu_ref h.1 (a := 215) (f := 0) (b := 216) (by decide) rfl rfl (by decide)]; exact okd_sm (wu_lt h.1 (by decide) _)) ?_
  refine ok_bnd (wv_ue (v := h13) hL87 rfl vx90 (by omega) (by omega)) ?_
  intro y92 hy92
  have hy92 : WV G M u fr st B c0 (((((((((((((((D ++ ueT 0 (h0)) ++ ueT 0 (1)) ++ ueT 0 (0)) ++ toks 0 (h3) 8) ++ toks 0 (h5) 8) ++ toks 0 (h8) 1) ++ toks 0 (o) 1) ++ (if ((o : Nat) : Int) = (1 : Int) then (ueT 0 (h9 - 1)) else ([] : List Tok))) ++ (if ((o : Nat) : Int) = (1 : Int) then (ueT 0 (0)) else ([] : List Tok))) ++ toks 0 (0) 1) ++ toks 0 (0) 1) ++ (if ¬ h11 = (0 : Int) then (toks 0 (0) 1) else ([] : List Tok))) ++ ueT 0 (0)) ++ ueT 0 (sei (h12 - z))) ++ ueT 0 (h13)) (n + 885) ((L ++ L87) ++ y92.1) y92.2 := hy92
  refine ok_app (ok_ltt (fun L95 eL95 => ?_))
  have hL95 : WV G M u fr st B c0 (((((((((((((((D ++ ueT 0 (h0)) ++ ueT 0 (1)) ++ ueT 0 (0)) ++ toks 0 (h3) 8) ++ toks 0 (h5) 8) ++ toks 0 (h8) 1) ++ toks 0 (o) 1) ++ (if ((o : Nat) : Int) = (1 : Int) then (ueT 0 (h9 - 1)) else ([] : List Tok))) ++ (if ((o : Nat) : Int) = (1 : Int) then (ueT 0 (0)) else ([] : List Tok))) ++ toks 0 (0) 1) ++ toks 0 (0) 1) ++ (if ¬ h11 = (0 : Int) then (toks 0 (0) 1) else ([] : List Tok))) ++ ueT 0 (0)) ++ ueT 0 (sei (h12 - z))) ++ ueT 0 (h13)) (n + 885) (L ++ L95) y92.2 := by
    have z := hy92
    rw [eL95]
    simp only [List.append_assoc, List.nil_append] at z ⊢
    exact z
  refine ok_chk (by rw [wu_len hL95.1 (b := 216) (by decide) rfl]; decide) ?_
  refine ok_ltt (fun x98 ex98 => ?_)
  have vx98 : x98.toInt = ((h13 : Nat) : Int) := by rw [ex98]; exact (congrArg Int32.toInt (wu_rd hL95.1 (by decide) rfl 13)).trans g216_13
  refine ok_bnd (Q := fun y99 => WV G M u fr st B c0 ((((((((((((((((D ++ ueT 0 (h0)) ++ ueT 0 (1)) ++ ueT 0 (0)) ++ toks 0 (h3) 8) ++ toks 0 (h5) 8) ++ toks 0 (h8) 1) ++ toks 0 (o) 1) ++ (if ((o : Nat) : Int) = (1 : Int) then (ueT 0 (h9 - 1)) else ([] : List Tok))) ++ (if ((o : Nat) : Int) = (1 : Int) then (ueT 0 (0)) else ([] : List Tok))) ++ toks 0 (0) 1) ++ toks 0 (0) 1) ++ (if ¬ h11 = (0 : Int) then (toks 0 (0) 1) else ([] : List Tok))) ++ ueT 0 (0)) ++ ueT 0 (sei (h12 - z))) ++ ueT 0 (h13)) ++ (if ¬ ((h13 : Nat) : Int) = (1 : Int) then (ueT 0 (sei (h14)) ++ (ueT 0 (sei (h15)))) else ([] : List Tok))) (n + 1003) ((L ++ L95) ++ y99.1) y99.2) (ok_if ?_ ?_) ?_
  · intro hc
    have hq : (((h13 : Nat) : Int) = (1 : Int)) := by
      exact (show _ = ((h13 : Nat) : Int) from vx98).symm.trans ((congrArg Int32.toInt hc).trans (show _ = (1 : Int) from rfl))
    have hqq : ¬ (¬ ((h13 : Nat) : Int) = (1 : Int)) := by first | exact hq | (intro q; exact q hq) | omega
    refine ok_some (wv_le (n := n + 885) ?_ (by omega))
    rw [show (if ¬ ((h13 : Nat) : Int) = (1 : Int) then (ueT 0 (sei (h14)) ++ (ueT 0 (sei (h15)))) else ([] : List Tok)) = ([] : List Tok) from if_neg hqq]
    have z := hL95
    simp only [List.append_assoc, List.nil_append, List.append_nil] at z ⊢
    exact z
  · intro hc
    have hq : ¬ (((h13 : Nat) : Int) = (1 : Int)) := by
      exact fun q => hc (Int32.toInt_inj.1 (Eq.trans vx98 (Eq.trans q (Eq.symm rfl))))
    have hqq : (¬ ((h13 : Nat) : Int) = (1 : Int)) := by first | exact hq | (intro q; exact q hq) | omega
    refine ok_chk (by rw [wu_len hL95.1 (b := 216) (by decide) rfl]; decide) ?_
    refine ok_ltt (fun x120 ex120 => ?_)
    have vx120 : x120.toInt = h14 := by rw [ex120]; exact (congrArg Int32.toInt (wu_rd hL95.1 (by decide) rfl 14)).trans g216_14
    refine ok_drW (b := 119) hL95.1 (by decide) rfl rfl (by decide) rfl ?_
    refine ok_chk (by rw [wu_ref h.1 (a := 215) (f := 0) (b := 216) (by decide) rfl rfl (by decide)]; exact okd_sm (wu_lt h.1 (by decide) _)) ?_
    refine ok_bnd (wv_se (v := h14) hL95 rfl vx120 (by omega) (by omega) (by omega)) ?_
    intro y122 hy122
    have hy122 : WV G M u fr st B c0 ((((((((((((((((D ++ ueT 0 (h0)) ++ ueT 0 (1)) ++ ueT 0 (0)) ++ toks 0 (h3) 8) ++ toks 0 (h5) 8) ++ toks 0 (h8) 1) ++ toks 0 (o) 1) ++ (if ((o : Nat) : Int) = (1 : Int) then (ueT 0 (h9 - 1)) else ([] : List Tok))) ++ (if ((o : Nat) : Int) = (1 : Int) then (ueT 0 (0)) else ([] : List Tok))) ++ toks 0 (0) 1) ++ toks 0 (0) 1) ++ (if ¬ h11 = (0 : Int) then (toks 0 (0) 1) else ([] : List Tok))) ++ ueT 0 (0)) ++ ueT 0 (sei (h12 - z))) ++ ueT 0 (h13)) ++ ueT 0 (sei (h14))) (n + 944) ((L ++ L95) ++ y122.1) y122.2 := hy122
    refine ok_app (ok_ltt (fun L125 eL125 => ?_))
    have hL125 : WV G M u fr st B c0 ((((((((((((((((D ++ ueT 0 (h0)) ++ ueT 0 (1)) ++ ueT 0 (0)) ++ toks 0 (h3) 8) ++ toks 0 (h5) 8) ++ toks 0 (h8) 1) ++ toks 0 (o) 1) ++ (if ((o : Nat) : Int) = (1 : Int) then (ueT 0 (h9 - 1)) else ([] : List Tok))) ++ (if ((o : Nat) : Int) = (1 : Int) then (ueT 0 (0)) else ([] : List Tok))) ++ toks 0 (0) 1) ++ toks 0 (0) 1) ++ (if ¬ h11 = (0 : Int) then (toks 0 (0) 1) else ([] : List Tok))) ++ ueT 0 (0)) ++ ueT 0 (sei (h12 - z))) ++ ueT 0 (h13)) ++ ueT 0 (sei (h14))) (n + 944) (L ++ L125) y122.2 := by
      have z := hy122
      rw [eL125]
      simp only [List.append_assoc, List.nil_append] at z ⊢
      exact z
    refine ok_chk (by rw [wu_len hL125.1 (b := 216) (by decide) rfl]; decide) ?_
    refine ok_ltt (fun x128 ex128 => ?_)
    have vx128 : x128.toInt = h15 := by rw [ex128]; exact (congrArg Int32.toInt (wu_rd hL125.1 (by decide) rfl 15)).trans g216_15
    refine ok_drW (b := 119) hL125.1 (by decide) rfl rfl (by decide) rfl ?_
    refine ok_bnd (wv_se (v := h15) hL125 rfl vx128 (by omega) (by omega) (by omega)) ?_
    intro y130 hy130
    have hy130 : WV G M u fr st B c0 (((((((((((((((((D ++ ueT 0 (h0)) ++ ueT 0 (1)) ++ ueT 0 (0)) ++ toks 0 (h3) 8) ++ toks 0 (h5) 8) ++ toks 0 (h8) 1) ++ toks 0 (o) 1) ++ (if ((o : Nat) : Int) = (1 : Int) then (ueT 0 (h9 - 1)) else ([] : List Tok))) ++ (if ((o : Nat) : Int) = (1 : Int) then (ueT 0 (0)) else ([] : List Tok))) ++ toks 0 (0) 1) ++ toks 0 (0) 1) ++ (if ¬ h11 = (0 : Int) then (toks 0 (0) 1) else ([] : List Tok))) ++ ueT 0 (0)) ++ ueT 0 (sei (h12 - z))) ++ ueT 0 (h13)) ++ ueT 0 (sei (h14))) ++ ueT 0 (sei (h15))) (n + 1003) ((L ++ L125) ++ y130.1) y130.2 := hy130
    refine ok_app (ok_ltt (fun L132 eL132 => ?_))
    have hL132 : WV G M u fr st B c0 (((((((((((((((((D ++ ueT 0 (h0)) ++ ueT 0 (1)) ++ ueT 0 (0)) ++ toks 0 (h3) 8) ++ toks 0 (h5) 8) ++ toks 0 (h8) 1) ++ toks 0 (o) 1) ++ (if ((o : Nat) : Int) = (1 : Int) then (ueT 0 (h9 - 1)) else ([] : List Tok))) ++ (if ((o : Nat) : Int) = (1 : Int) then (ueT 0 (0)) else ([] : List Tok))) ++ toks 0 (0) 1) ++ toks 0 (0) 1) ++ (if ¬ h11 = (0 : Int) then (toks 0 (0) 1) else ([] : List Tok))) ++ ueT 0 (0)) ++ ueT 0 (sei (h12 - z))) ++ ueT 0 (h13)) ++ ueT 0 (sei (h14))) ++ ueT 0 (sei (h15))) (n + 1003) (L ++ L132) y130.2 := by
      have z := hy130
      rw [eL132]
      simp only [List.append_assoc, List.nil_append] at z ⊢
      exact z
    refine ok_some (wv_le (n := n + 1003) ?_ (by omega))
    rw [show (if ¬ ((h13 : Nat) : Int) = (1 : Int) then (ueT 0 (sei (h14)) ++ (ueT 0 (sei (h15)))) else ([] : List Tok)) = (ueT 0 (sei (h14)) ++ (ueT 0 (sei (h15)))) from if_pos hqq]
    have z := hL132
    simp only [eL125, eL132, List.append_assoc, List.nil_append, List.append_nil] at z ⊢
    exact z
  intro y99 hy99
  refine ok_app (ok_ltt (fun L101 eL101 => ?_))
  have hL101 : WV G M u fr st B c0 ((((((((((((((((D ++ ueT 0 (h0)) ++ ueT 0 (1)) ++ ueT 0 (0)) ++ toks 0 (h3) 8) ++ toks 0 (h5) 8) ++ toks 0 (h8) 1) ++ toks 0 (o) 1) ++ (if ((o : Nat) : Int) = (1 : Int) then (ueT 0 (h9 - 1)) else ([] : List Tok))) ++ (if ((o : Nat) : Int) = (1 : Int) then (ueT 0 (0)) else ([] : List Tok))) ++ toks 0 (0) 1) ++ toks 0 (0) 1) ++ (if ¬ h11 = (0 : Int) then (toks 0 (0) 1) else ([] : List Tok))) ++ ueT 0 (0)) ++ ueT 0 (sei (h12 - z))) ++ ueT 0 (h13)) ++ (if ¬ ((h13 : Nat) : Int) = (1 : Int) then (ueT 0 (sei (h14)) ++ (ueT 0 (sei (h15)))) else ([] : List Tok))) (n + 1003) (L ++ L101) y99.2 := by
    have z := hy99
    rw [eL101]
    simp only [List.append_assoc, List.nil_append] at z ⊢
    exact z
  refine ok_drW (b := 125) hL101.1 (by decide) rfl rfl (by decide) rfl ?_
  refine ok_drW (b := 220) hL101.1 (by decide) rfl rfl (by decide) rfl ?_
  refine ok_chk (by rw [wu_len hL101.1 (b := 220) (by decide) rfl]; decide) ?_
  refine ok_ltt (fun x105 ex105 => ?_)
  have vx105 : x105.toInt = (1 : Int) := by rw [ex105]; exact (congrArg Int32.toInt (wu_rd hL101.1 (by decide) rfl 1)).trans g220_1
  rw [if_pos (show x105 = (1 : Int32) from pz_eq.mpr (by rw [(show (x105).toInt = (1 : Int) from vx105), (show ((1 : Int32)).toInt = (1 : Int) from rfl)] <;> first | decide | omega))]
  refine ok_bnd (Q := fun y106 => WU G M u fr st B c0 (((((((((((((((((D ++ ueT 0 (h0)) ++ ueT 0 (1)) ++ ueT 0 (0)) ++ toks 0 (h3) 8) ++ toks 0 (h5) 8) ++ toks 0 (h8) 1) ++ toks 0 (o) 1) ++ (if ((o : Nat) : Int) = (1 : Int) then (ueT 0 (h9 - 1)) else ([] : List Tok))) ++ (if ((o : Nat) : Int) = (1 : Int) then (ueT 0 (0)) else ([] : List Tok))) ++ toks 0 (0) 1) ++ toks 0 (0) 1) ++ (if ¬ h11 = (0 : Int) then (toks 0 (0) 1) else ([] : List Tok))) ++ ueT 0 (0)) ++ ueT 0 (sei (h12 - z))) ++ ueT 0 (h13)) ++ (if ¬ ((h13 : Nat) : Int) = (1 : Int) then (ueT 0 (sei (h14)) ++ (ueT 0 (sei (h15)))) else ([] : List Tok))) ++ dataT ((((((((((((((((D ++ ueT 0 (h0)) ++ ueT 0 (1)) ++ ueT 0 (0)) ++ toks 0 (h3) 8) ++ toks 0 (h5) 8) ++ toks 0 (h8) 1) ++ toks 0 (o) 1) ++ (if ((o : Nat) : Int) = (1 : Int) then (ueT 0 (h9 - 1)) else ([] : List Tok))) ++ (if ((o : Nat) : Int) = (1 : Int) then (ueT 0 (0)) else ([] : List Tok))) ++ toks 0 (0) 1) ++ toks 0 (0) 1) ++ (if ¬ h11 = (0 : Int) then (toks 0 (0) 1) else ([] : List Tok))) ++ ueT 0 (0)) ++ ueT 0 (sei (h12 - z))) ++ ueT 0 (h13)) ++ (if ¬ ((h13 : Nat) : Int) = (1 : Int) then (ueT 0 (sei (h14)) ++ (ueT 0 (sei (h15)))) else ([] : List Tok))).length) ((L ++ L101) ++ y106.1) y106.2) ?_ ?_
  · skip
    refine ok_drW (b := 119) hL101.1 (by decide) rfl rfl (by decide) rfl ?_
    refine ok_bnd (wv_data hL101 (by omega)) ?_
    intro y113 hy113
    refine ok_app (ok_ltt (fun L115 eL115 => ?_))
    have hL115 : WU G M u fr st B c0 (((((((((((((((((D ++ ueT 0 (h0)) ++ ueT 0 (1)) ++ ueT 0 (0)) ++ toks 0 (h3) 8) ++ toks 0 (h5) 8) ++ toks 0 (h8) 1) ++ toks 0 (o) 1) ++ (if ((o : Nat) : Int) = (1 : Int) then (ueT 0 (h9 - 1)) else ([] : List Tok))) ++ (if ((o : Nat) : Int) = (1 : Int) then (ueT 0 (0)) else ([] : List Tok))) ++ toks 0 (0) 1) ++ toks 0 (0) 1) ++ (if ¬ h11 = (0 : Int) then (toks 0 (0) 1) else ([] : List Tok))) ++ ueT 0 (0)) ++ ueT 0 (sei (h12 - z))) ++ ueT 0 (h13)) ++ (if ¬ ((h13 : Nat) : Int) = (1 : Int) then (ueT 0 (sei (h14)) ++ (ueT 0 (sei (h15)))) else ([] : List Tok))) ++ dataT ((((((((((((((((D ++ ueT 0 (h0)) ++ ueT 0 (1)) ++ ueT 0 (0)) ++ toks 0 (h3) 8) ++ toks 0 (h5) 8) ++ toks 0 (h8) 1) ++ toks 0 (o) 1) ++ (if ((o : Nat) : Int) = (1 : Int) then (ueT 0 (h9 - 1)) else ([] : List Tok))) ++ (if ((o : Nat) : Int) = (1 : Int) then (ueT 0 (0)) else ([] : List Tok))) ++ toks 0 (0) 1) ++ toks 0 (0) 1) ++ (if ¬ h11 = (0 : Int) then (toks 0 (0) 1) else ([] : List Tok))) ++ ueT 0 (0)) ++ ueT 0 (sei (h12 - z))) ++ ueT 0 (h13)) ++ (if ¬ ((h13 : Nat) : Int) = (1 : Int) then (ueT 0 (sei (h14)) ++ (ueT 0 (sei (h15)))) else ([] : List Tok))).length) (L ++ L115) y113.2 := by
      have z := hy113
      rw [eL115]
      simp only [List.append_assoc, List.nil_append] at z ⊢
      exact z
    refine ok_some ?_
    have z := hL115
    simp only [eL115, List.append_assoc, List.nil_append, List.append_nil] at z ⊢
    exact z
  intro y106 hy106
  refine ok_app (ok_ltt (fun L108 eL108 => ?_))
  have hL108 : WU G M u fr st B c0 (((((((((((((((((D ++ ueT 0 (h0)) ++ ueT 0 (1)) ++ ueT 0 (0)) ++ toks 0 (h3) 8) ++ toks 0 (h5) 8) ++ toks 0 (h8) 1) ++ toks 0 (o) 1) ++ (if ((o : Nat) : Int) = (1 : Int) then (ueT 0 (h9 - 1)) else ([] : List Tok))) ++ (if ((o : Nat) : Int) = (1 : Int) then (ueT 0 (0)) else ([] : List Tok))) ++ toks 0 (0) 1) ++ toks 0 (0) 1) ++ (if ¬ h11 = (0 : Int) then (toks 0 (0) 1) else ([] : List Tok))) ++ ueT 0 (0)) ++ ueT 0 (sei (h12 - z))) ++ ueT 0 (h13)) ++ (if ¬ ((h13 : Nat) : Int) = (1 : Int) then (ueT 0 (sei (h14)) ++ (ueT 0 (sei (h15)))) else ([] : List Tok))) ++ dataT ((((((((((((((((D ++ ueT 0 (h0)) ++ ueT 0 (1)) ++ ueT 0 (0)) ++ toks 0 (h3) 8) ++ toks 0 (h5) 8) ++ toks 0 (h8) 1) ++ toks 0 (o) 1) ++ (if ((o : Nat) : Int) = (1 : Int) then (ueT 0 (h9 - 1)) else ([] : List Tok))) ++ (if ((o : Nat) : Int) = (1 : Int) then (ueT 0 (0)) else ([] : List Tok))) ++ toks 0 (0) 1) ++ toks 0 (0) 1) ++ (if ¬ h11 = (0 : Int) then (toks 0 (0) 1) else ([] : List Tok))) ++ ueT 0 (0)) ++ ueT 0 (sei (h12 - z))) ++ ueT 0 (h13)) ++ (if ¬ ((h13 : Nat) : Int) = (1 : Int) then (ueT 0 (sei (h14)) ++ (ueT 0 (sei (h15)))) else ([] : List Tok))).length) (L ++ L108) y106.2 := by
    have z := hy106
    rw [eL108]
    simp only [List.append_assoc, List.nil_append] at z ⊢
    exact z
  refine ok_some ?_
  have z := hL108
  simp only [eL10, eL18, eL25, eL34, eL42, eL48, eL53, eL58, eL63, eL70, eL77, eL87, eL95, eL101, eL108, List.append_assoc, List.nil_append, List.append_nil] at z ⊢
  exact z
