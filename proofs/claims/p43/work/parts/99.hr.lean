/-! pieces of the header of a slice, read: printed out of the functions' trees -/
theorem h_order89 {G : GG} {M0 N : DD} {d hd : Nat} {f : Nat → Nat} {T : Nat} {v : Nat → Int} {D : List Tok} {h5 : Nat} (hh : HH M0 hd) (hK : GK G M0)  (s89_3 : (M0.1 89 3).toInt = (0 : Int)) (s89_4 : (M0.1 89 4).toInt = (8 : Int)) (s94_2 : (M0.1 94 2).toInt = (0 : Int))  (b5 : h5 < 256) (h : RDU G M0 d f T (hd + 1) 27 v (toks 0 (h5) 8 ++ D) N) : OK (FX1_readOrder G N 12 (some 89) (some 94)) (fun y => RDU G M0 d f T (hd + 1) 27 (upv v 5 ((h5 : Nat) : Int)) D y) := by
  unfold FX1_readOrder
  refine ok_drH h hK hh ?_
  refine ok_drK (b := 89) hK (by decide) rfl ?_
  refine ok_chk (by rw [gk_len hK (b := 89) (n := 24) (by decide) rfl]; decide) ?_
  refine ok_ltt (fun x4 ex4 => ?_)
  have vx4 : x4.toInt = (0 : Int) := by rw [ex4]; exact (congrArg Int32.toInt (rdu_o h (by decide) (by rcases hh.2 with q | q | q <;> omega))).trans s89_3
  rw [if_pos (show x4 = (0 : Int32) from pz_eq.mpr (by rw [(show (x4).toInt = (0 : Int) from vx4), (show ((0 : Int32)).toInt = (0 : Int) from rfl)] <;> first | decide | omega))]
  refine ok_bnd (Q := fun y5 => RDU G M0 d f T (hd + 1) 27 (upv v 5 ((h5 : Nat) : Int)) D y5) ?_ ?_
  · skip
    refine ok_chk (by rw [gk_len hK (b := 89) (n := 24) (by decide) rfl]; decide) ?_
    refine ok_ltt (fun x22 ex22 => ?_)
    have vx22 : x22.toInt = (8 : Int) := by rw [ex22]; exact (congrArg Int32.toInt (rdu_o h (by decide) (by rcases hh.2 with q | q | q <;> omega))).trans s89_4
    refine ok_drR (b := 13) h hK rfl (by decide) rfl ?_
    refine ok_bnd (rdu_fixed (V := h5) (m := 8) h (hh_w hh) rfl vx22 (by decide) (by decide) (by first | decide | omega)) ?_
    rintro y24 ⟨vy24, hy24⟩
    have vy24 : y24.2.toInt = ((h5 : Nat) : Int) := vy24
    have hy24 : RDU G M0 d f T (hd + 1) 27 v D y24.1 := hy24
    refine ok_drHW h hK hh ?_
    refine ok_chk (by rw [hh_len hK hh]; decide) ?_
    refine ok_ltt (fun M26 eM26 => ?_)
    have hM26 : RDU G M0 d f T (hd + 1) 27 (upv v 5 ((h5 : Nat) : Int)) D M26 := by rw [eM26]; exact rdu_w (k := 5) hy24 (hh_w hh) (rd_nd h hK hh) vy24
    refine ok_drK (b := 94) hK (by decide) rfl ?_
    refine ok_chk (by rw [gk_len hK (b := 94) (n := 12) (by decide) rfl]; decide) ?_
    refine ok_ltt (fun x28 ex28 => ?_)
    have vx28 : x28.toInt = (0 : Int) := by rw [ex28]; exact (congrArg Int32.toInt (rdu_o hM26 (by decide) (by rcases hh.2 with q | q | q <;> omega))).trans s94_2
    rw [if_neg (show ¬ (x28 = (1 : Int32)) from fun qq => absurd (pz_eq.mp qq) (by rw [(show (x28).toInt = (0 : Int) from vx28), (show ((1 : Int32)).toInt = (1 : Int) from rfl)] <;> first | decide | omega))]
    refine ok_bnd (Q := fun y29 => RDU G M0 d f T (hd + 1) 27 (upv v 5 ((h5 : Nat) : Int)) D y29) ?_ ?_
    · skip
      exact ok_some hM26
    intro y29 hy29
    exact ok_some hy29
  intro y5 hy5
  exact ok_some hy5
theorem h_order98 {G : GG} {M0 N : DD} {d hd : Nat} {f : Nat → Nat} {T : Nat} {v : Nat → Int} {D : List Tok} {h5 : Nat} (hh : HH M0 hd) (hK : GK G M0)  (s94_2 : (M0.1 94 2).toInt = (0 : Int)) (s98_3 : (M0.1 98 3).toInt = (0 : Int)) (s98_4 : (M0.1 98 4).toInt = (8 : Int))  (b5 : h5 < 256) (h : RDU G M0 d f T (hd + 1) 27 v (toks 0 (h5) 8 ++ D) N) : OK (FX1_readOrder G N 12 (some 98) (some 94)) (fun y => RDU G M0 d f T (hd + 1) 27 (upv v 5 ((h5 : Nat) : Int)) D y) := by
  unfold FX1_readOrder
  refine ok_drH h hK hh ?_
  refine ok_drK (b := 98) hK (by decide) rfl ?_
  refine ok_chk (by rw [gk_len hK (b := 98) (n := 24) (by decide) rfl]; decide) ?_
  refine ok_ltt (fun x4 ex4 => ?_)
  have vx4 : x4.toInt = (0 : Int) := by rw [ex4]; exact (congrArg Int32.toInt (rdu_o h (by decide) (by rcases hh.2 with q | q | q <;> omega))).trans s98_3
  rw [if_pos (show x4 = (0 : Int32) from pz_eq.mpr (by rw [(show (x4).toInt = (0 : Int) from vx4), (show ((0 : Int32)).toInt = (0 : Int) from rfl)] <;> first | decide | omega))]
  refine ok_bnd (Q := fun y5 => RDU G M0 d f T (hd + 1) 27 (upv v 5 ((h5 : Nat) : Int)) D y5) ?_ ?_
  · skip
    refine ok_chk (by rw [gk_len hK (b := 98) (n := 24) (by decide) rfl]; decide) ?_
    refine ok_ltt (fun x22 ex22 => ?_)
    have vx22 : x22.toInt = (8 : Int) := by rw [ex22]; exact (congrArg Int32.toInt (rdu_o h (by decide) (by rcases hh.2 with q | q | q <;> omega))).trans s98_4
    refine ok_drR (b := 13) h hK rfl (by decide) rfl ?_
    refine ok_bnd (rdu_fixed (V := h5) (m := 8) h (hh_w hh) rfl vx22 (by decide) (by decide) (by first | decide | omega)) ?_
    rintro y24 ⟨vy24, hy24⟩
    have vy24 : y24.2.toInt = ((h5 : Nat) : Int) := vy24
    have hy24 : RDU G M0 d f T (hd + 1) 27 v D y24.1 := hy24
    refine ok_drHW h hK hh ?_
    refine ok_chk (by rw [hh_len hK hh]; decide) ?_
    refine ok_ltt (fun M26 eM26 => ?_)
    have hM26 : RDU G M0 d f T (hd + 1) 27 (upv v 5 ((h5 : Nat) : Int)) D M26 := by rw [eM26]; exact rdu_w (k := 5) hy24 (hh_w hh) (rd_nd h hK hh) vy24
    refine ok_drK (b := 94) hK (by decide) rfl ?_
    refine ok_chk (by rw [gk_len hK (b := 94) (n := 12) (by decide) rfl]; decide) ?_
    refine ok_ltt (fun x28 ex28 => ?_)
    have vx28 : x28.toInt = (0 : Int) := by rw [ex28]; exact (congrArg Int32.toInt (rdu_o hM26 (by decide) (by rcases hh.2 with q | q | q <;> omega))).trans s94_2
    rw [if_neg (show ¬ (x28 = (1 : Int32)) from fun qq => absurd (pz_eq.mp qq) (by rw [(show (x28).toInt = (0 : Int) from vx28), (show ((1 : Int32)).toInt = (1 : Int) from rfl)] <;> first | decide | omega))]
    refine ok_bnd (Q := fun y29 => RDU G M0 d f T (hd + 1) 27 (upv v 5 ((h5 : Nat) : Int)) D y29) ?_ ?_
    · skip
      exact ok_some hM26
    intro y29 hy29
    exact ok_some hy29
  intro y5 hy5
  exact ok_some hy5
theorem h_rules0 {G : GG} {M0 N : DD} {d hd : Nat} {f : Nat → Nat} {T : Nat} {v : Nat → Int} {D : List Tok} {h13 : Nat} {c z q h14 h15 : Int} (hh : HH M0 hd) (hK : GK G M0) (u1 : v 1 = (0 : Int)) (u13 : v 13 = (0 : Int)) (u14 : v 14 = (0 : Int)) (u15 : v 15 = (0 : Int)) (s94_1 : (M0.1 94 1).toInt = c) (s94_7 : (M0.1 94 7).toInt = z) (s94_9 : (M0.1 94 9).toInt = (1 : Int))  (bz : -26 ≤ z ∧ z ≤ 25) (bq : 0 ≤ z + 26 + q ∧ z + 26 + q ≤ 51) (b13 : h13 ≤ 2) (b14 : -6 ≤ h14 ∧ h14 ≤ 6) (b15 : -6 ≤ h15 ∧ h15 ≤ 6) (h : RDU G M0 d f T (hd + 1) 27 v ((if c = (1 : Int) then (ueT 0 (0)) else ([] : List Tok)) ++ (ueT 0 (sei (q)) ++ (ueT 0 (h13) ++ ((if ¬ ((h13 : Nat) : Int) = (1 : Int) then (ueT 0 (sei (h14)) ++ (ueT 0 (sei (h15)))) else ([] : List Tok)) ++ D)))) N) : OK (FX1_readRules G N 12 (some 94)) (fun y => RDU G M0 d f T (hd + 1) 27 (upv (upv (upv (upv v 12 ((z + (26 : Int)) + (q : Int))) 13 ((h13 : Nat) : Int)) 14 (if ((h13 : Nat) : Int) = (1 : Int) then (0 : Int) else (h14 : Int))) 15 (if ((h13 : Nat) : Int) = (1 : Int) then (0 : Int) else (h15 : Int))) D y) := by
  unfold FX1_readRules
  refine ok_drH h hK hh ?_
  refine ok_drK (b := 94) hK (by decide) rfl ?_
  refine ok_chk (by rw [gk_len hK (b := 94) (n := 12) (by decide) rfl]; decide) ?_
  refine ok_ltt (fun x4 ex4 => ?_)
  have vx4 : x4.toInt = c := by rw [ex4]; exact (congrArg Int32.toInt (rdu_o h (by decide) (by rcases hh.2 with q | q | q <;> omega))).trans s94_1
  refine ok_bnd (Q := fun y5 => RDU G M0 d f T (hd + 1) 27 v (ueT 0 (sei (q)) ++ (ueT 0 (h13) ++ ((if ¬ ((h13 : Nat) : Int) = (1 : Int) then (ueT 0 (sei (h14)) ++ (ueT 0 (sei (h15)))) else ([] : List Tok)) ++ D))) y5) (ok_if ?_ ?_) ?_
  · intro hc
    have hq : (c = (1 : Int)) := by
      have q1 := (show _ = c from vx4).symm.trans ((congrArg Int32.toInt hc).trans (show (1 : Int32).toInt = (1 : Int) from rfl))
      exact q1
    have hz : RDU G M0 d f T (hd + 1) 27 v (ueT 0 (0) ++ (ueT 0 (sei (q)) ++ (ueT 0 (h13) ++ ((if ¬ ((h13 : Nat) : Int) = (1 : Int) then (ueT 0 (sei (h14)) ++ (ueT 0 (sei (h15)))) else ([] : List Tok)) ++ D)))) N := by
      have z := h
      rw [if_pos hq] at z
      simpa only [List.append_assoc, List.nil_append] using z
    refine ok_drHW hz hK hh ?_
    refine ok_chk (by rw [hh_len hK hh]; decide) ?_
    refine ok_ltt (fun x38 ex38 => ?_)
    have vx38 : x38.toInt = (0 : Int) := by rw [ex38]; exact (rdu_r (k := 1) hz (by decide)).trans ((show v 1 = v 1 from rfl).trans u1)
    rw [if_neg (show ¬ (x38 = (2 : Int32)) from fun qq => absurd (pz_eq.mp qq) (by rw [(show (x38).toInt = (0 : Int) from vx38), (show ((2 : Int32)).toInt = (2 : Int) from rfl)] <;> first | decide | omega))]
    refine ok_bnd (Q := fun y39 => RDU G M0 d f T (hd + 1) 27 v (ueT 0 (sei (q)) ++ (ueT 0 (h13) ++ ((if ¬ ((h13 : Nat) : Int) = (1 : Int) then (ueT 0 (sei (h14)) ++ (ueT 0 (sei (h15)))) else ([] : List Tok)) ++ D))) y39) ?_ ?_
    · skip
      refine ok_bnd (rdu_uns (x := 0) hz hK (hh_w hh) (by omega) (by show _ ≤ (2 : Int); omega)) ?_
      rintro y41 ⟨vy41, hy41⟩
      have vy41 : y41.2.toInt = (0 : Int) := vy41
      have hy41 : RDU G M0 d f T (hd + 1) 27 v (ueT 0 (sei (q)) ++ (ueT 0 (h13) ++ ((if ¬ ((h13 : Nat) : Int) = (1 : Int) then (ueT 0 (sei (h14)) ++ (ueT 0 (sei (h15)))) else ([] : List Tok)) ++ D))) y41.1 := hy41
      exact ok_some hy41
    intro y39 hy39
    refine ok_some (rdu_eqv (v := v) hy39 ?_)
    intro k hk
    simp only [upv, if_pos hq]
    all_goals ((repeat' split) <;> first | rfl | omega)
  · intro hc
    have hq : ¬ (c = (1 : Int)) := by
      exact fun q => hc (Int32.toInt_inj.1 (Eq.trans vx4 (Eq.trans q (Eq.symm rfl))))
    have hz : RDU G M0 d f T (hd + 1) 27 v (ueT 0 (sei (q)) ++ (ueT 0 (h13) ++ ((if ¬ ((h13 : Nat) : Int) = (1 : Int) then (ueT 0 (sei (h14)) ++ (ueT 0 (sei (h15)))) else ([] : List Tok)) ++ D))) N := by
      have z := h
      rw [if_neg hq] at z
      simpa only [List.append_assoc, List.nil_append] using z
    refine ok_some (rdu_eqv (v := v) hz ?_)
    intro k hk
    simp only [upv, if_neg hq]
    all_goals ((repeat' split) <;> first | rfl | omega)
  intro y5 hy5
  refine ok_chk (by rw [gk_len hK (b := 94) (n := 12) (by decide) rfl]; decide) ?_
  refine ok_ltt (fun x6 ex6 => ?_)
  have vx6 : x6.toInt = z := by rw [ex6]; exact (congrArg Int32.toInt (rdu_o hy5 (by decide) (by rcases hh.2 with q | q | q <;> omega))).trans s94_7
  refine ok_ltt (fun x7 ex7 => ?_)
  have vx7 : x7.toInt = (z + (26 : Int)) := by
    have q1 : (x6).toInt = z := vx6
    have q2 : ((26 : Int32)).toInt = (26 : Int) := rfl
    rw [ex7, ti_add (by rw [q1, q2]; omega) (by rw [q1, q2]; omega), q1, q2]
  refine ok_ltt (fun x8 ex8 => ?_)
  refine ok_drR (b := 13) hy5 hK rfl (by decide) rfl ?_
  refine ok_bnd (rdu_num1 (x := q) hy5 (hh_w hh) rfl rfl (by omega) (by omega) (by show (-4294967295 : Int) ≤ _; omega) (by rw [ex8]; show _ ≤ (4294967295 : Int); omega)) ?_
  rintro y10 ⟨vy10, hy10⟩
  have vy10 : y10.2.toInt = (q : Int) := vy10
  have hy10 : RDU G M0 d f T (hd + 1) 27 v (ueT 0 (h13) ++ ((if ¬ ((h13 : Nat) : Int) = (1 : Int) then (ueT 0 (sei (h14)) ++ (ueT 0 (sei (h15)))) else ([] : List Tok)) ++ D)) y10.1 := hy10
  refine ok_ltt (fun x11 ex11 => ?_)
  have vx11 : x11.toInt = ((z + (26 : Int)) + (q : Int)) := by
    have q1 : (x7).toInt = (z + (26 : Int)) := vx7
    have q2 : (y10.2).toInt = (q : Int) := vy10
    rw [ex11, ti_add (by rw [q1, q2]; omega) (by rw [q1, q2]; omega), q1, q2]
  refine ok_drHW h hK hh ?_
  refine ok_chk (by rw [hh_len hK hh]; decide) ?_
  refine ok_ltt (fun M13 eM13 => ?_)
  have hM13 : RDU G M0 d f T (hd + 1) 27 (upv v 12 ((z + (26 : Int)) + (q : Int))) (ueT 0 (h13) ++ ((if ¬ ((h13 : Nat) : Int) = (1 : Int) then (ueT 0 (sei (h14)) ++ (ueT 0 (sei (h15)))) else ([] : List Tok)) ++ D)) M13 := by rw [eM13]; exact rdu_w (k := 12) hy10 (hh_w hh) (rd_nd h hK hh) vx11
  refine ok_chk (by rw [hh_len hK hh]; decide) ?_
  refine ok_ltt (fun x14 ex14 => ?_)
  have vx14 : x14.toInt = ((z + (26 : Int)) + (q : Int)) := by rw [ex14]; exact (rdu_r (k := 12) hM13 (by decide)).trans (rfl)
  rw [if_neg (show ¬ (x14 < (0 : Int32)) from fun qq => absurd (pz_lt.mp qq) (by rw [(show (x14).toInt = ((z + (26 : Int)) + (q : Int)) from vx14), (show ((0 : Int32)).toInt = (0 : Int) from rfl)] <;> first | decide | omega))]
  refine ok_bnd (Q := fun y15 => RDU G M0 d f T (hd + 1) 27 (upv v 12 ((z + (26 : Int)) + (q : Int))) (ueT 0 (h13) ++ ((if ¬ ((h13 : Nat) : Int) = (1 : Int) then (ueT 0 (sei (h14)) ++ (ueT 0 (sei (h15)))) else ([] : List Tok)) ++ D)) y15) ?_ ?_
  · skip
    exact ok_some hM13
  intro y15 hy15
  refine ok_chk (by rw [hh_len hK hh]; decide) ?_
  refine ok_ltt (fun x16 ex16 => ?_)
  have vx16 : x16.toInt = ((z + (26 : Int)) + (q : Int)) := by rw [ex16]; exact (rdu_r (k := 12) hy15 (by decide)).trans (rfl)
  rw [if_pos (show x16 ≤ (51 : Int32) from pz_le.mpr (by rw [(show (x16).toInt = ((z + (26 : Int)) + (q : Int)) from vx16), (show ((51 : Int32)).toInt = (51 : Int) from rfl)] <;> first | decide | omega))]
  refine ok_bnd (Q := fun y17 => RDU G M0 d f T (hd + 1) 27 (upv v 12 ((z + (26 : Int)) + (q : Int))) (ueT 0 (h13) ++ ((if ¬ ((h13 : Nat) : Int) = (1 : Int) then (ueT 0 (sei (h14)) ++ (ueT 0 (sei (h15)))) else ([] : List Tok)) ++ D)) y17) ?_ ?_
  · skip
    exact ok_some hy15
  intro y17 hy17
  refine ok_chk (by rw [gk_len hK (b := 94) (n := 12) (by decide) rfl]; decide) ?_
  refine ok_ltt (fun x18 ex18 => ?_)
  have vx18 : x18.toInt = (1 : Int) := by rw [ex18]; exact (congrArg Int32.toInt (rdu_o hy17 (by decide) (by rcases hh.2 with q | q | q <;> omega))).trans s94_9
  rw [if_pos (show x18 = (1 : Int32) from pz_eq.mpr (by rw [(show (x18).toInt = (1 : Int) from vx18), (show ((1 : Int32)).toInt = (1 : Int) from rfl)] <;> first | decide | omega))]
  refine ok_bnd (Q := fun y19 => RDU G M0 d f T (hd + 1) 27 (upv (upv (upv (upv v 12 ((z + (26 : Int)) + (q : Int))) 13 ((h13 : Nat) : Int)) 14 (if ((h13 : Nat) : Int) = (1 : Int) then (0 : Int) else (h14 : Int))) 15 (if ((h13 : Nat) : Int) = (1 : Int) then (0 : Int) else (h15 : Int))) D y19) ?_ ?_
  · skip
    refine ok_bnd (rdu_uns (x := h13) hy17 hK (hh_w hh) (by omega) (by show _ ≤ (2 : Int); omega)) ?_
    rintro y21 ⟨vy21, hy21⟩
    have vy21 : y21.2.toInt = ((h13 : Nat) : Int) := vy21
    have hy21 : RDU G M0 d f T (hd + 1) 27 (upv v 12 ((z + (26 : Int)) + (q : Int))) ((if ¬ ((h13 : Nat) : Int) = (1 : Int) then (ueT 0 (sei (h14)) ++ (ueT 0 (sei (h15)))) else ([] : List Tok)) ++ D) y21.1 := hy21
    refine ok_chk (by rw [hh_len hK hh]; decide) ?_
    refine ok_ltt (fun M22 eM22 => ?_)
    have hM22 : RDU G M0 d f T (hd + 1) 27 (upv (upv v 12 ((z + (26 : Int)) + (q : Int))) 13 ((h13 : Nat) : Int)) ((if ¬ ((h13 : Nat) : Int) = (1 : Int) then (ueT 0 (sei (h14)) ++ (ueT 0 (sei (h15)))) else ([] : List Tok)) ++ D) M22 := by rw [eM22]; exact rdu_w (k := 13) hy21 (hh_w hh) (rd_nd h hK hh) vy21
    refine ok_chk (by rw [hh_len hK hh]; decide) ?_
    refine ok_ltt (fun x23 ex23 => ?_)
    have vx23 : x23.toInt = ((h13 : Nat) : Int) := by rw [ex23]; exact (rdu_r (k := 13) hM22 (by decide)).trans (rfl)
    refine ok_bnd (Q := fun y24 => RDU G M0 d f T (hd + 1) 27 (upv (upv (upv (upv v 12 ((z + (26 : Int)) + (q : Int))) 13 ((h13 : Nat) : Int)) 14 (if ((h13 : Nat) : Int) = (1 : Int) then (0 : Int) else (h14 : Int))) 15 (if ((h13 : Nat) : Int) = (1 : Int) then (0 : Int) else (h15 : Int))) D y24) (ok_if ?_ ?_) ?_
    · intro hc
      have hq : (((h13 : Nat) : Int) = (1 : Int)) := by
        have q1 := (show _ = ((h13 : Nat) : Int) from vx23).symm.trans ((congrArg Int32.toInt hc).trans (show (1 : Int32).toInt = (1 : Int) from rfl))
        exact q1
      have hz : RDU G M0 d f T (hd + 1) 27 (upv (upv v 12 ((z + (26 : Int)) + (q : Int))) 13 ((h13 : Nat) : Int)) D M22 := by
        have z := hM22
        rw [if_neg (fun q => q hq)] at z
        simpa only [List.append_assoc, List.nil_append] using z
      refine ok_some (rdu_eqv (v := (upv (upv v 12 ((z + (26 : Int)) + (q : Int))) 13 ((h13 : Nat) : Int))) hz ?_)
      intro k hk
      simp only [upv, if_pos hq]
      by_cases z14 : k = 14
      · subst z14; first | exact (show (upv (upv v 12 ((z + (26 : Int)) + (q : Int))) 13 ((h13 : Nat) : Int)) 14 = v 14 from rfl).trans u14 | (simp; exact (show (upv (upv v 12 ((z + (26 : Int)) + (q : Int))) 13 ((h13 : Nat) : Int)) 14 = v 14 from rfl).trans u14)
      by_cases z15 : k = 15
      · subst z15; first | exact (show (upv (upv v 12 ((z + (26 : Int)) + (q : Int))) 13 ((h13 : Nat) : Int)) 15 = v 15 from rfl).trans u15 | (simp; exact (show (upv (upv v 12 ((z + (26 : Int)) + (q : Int))) 13 ((h13 : Nat) : Int)) 15 = v 15 from rfl).trans u15)
      simp only [if_neg z14, if_neg z15]
      all_goals ((repeat' split) <;> first | rfl | omega)
    · intro hc
      have hq : ¬ (((h13 : Nat) : Int) = (1 : Int)) := by
        exact fun q => hc (Int32.toInt_inj.1 (Eq.trans vx23 (Eq.trans q (Eq.symm rfl))))
      have hz : RDU G M0 d f T (hd + 1) 27 (upv (upv v 12 ((z + (26 : Int)) + (q : Int))) 13 ((h13 : Nat) : Int)) (ueT 0 (sei (h14)) ++ (ueT 0 (sei (h15)) ++ D)) M22 := by
        have z := hM22
        rw [if_pos hq] at z
        simpa only [List.append_assoc, List.nil_append] using z
      refine ok_bnd (rdu_sig (x := h14) hz hK (hh_w hh) (by show (-6 : Int) ≤ _; omega) (by show _ ≤ (6 : Int); omega) (by omega) (by omega)) ?_
      rintro y26 ⟨vy26, hy26⟩
      have vy26 : y26.2.toInt = (h14 : Int) := vy26
      have hy26 : RDU G M0 d f T (hd + 1) 27 (upv (upv v 12 ((z + (26 : Int)) + (q : Int))) 13 ((h13 : Nat) : Int)) (ueT 0 (sei (h15)) ++ D) y26.1 := hy26
      refine ok_chk (by rw [hh_len hK hh]; decide) ?_
      refine ok_ltt (fun M27 eM27 => ?_)
      have hM27 : RDU G M0 d f T (hd + 1) 27 (upv (upv (upv v 12 ((z + (26 : Int)) + (q : Int))) 13 ((h13 : Nat) : Int)) 14 (h14 : Int)) (ueT 0 (sei (h15)) ++ D) M27 := by rw [eM27]; exact rdu_w (k := 14) hy26 (hh_w hh) (rd_nd h hK hh) vy26
      refine ok_bnd (rdu_sig (x := h15) hM27 hK (hh_w hh) (by show (-6 : Int) ≤ _; omega) (by show _ ≤ (6 : Int); omega) (by omega) (by omega)) ?_
      rintro y28 ⟨vy28, hy28⟩
      have vy28 : y28.2.toInt = (h15 : Int) := vy28
      have hy28 : RDU G M0 d f T (hd + 1) 27 (upv (upv (upv v 12 ((z + (26 : Int)) + (q : Int))) 13 ((h13 : Nat) : Int)) 14 (h14 : Int)) D y28.1 := hy28
      refine ok_chk (by rw [hh_len hK hh]; decide) ?_
      refine ok_ltt (fun M29 eM29 => ?_)
      have hM29 : RDU G M0 d f T (hd + 1) 27 (upv (upv (upv (upv v 12 ((z + (26 : Int)) + (q : Int))) 13 ((h13 : Nat) : Int)) 14 (h14 : Int)) 15 (h15 : Int)) D M29 := by rw [eM29]; exact rdu_w (k := 15) hy28 (hh_w hh) (rd_nd h hK hh) vy28
      refine ok_some (rdu_eqv (v := (upv (upv (upv (upv v 12 ((z + (26 : Int)) + (q : Int))) 13 ((h13 : Nat) : Int)) 14 (h14 : Int)) 15 (h15 : Int))) hM29 ?_)
      intro k hk
      simp only [upv, if_neg hq]
      all_goals ((repeat' split) <;> first | rfl | omega)
    intro y24 hy24
    exact ok_some hy24
  intro y19 hy19
  exact ok_some hy19
theorem h_rules1 {G : GG} {M0 N : DD} {d hd : Nat} {f : Nat → Nat} {T : Nat} {v : Nat → Int} {D : List Tok} {h13 : Nat} {c z q h14 h15 : Int} (hh : HH M0 hd) (hK : GK G M0) (u1 : v 1 = (1 : Int)) (u13 : v 13 = (0 : Int)) (u14 : v 14 = (0 : Int)) (u15 : v 15 = (0 : Int)) (s94_1 : (M0.1 94 1).toInt = c) (s94_7 : (M0.1 94 7).toInt = z) (s94_9 : (M0.1 94 9).toInt = (1 : Int))  (bz : -26 ≤ z ∧ z ≤ 25) (bq : 0 ≤ z + 26 + q ∧ z + 26 + q ≤ 51) (b13 : h13 ≤ 2) (b14 : -6 ≤ h14 ∧ h14 ≤ 6) (b15 : -6 ≤ h15 ∧ h15 ≤ 6) (h : RDU G M0 d f T (hd + 1) 27 v ((if c = (1 : Int) then (ueT 0 (0)) else ([] : List Tok)) ++ (ueT 0 (sei (q)) ++ (ueT 0 (h13) ++ ((if ¬ ((h13 : Nat) : Int) = (1 : Int) then (ueT 0 (sei (h14)) ++ (ueT 0 (sei (h15)))) else ([] : List Tok)) ++ D)))) N) : OK (FX1_readRules G N 12 (some 94)) (fun y => RDU G M0 d f T (hd + 1) 27 (upv (upv (upv (upv v 12 ((z + (26 : Int)) + (q : Int))) 13 ((h13 : Nat) : Int)) 14 (if ((h13 : Nat) : Int) = (1 : Int) then (0 : Int) else (h14 : Int))) 15 (if ((h13 : Nat) : Int) = (1 : Int) then (0 : Int) else (h15 : Int))) D y) := by
  unfold FX1_readRules
  refine ok_drH h hK hh ?_
  refine ok_drK (b := 94) hK (by decide) rfl ?_
  refine ok_chk (by rw [gk_len hK (b := 94) (n := 12) (by decide) rfl]; decide) ?_
  refine ok_ltt (fun x4 ex4 => ?_)
  have vx4 : x4.toInt = c := by rw [ex4]; exact (congrArg Int32.toInt (rdu_o h (by decide) (by rcases hh.2 with q | q | q <;> omega))).trans s94_1
  refine ok_bnd (Q := fun y5 => RDU G M0 d f T (hd + 1) 27 v (ueT 0 (sei (q)) ++ (ueT 0 (h13) ++ ((if ¬ ((h13 : Nat) : Int) = (1 : Int) then (ueT 0 (sei (h14)) ++ (ueT 0 (sei (h15)))) else ([] : List Tok)) ++ D))) y5) (ok_if ?_ ?_) ?_
  · intro hc
    have hq : (c = (1 : Int)) := by
      have q1 := (show _ = c from vx4).symm.trans ((congrArg Int32.toInt hc).trans (show (1 : Int32).toInt = (1 : Int) from rfl))
      exact q1
    have hz : RDU G M0 d f T (hd + 1) 27 v (ueT 0 (0) ++ (ueT 0 (sei (q)) ++ (ueT 0 (h13) ++ ((if ¬ ((h13 : Nat) : Int) = (1 : Int) then (ueT 0 (sei (h14)) ++ (ueT 0 (sei (h15)))) else ([] : List Tok)) ++ D)))) N := by
      have z := h
      rw [if_pos hq] at z
      simpa only [List.append_assoc, List.nil_append] using z
    refine ok_drHW hz hK hh ?_
    refine ok_chk (by rw [hh_len hK hh]; decide) ?_
    refine ok_ltt (fun x38 ex38 => ?_)
    have vx38 : x38.toInt = (1 : Int) := by rw [ex38]; exact (rdu_r (k := 1) hz (by decide)).trans ((show v 1 = v 1 from rfl).trans u1)
    rw [if_neg (show ¬ (x38 = (2 : Int32)) from fun qq => absurd (pz_eq.mp qq) (by rw [(show (x38).toInt = (1 : Int) from vx38), (show ((2 : Int32)).toInt = (2 : Int) from rfl)] <;> first | decide | omega))]
    refine ok_bnd (Q := fun y39 => RDU G M0 d f T (hd + 1) 27 v (ueT 0 (sei (q)) ++ (ueT 0 (h13) ++ ((if ¬ ((h13 : Nat) : Int) = (1 : Int) then (ueT 0 (sei (h14)) ++ (ueT 0 (sei (h15)))) else ([] : List Tok)) ++ D))) y39) ?_ ?_
    · skip
      refine ok_bnd (rdu_uns (x := 0) hz hK (hh_w hh) (by omega) (by show _ ≤ (2 : Int); omega)) ?_
      rintro y41 ⟨vy41, hy41⟩
      have vy41 : y41.2.toInt = (0 : Int) := vy41
      have hy41 : RDU G M0 d f T (hd + 1) 27 v (ueT 0 (sei (q)) ++ (ueT 0 (h13) ++ ((if ¬ ((h13 : Nat) : Int) = (1 : Int) then (ueT 0 (sei (h14)) ++ (ueT 0 (sei (h15)))) else ([] : List Tok)) ++ D))) y41.1 := hy41
      exact ok_some hy41
    intro y39 hy39
    refine ok_some (rdu_eqv (v := v) hy39 ?_)
    intro k hk
    simp only [upv, if_pos hq]
    all_goals ((repeat' split) <;> first | rfl | omega)
  · intro hc
    have hq : ¬ (c = (1 : Int)) := by
      exact fun q => hc (Int32.toInt_inj.1 (Eq.trans vx4 (Eq.trans q (Eq.symm rfl))))
    have hz : RDU G M0 d f T (hd + 1) 27 v (ueT 0 (sei (q)) ++ (ueT 0 (h13) ++ ((if ¬ ((h13 : Nat) : Int) = (1 : Int) then (ueT 0 (sei (h14)) ++ (ueT 0 (sei (h15)))) else ([] : List Tok)) ++ D))) N := by
      have z := h
      rw [if_neg hq] at z
      simpa only [List.append_assoc, List.nil_append] using z
    refine ok_some (rdu_eqv (v := v) hz ?_)
    intro k hk
    simp only [upv, if_neg hq]
    all_goals ((repeat' split) <;> first | rfl | omega)
  intro y5 hy5
  refine ok_chk (by rw [gk_len hK (b := 94) (n := 12) (by decide) rfl]; decide) ?_
  refine ok_ltt (fun x6 ex6 => ?_)
  have vx6 : x6.toInt = z := by rw [ex6]; exact (congrArg Int32.toInt (rdu_o hy5 (by decide) (by rcases hh.2 with q | q | q <;> omega))).trans s94_7
  refine ok_ltt (fun x7 ex7 => ?_)
  have vx7 : x7.toInt = (z + (26 : Int)) := by
    have q1 : (x6).toInt = z := vx6
    have q2 : ((26 : Int32)).toInt = (26 : Int) := rfl
    rw [ex7, ti_add (by rw [q1, q2]; omega) (by rw [q1, q2]; omega), q1, q2]
  refine ok_ltt (fun x8 ex8 => ?_)
  refine ok_drR (b := 13) hy5 hK rfl (by decide) rfl ?_
  refine ok_bnd (rdu_num1 (x := q) hy5 (hh_w hh) rfl rfl (by omega) (by omega) (by show (-4294967295 : Int) ≤ _; omega) (by rw [ex8]; show _ ≤ (4294967295 : Int); omega)) ?_
  rintro y10 ⟨vy10, hy10⟩
  have vy10 : y10.2.toInt = (q : Int) := vy10
  have hy10 : RDU G M0 d f T (hd + 1) 27 v (ueT 0 (h13) ++ ((if ¬ ((h13 : Nat) : Int) = (1 : Int) then (ueT 0 (sei (h14)) ++ (ueT 0 (sei (h15)))) else ([] : List Tok)) ++ D)) y10.1 := hy10
  refine ok_ltt (fun x11 ex11 => ?_)
  have vx11 : x11.toInt = ((z + (26 : Int)) + (q : Int)) := by
    have q1 : (x7).toInt = (z + (26 : Int)) := vx7
    have q2 : (y10.2).toInt = (q : Int) := vy10
    rw [ex11, ti_add (by rw [q1, q2]; omega) (by rw [q1, q2]; omega), q1, q2]
  refine ok_drHW h hK hh ?_
  refine ok_chk (by rw [hh_len hK hh]; decide) ?_
  refine ok_ltt (fun M13 eM13 => ?_)
  have hM13 : RDU G M0 d f T (hd + 1) 27 (upv v 12 ((z + (26 : Int)) + (q : Int))) (ueT 0 (h13) ++ ((if ¬ ((h13 : Nat) : Int) = (1 : Int) then (ueT 0 (sei (h14)) ++ (ueT 0 (sei (h15)))) else ([] : List Tok)) ++ D)) M13 := by rw [eM13]; exact rdu_w (k := 12) hy10 (hh_w hh) (rd_nd h hK hh) vx11
  refine ok_chk (by rw [hh_len hK hh]; decide) ?_
  refine ok_ltt (fun x14 ex14 => ?_)
  have vx14 : x14.toInt = ((z + (26 : Int)) + (q : Int)) := by rw [ex14]; exact (rdu_r (k := 12) hM13 (by decide)).trans (rfl)
  rw [if_neg (show ¬ (x14 < (0 : Int32)) from fun qq => absurd (pz_lt.mp qq) (by rw [(show (x14).toInt = ((z + (26 : Int)) + (q : Int)) from vx14), (show ((0 : Int32)).toInt = (0 : Int) from rfl)] <;> first | decide | omega))]
  refine ok_bnd (Q := fun y15 => RDU G M0 d f T (hd + 1) 27 (upv v 12 ((z + (26 : Int)) + (q : Int))) (ueT 0 (h13) ++ ((if ¬ ((h13 : Nat) : Int) = (1 : Int) then (ueT 0 (sei (h14)) ++ (ueT 0 (sei (h15)))) else ([] : List Tok)) ++ D)) y15) ?_ ?_
  · skip
    exact ok_some hM13
  intro y15 hy15
  refine ok_chk (by rw [hh_len hK hh]; decide) ?_
  refine ok_ltt (fun x16 ex16 => ?_)
  have vx16 : x16.toInt = ((z + (26 : Int)) + (q : Int)) := by rw [ex16]; exact (rdu_r (k := 12) hy15 (by decide)).trans (rfl)
  rw [if_pos (show x16 ≤ (51 : Int32) from pz_le.mpr (by rw [(show (x16).toInt = ((z + (26 : Int)) + (q : Int)) from vx16), (show ((51 : Int32)).toInt = (51 : Int) from rfl)] <;> first | decide | omega))]
  refine ok_bnd (Q := fun y17 => RDU G M0 d f T (hd + 1) 27 (upv v 12 ((z + (26 : Int)) + (q : Int))) (ueT 0 (h13) ++ ((if ¬ ((h13 : Nat) : Int) = (1 : Int) then (ueT 0 (sei (h14)) ++ (ueT 0 (sei (h15)))) else ([] : List Tok)) ++ D)) y17) ?_ ?_
  · skip
    exact ok_some hy15
  intro y17 hy17
  refine ok_chk (by rw [gk_len hK (b := 94) (n := 12) (by decide) rfl]; decide) ?_
  refine ok_ltt (fun x18 ex18 => ?_)
  have vx18 : x18.toInt = (1 : Int) := by rw [ex18]; exact (congrArg Int32.toInt (rdu_o hy17 (by decide) (by rcases hh.2 with q | q | q <;> omega))).trans s94_9
  rw [if_pos (show x18 = (1 : Int32) from pz_eq.mpr (by rw [(show (x18).toInt = (1 : Int) from vx18), (show ((1 : Int32)).toInt = (1 : Int) from rfl)] <;> first | decide | omega))]
  refine ok_bnd (Q := fun y19 => RDU G M0 d f T (hd + 1) 27 (upv (upv (upv (upv v 12 ((z + (26 : Int)) + (q : Int))) 13 ((h13 : Nat) : Int)) 14 (if ((h13 : Nat) : Int) = (1 : Int) then (0 : Int) else (h14 : Int))) 15 (if ((h13 : Nat) : Int) = (1 : Int) then (0 : Int) else (h15 : Int))) D y19) ?_ ?_
  · skip
    refine ok_bnd (rdu_uns (x := h13) hy17 hK (hh_w hh) (by omega) (by show _ ≤ (2 : Int); omega)) ?_
    rintro y21 ⟨vy21, hy21⟩
    have vy21 : y21.2.toInt = ((h13 : Nat) : Int) := vy21
    have hy21 : RDU G M0 d f T (hd + 1) 27 (upv v 12 ((z + (26 : Int)) + (q : Int))) ((if ¬ ((h13 : Nat) : Int) = (1 : Int) then (ueT 0 (sei (h14)) ++ (ueT 0 (sei (h15)))) else ([] : List Tok)) ++ D) y21.1 := hy21
    refine ok_chk (by rw [hh_len hK hh]; decide) ?_
    refine ok_ltt (fun M22 eM22 => ?_)
    have hM22 : RDU G M0 d f T (hd + 1) 27 (upv (upv v 12 ((z + (26 : Int)) + (q : Int))) 13 ((h13 : Nat) : Int)) ((if ¬ ((h13 : Nat) : Int) = (1 : Int) then (ueT 0 (sei (h14)) ++ (ueT 0 (sei (h15)))) else ([] : List Tok)) ++ D) M22 := by rw [eM22]; exact rdu_w (k := 13) hy21 (hh_w hh) (rd_nd h hK hh) vy21
    refine ok_chk (by rw [hh_len hK hh]; decide) ?_
    refine ok_ltt (fun x23 ex23 => ?_)
    have vx23 : x23.toInt = ((h13 : Nat) : Int) := by rw [ex23]; exact (rdu_r (k := 13) hM22 (by decide)).trans (rfl)
    refine ok_bnd (Q := fun y24 => RDU G M0 d f T (hd + 1) 27 (upv (upv (upv (upv v 12 ((z + (26 : Int)) + (q : Int))) 13 ((h13 : Nat) : Int)) 14 (if ((h13 : Nat) : Int) = (1 : Int) then (0 : Int) else (h14 : Int))) 15 (if ((h13 : Nat) : Int) = (1 : Int) then (0 : Int) else (h15 : Int))) D y24) (ok_if ?_ ?_) ?_
    · intro hc
      have hq : (((h13 : Nat) : Int) = (1 : Int)) := by
        have q1 := (show _ = ((h13 : Nat) : Int) from vx23).symm.trans ((congrArg Int32.toInt hc).trans (show (1 : Int32).toInt = (1 : Int) from rfl))
        exact q1
      have hz : RDU G M0 d f T (hd + 1) 27 (upv (upv v 12 ((z + (26 : Int)) + (q : Int))) 13 ((h13 : Nat) : Int)) D M22 := by
        have z := hM22
        rw [if_neg (fun q => q hq)] at z
        simpa only [List.append_assoc, List.nil_append] using z
      refine ok_some (rdu_eqv (v := (upv (upv v 12 ((z + (26 : Int)) + (q : Int))) 13 ((h13 : Nat) : Int))) hz ?_)
      intro k hk
      simp only [upv, if_pos hq]
      by_cases z14 : k = 14
      · subst z14; first | exact (show (upv (upv v 12 ((z + (26 : Int)) + (q : Int))) 13 ((h13 : Nat) : Int)) 14 = v 14 from rfl).trans u14 | (simp; exact (show (upv (upv v 12 ((z + (26 : Int)) + (q : Int))) 13 ((h13 : Nat) : Int)) 14 = v 14 from rfl).trans u14)
      by_cases z15 : k = 15
      · subst z15; first | exact (show (upv (upv v 12 ((z + (26 : Int)) + (q : Int))) 13 ((h13 : Nat) : Int)) 15 = v 15 from rfl).trans u15 | (simp; exact (show (upv (upv v 12 ((z + (26 : Int)) + (q : Int))) 13 ((h13 : Nat) : Int)) 15 = v 15 from rfl).trans u15)
      simp only [if_neg z14, if_neg z15]
      all_goals ((repeat' split) <;> first | rfl | omega)
    · intro hc
      have hq : ¬ (((h13 : Nat) : Int) = (1 : Int)) := by
        exact fun q => hc (Int32.toInt_inj.1 (Eq.trans vx23 (Eq.trans q (Eq.symm rfl))))
      have hz : RDU G M0 d f T (hd + 1) 27 (upv (upv v 12 ((z + (26 : Int)) + (q : Int))) 13 ((h13 : Nat) : Int)) (ueT 0 (sei (h14)) ++ (ueT 0 (sei (h15)) ++ D)) M22 := by
        have z := hM22
        rw [if_pos hq] at z
        simpa only [List.append_assoc, List.nil_append] using z
      refine ok_bnd (rdu_sig (x := h14) hz hK (hh_w hh) (by show (-6 : Int) ≤ _; omega) (by show _ ≤ (6 : Int); omega) (by omega) (by omega)) ?_
      rintro y26 ⟨vy26, hy26⟩
      have vy26 : y26.2.toInt = (h14 : Int) := vy26
      have hy26 : RDU G M0 d f T (hd + 1) 27 (upv (upv v 12 ((z + (26 : Int)) + (q : Int))) 13 ((h13 : Nat) : Int)) (ueT 0 (sei (h15)) ++ D) y26.1 := hy26
      refine ok_chk (by rw [hh_len hK hh]; decide) ?_
      refine ok_ltt (fun M27 eM27 => ?_)
      have hM27 : RDU G M0 d f T (hd + 1) 27 (upv (upv (upv v 12 ((z + (26 : Int)) + (q : Int))) 13 ((h13 : Nat) : Int)) 14 (h14 : Int)) (ueT 0 (sei (h15)) ++ D) M27 := by rw [eM27]; exact rdu_w (k := 14) hy26 (hh_w hh) (rd_nd h hK hh) vy26
      refine ok_bnd (rdu_sig (x := h15) hM27 hK (hh_w hh) (by show (-6 : Int) ≤ _; omega) (by show _ ≤ (6 : Int); omega) (by omega) (by omega)) ?_
      rintro y28 ⟨vy28, hy28⟩
      have vy28 : y28.2.toInt = (h15 : Int) := vy28
      have hy28 : RDU G M0 d f T (hd + 1) 27 (upv (upv (upv v 12 ((z + (26 : Int)) + (q : Int))) 13 ((h13 : Nat) : Int)) 14 (h14 : Int)) D y28.1 := hy28
      refine ok_chk (by rw [hh_len hK hh]; decide) ?_
      refine ok_ltt (fun M29 eM29 => ?_)
      have hM29 : RDU G M0 d f T (hd + 1) 27 (upv (upv (upv (upv v 12 ((z + (26 : Int)) + (q : Int))) 13 ((h13 : Nat) : Int)) 14 (h14 : Int)) 15 (h15 : Int)) D M29 := by rw [eM29]; exact rdu_w (k := 15) hy28 (hh_w hh) (rd_nd h hK hh) vy28
      refine ok_some (rdu_eqv (v := (upv (upv (upv (upv v 12 ((z + (26 : Int)) + (q : Int))) 13 ((h13 : Nat) : Int)) 14 (h14 : Int)) 15 (h15 : Int))) hM29 ?_)
      intro k hk
      simp only [upv, if_neg hq]
      all_goals ((repeat' split) <;> first | rfl | omega)
    intro y24 hy24
    exact ok_some hy24
  intro y19 hy19
  exact ok_some hy19
theorem h_rules2 {G : GG} {M0 N : DD} {d hd : Nat} {f : Nat → Nat} {T : Nat} {v : Nat → Int} {D : List Tok} {h13 : Nat} {c z q h14 h15 : Int} (hh : HH M0 hd) (hK : GK G M0) (u1 : v 1 = (2 : Int)) (u13 : v 13 = (0 : Int)) (u14 : v 14 = (0 : Int)) (u15 : v 15 = (0 : Int)) (s94_1 : (M0.1 94 1).toInt = c) (s94_7 : (M0.1 94 7).toInt = z) (s94_9 : (M0.1 94 9).toInt = (1 : Int))  (bz : -26 ≤ z ∧ z ≤ 25) (bq : 0 ≤ z + 26 + q ∧ z + 26 + q ≤ 51) (b13 : h13 ≤ 2) (b14 : -6 ≤ h14 ∧ h14 ≤ 6) (b15 : -6 ≤ h15 ∧ h15 ≤ 6) (h : RDU G M0 d f T (hd + 1) 27 v (ueT 0 (sei (q)) ++ (ueT 0 (h13) ++ ((if ¬ ((h13 : Nat) : Int) = (1 : Int) then (ueT 0 (sei (h14)) ++ (ueT 0 (sei (h15)))) else ([] : List Tok)) ++ D))) N) : OK (FX1_readRules G N 12 (some 94)) (fun y => RDU G M0 d f T (hd + 1) 27 (upv (upv (upv (upv v 12 ((z + (26 : Int)) + (q : Int))) 13 ((h13 : Nat) : Int)) 14 (if ((h13 : Nat) : Int) = (1 : Int) then (0 : Int) else (h14 : Int))) 15 (if ((h13 : Nat) : Int) = (1 : Int) then (0 : Int) else (h15 : Int))) D y) := by
  unfold FX1_readRules
  refine ok_drH h hK hh ?_
  refine ok_drK (b := 94) hK (by decide) rfl ?_
  refine ok_chk (by rw [gk_len hK (b := 94) (n := 12) (by decide) rfl]; decide) ?_
  refine ok_ltt (fun x4 ex4 => ?_)
  have vx4 : x4.toInt = c := by rw [ex4]; exact (congrArg Int32.toInt (rdu_o h (by decide) (by rcases hh.2 with q | q | q <;> omega))).trans s94_1
  refine ok_bnd (Q := fun y5 => RDU G M0 d f T (hd + 1) 27 v (ueT 0 (sei (q)) ++ (ueT 0 (h13) ++ ((if ¬ ((h13 : Nat) : Int) = (1 : Int) then (ueT 0 (sei (h14)) ++ (ueT 0 (sei (h15)))) else ([] : List Tok)) ++ D))) y5) (ok_if ?_ ?_) ?_
  · intro hc
    have hq : (c = (1 : Int)) := by
      have q1 := (show _ = c from vx4).symm.trans ((congrArg Int32.toInt hc).trans (show (1 : Int32).toInt = (1 : Int) from rfl))
      exact q1
    have hz : RDU G M0 d f T (hd + 1) 27 v (ueT 0 (sei (q)) ++ (ueT 0 (h13) ++ ((if ¬ ((h13 : Nat) : Int) = (1 : Int) then (ueT 0 (sei (h14)) ++ (ueT 0 (sei (h15)))) else ([] : List Tok)) ++ D))) N := by
      have z := h
      exact z
    refine ok_drHW hz hK hh ?_
    refine ok_chk (by rw [hh_len hK hh]; decide) ?_
    refine ok_ltt (fun x38 ex38 => ?_)
    have vx38 : x38.toInt = (2 : Int) := by rw [ex38]; exact (rdu_r (k := 1) hz (by decide)).trans ((show v 1 = v 1 from rfl).trans u1)
    rw [if_pos (show x38 = (2 : Int32) from pz_eq.mpr (by rw [(show (x38).toInt = (2 : Int) from vx38), (show ((2 : Int32)).toInt = (2 : Int) from rfl)] <;> first | decide | omega))]
    refine ok_bnd (Q := fun y39 => RDU G M0 d f T (hd + 1) 27 v (ueT 0 (sei (q)) ++ (ueT 0 (h13) ++ ((if ¬ ((h13 : Nat) : Int) = (1 : Int) then (ueT 0 (sei (h14)) ++ (ueT 0 (sei (h15)))) else ([] : List Tok)) ++ D))) y39) ?_ ?_
    · skip
      exact ok_some hz
    intro y39 hy39
    refine ok_some (rdu_eqv (v := v) hy39 ?_)
    intro k hk
    simp only [upv, if_pos hq]
    all_goals ((repeat' split) <;> first | rfl | omega)
  · intro hc
    have hq : ¬ (c = (1 : Int)) := by
      exact fun q => hc (Int32.toInt_inj.1 (Eq.trans vx4 (Eq.trans q (Eq.symm rfl))))
    have hz : RDU G M0 d f T (hd + 1) 27 v (ueT 0 (sei (q)) ++ (ueT 0 (h13) ++ ((if ¬ ((h13 : Nat) : Int) = (1 : Int) then (ueT 0 (sei (h14)) ++ (ueT 0 (sei (h15)))) else ([] : List Tok)) ++ D))) N := by
      have z := h
      exact z
    refine ok_some (rdu_eqv (v := v) hz ?_)
    intro k hk
    simp only [upv, if_neg hq]
    all_goals ((repeat' split) <;> first | rfl | omega)
  intro y5 hy5
  refine ok_chk (by rw [gk_len hK (b := 94) (n := 12) (by decide) rfl]; decide) ?_
  refine ok_ltt (fun x6 ex6 => ?_)
  have vx6 : x6.toInt = z := by rw [ex6]; exact (congrArg Int32.toInt (rdu_o hy5 (by decide) (by rcases hh.2 with q | q | q <;> omega))).trans s94_7
  refine ok_ltt (fun x7 ex7 => ?_)
  have vx7 : x7.toInt = (z + (26 : Int)) := by
    have q1 : (x6).toInt = z := vx6
    have q2 : ((26 : Int32)).toInt = (26 : Int) := rfl
    rw [ex7, ti_add (by rw [q1, q2]; omega) (by rw [q1, q2]; omega), q1, q2]
  refine ok_ltt (fun x8 ex8 => ?_)
  refine ok_drR (b := 13) hy5 hK rfl (by decide) rfl ?_
  refine ok_bnd (rdu_num1 (x := q) hy5 (hh_w hh) rfl rfl (by omega) (by omega) (by show (-4294967295 : Int) ≤ _; omega) (by rw [ex8]; show _ ≤ (4294967295 : Int); omega)) ?_
  rintro y10 ⟨vy10, hy10⟩
  have vy10 : y10.2.toInt = (q : Int) := vy10
  have hy10 : RDU G M0 d f T (hd + 1) 27 v (ueT 0 (h13) ++ ((if ¬ ((h13 : Nat) : Int) = (1 : Int) then (ueT 0 (sei (h14)) ++ (ueT 0 (sei (h15)))) else ([] : List Tok)) ++ D)) y10.1 := hy10
  refine ok_ltt (fun x11 ex11 => ?_)
  have vx11 : x11.toInt = ((z + (26 : Int)) + (q : Int)) := by
    have q1 : (x7).toInt = (z + (26 : Int)) := vx7
    have q2 : (y10.2).toInt = (q : Int) := vy10
    rw [ex11, ti_add (by rw [q1, q2]; omega) (by rw [q1, q2]; omega), q1, q2]
  refine ok_drHW h hK hh ?_
  refine ok_chk (by rw [hh_len hK hh]; decide) ?_
  refine ok_ltt (fun M13 eM13 => ?_)
  have hM13 : RDU G M0 d f T (hd + 1) 27 (upv v 12 ((z + (26 : Int)) + (q : Int))) (ueT 0 (h13) ++ ((if ¬ ((h13 : Nat) : Int) = (1 : Int) then (ueT 0 (sei (h14)) ++ (ueT 0 (sei (h15)))) else ([] : List Tok)) ++ D)) M13 := by rw [eM13]; exact rdu_w (k := 12) hy10 (hh_w hh) (rd_nd h hK hh) vx11
  refine ok_chk (by rw [hh_len hK hh]; decide) ?_
  refine ok_ltt (fun x14 ex14 => ?_)
  have vx14 : x14.toInt = ((z + (26 : Int)) + (q : Int)) := by rw [ex14]; exact (rdu_r (k := 12) hM13 (by decide)).trans (rfl)
  rw [if_neg (show ¬ (x14 < (0 : Int32)) from fun qq => absurd (pz_lt.mp qq) (by rw [(show (x14).toInt = ((z + (26 : Int)) + (q : Int)) from vx14), (show ((0 : Int32)).toInt = (0 : Int) from rfl)] <;> first | decide | omega))]
  refine ok_bnd (Q := fun y15 => RDU G M0 d f T (hd + 1) 27 (upv v 12 ((z + (26 : Int)) + (q : Int))) (ueT 0 (h13) ++ ((if ¬ ((h13 : Nat) : Int) = (1 : Int) then (ueT 0 (sei (h14)) ++ (ueT 0 (sei (h15)))) else ([] : List Tok)) ++ D)) y15) ?_ ?_
  · skip
    exact ok_some hM13
  intro y15 hy15
  refine ok_chk (by rw [hh_len hK hh]; decide) ?_
  refine ok_ltt (fun x16 ex16 => ?_)
  have vx16 : x16.toInt = ((z + (26 : Int)) + (q : Int)) := by rw [ex16]; exact (rdu_r (k := 12) hy15 (by decide)).trans (rfl)
  rw [if_pos (show x16 ≤ (51 : Int32) from pz_le.mpr (by rw [(show (x16).toInt = ((z + (26 : Int)) + (q : Int)) from vx16), (show ((51 : Int32)).toInt = (51 : Int) from rfl)] <;> first | decide | omega))]
  refine ok_bnd (Q := fun y17 => RDU G M0 d f T (hd + 1) 27 (upv v 12 ((z + (26 : Int)) + (q : Int))) (ueT 0 (h13) ++ ((if ¬ ((h13 : Nat) : Int) = (1 : Int) then (ueT 0 (sei (h14)) ++ (ueT 0 (sei (h15)))) else ([] : List Tok)) ++ D)) y17) ?_ ?_
  · skip
    exact ok_some hy15
  intro y17 hy17
  refine ok_chk (by rw [gk_len hK (b := 94) (n := 12) (by decide) rfl]; decide) ?_
  refine ok_ltt (fun x18 ex18 => ?_)
  have vx18 : x18.toInt = (1 : Int) := by rw [ex18]; exact (congrArg Int32.toInt (rdu_o hy17 (by decide) (by rcases hh.2 with q | q | q <;> omega))).trans s94_9
  rw [if_pos (show x18 = (1 : Int32) from pz_eq.mpr (by rw [(show (x18).toInt = (1 : Int) from vx18), (show ((1 : Int32)).toInt = (1 : Int) from rfl)] <;> first | decide | omega))]
  refine ok_bnd (Q := fun y19 => RDU G M0 d f T (hd + 1) 27 (upv (upv (upv (upv v 12 ((z + (26 : Int)) + (q : Int))) 13 ((h13 : Nat) : Int)) 14 (if ((h13 : Nat) : Int) = (1 : Int) then (0 : Int) else (h14 : Int))) 15 (if ((h13 : Nat) : Int) = (1 : Int) then (0 : Int) else (h15 : Int))) D y19) ?_ ?_
  · skip
    refine ok_bnd (rdu_uns (x := h13) hy17 hK (hh_w hh) (by omega) (by show _ ≤ (2 : Int); omega)) ?_
    rintro y21 ⟨vy21, hy21⟩
    have vy21 : y21.2.toInt = ((h13 : Nat) : Int) := vy21
    have hy21 : RDU G M0 d f T (hd + 1) 27 (upv v 12 ((z + (26 : Int)) + (q : Int))) ((if ¬ ((h13 : Nat) : Int) = (1 : Int) then (ueT 0 (sei (h14)) ++ (ueT 0 (sei (h15)))) else ([] : List Tok)) ++ D) y21.1 := hy21
    refine ok_chk (by rw [hh_len hK hh]; decide) ?_
    refine ok_ltt (fun M22 eM22 => ?_)
    have hM22 : RDU G M0 d f T (hd + 1) 27 (upv (upv v 12 ((z + (26 : Int)) + (q : Int))) 13 ((h13 : Nat) : Int)) ((if ¬ ((h13 : Nat) : Int) = (1 : Int) then (ueT 0 (sei (h14)) ++ (ueT 0 (sei (h15)))) else ([] : List Tok)) ++ D) M22 := by rw [eM22]; exact rdu_w (k := 13) hy21 (hh_w hh) (rd_nd h hK hh) vy21
    refine ok_chk (by rw [hh_len hK hh]; decide) ?_
    refine ok_ltt (fun x23 ex23 => ?_)
    have vx23 : x23.toInt = ((h13 : Nat) : Int) := by rw [ex23]; exact (rdu_r (k := 13) hM22 (by decide)).trans (rfl)
    refine ok_bnd (Q := fun y24 => RDU G M0 d f T (hd + 1) 27 (upv (upv (upv (upv v 12 ((z + (26 : Int)) + (q : Int))) 13 ((h13 : Nat) : Int)) 14 (if ((h13 : Nat) : Int) = (1 : Int) then (0 : Int) else (h14 : Int))) 15 (if ((h13 : Nat) : Int) = (1 : Int) then (0 : Int) else (h15 : Int))) D y24) (ok_if ?_ ?_) ?_
    · intro hc
      have hq : (((h13 : Nat) : Int) = (1 : Int)) := by
        have q1 := (show _ = ((h13 : Nat) : Int) from vx23).symm.trans ((congrArg Int32.toInt hc).trans (show (1 : Int32).toInt = (1 : Int) from rfl))
        exact q1
      have hz : RDU G M0 d f T (hd + 1) 27 (upv (upv v 12 ((z + (26 : Int)) + (q : Int))) 13 ((h13 : Nat) : Int)) D M22 := by
        have z := hM22
        rw [if_neg (fun q => q hq)] at z
        simpa only [List.append_assoc, List.nil_append] using z
      refine ok_some (rdu_eqv (v := (upv (upv v 12 ((z + (26 : Int)) + (q : Int))) 13 ((h13 : Nat) : Int))) hz ?_)
      intro k hk
      simp only [upv, if_pos hq]
      by_cases z14 : k = 14
      · subst z14; first | exact (show (upv (upv v 12 ((z + (26 : Int)) + (q : Int))) 13 ((h13 : Nat) : Int)) 14 = v 14 from rfl).trans u14 | (simp; exact (show (upv (upv v 12 ((z + (26 : Int)) + (q : Int))) 13 ((h13 : Nat) : Int)) 14 = v 14 from rfl).trans u14)
      by_cases z15 : k = 15
      · subst z15; first | exact (show (upv (upv v 12 ((z + (26 : Int)) + (q : Int))) 13 ((h13 : Nat) : Int)) 15 = v 15 from rfl).trans u15 | (simp; exact (show (upv (upv v 12 ((z + (26 : Int)) + (q : Int))) 13 ((h13 : Nat) : Int)) 15 = v 15 from rfl).trans u15)
      simp only [if_neg z14, if_neg z15]
      all_goals ((repeat' split) <;> first | rfl | omega)
    · intro hc
      have hq : ¬ (((h13 : Nat) : Int) = (1 : Int)) := by
        exact fun q => hc (Int32.toInt_inj.1 (Eq.trans vx23 (Eq.trans q (Eq.symm rfl))))
      have hz : RDU G M0 d f T (hd + 1) 27 (upv (upv v 12 ((z + (26 : Int)) + (q : Int))) 13 ((h13 : Nat) : Int)) (ueT 0 (sei (h14)) ++ (ueT 0 (sei (h15)) ++ D)) M22 := by
        have z := hM22
        rw [if_pos hq] at z
        simpa only [List.append_assoc, List.nil_append] using z
      refine ok_bnd (rdu_sig (x := h14) hz hK (hh_w hh) (by show (-6 : Int) ≤ _; omega) (by show _ ≤ (6 : Int); omega) (by omega) (by omega)) ?_
      rintro y26 ⟨vy26, hy26⟩
      have vy26 : y26.2.toInt = (h14 : Int) := vy26
      have hy26 : RDU G M0 d f T (hd + 1) 27 (upv (upv v 12 ((z + (26 : Int)) + (q : Int))) 13 ((h13 : Nat) : Int)) (ueT 0 (sei (h15)) ++ D) y26.1 := hy26
      refine ok_chk (by rw [hh_len hK hh]; decide) ?_
      refine ok_ltt (fun M27 eM27 => ?_)
      have hM27 : RDU G M0 d f T (hd + 1) 27 (upv (upv (upv v 12 ((z + (26 : Int)) + (q : Int))) 13 ((h13 : Nat) : Int)) 14 (h14 : Int)) (ueT 0 (sei (h15)) ++ D) M27 := by rw [eM27]; exact rdu_w (k := 14) hy26 (hh_w hh) (rd_nd h hK hh) vy26
      refine ok_bnd (rdu_sig (x := h15) hM27 hK (hh_w hh) (by show (-6 : Int) ≤ _; omega) (by show _ ≤ (6 : Int); omega) (by omega) (by omega)) ?_
      rintro y28 ⟨vy28, hy28⟩
      have vy28 : y28.2.toInt = (h15 : Int) := vy28
      have hy28 : RDU G M0 d f T (hd + 1) 27 (upv (upv (upv v 12 ((z + (26 : Int)) + (q : Int))) 13 ((h13 : Nat) : Int)) 14 (h14 : Int)) D y28.1 := hy28
      refine ok_chk (by rw [hh_len hK hh]; decide) ?_
      refine ok_ltt (fun M29 eM29 => ?_)
      have hM29 : RDU G M0 d f T (hd + 1) 27 (upv (upv (upv (upv v 12 ((z + (26 : Int)) + (q : Int))) 13 ((h13 : Nat) : Int)) 14 (h14 : Int)) 15 (h15 : Int)) D M29 := by rw [eM29]; exact rdu_w (k := 15) hy28 (hh_w hh) (rd_nd h hK hh) vy28
      refine ok_some (rdu_eqv (v := (upv (upv (upv (upv v 12 ((z + (26 : Int)) + (q : Int))) 13 ((h13 : Nat) : Int)) 14 (h14 : Int)) 15 (h15 : Int))) hM29 ?_)
      intro k hk
      simp only [upv, if_neg hq]
      all_goals ((repeat' split) <;> first | rfl | omega)
    intro y24 hy24
    exact ok_some hy24
  intro y19 hy19
  exact ok_some hy19
theorem h_moves {G : GG} {M0 N : DD} {d hd : Nat} {f : Nat → Nat} {T : Nat} {v : Nat → Int} {D : List Tok} {p0 p1 : Int32} (hh : HH M0 hd) (hK : GK G M0)     (h : RDU G M0 d f T (hd + 1) 27 v (toks 0 (0) 1 ++ D) N) : OK (FX1_readMoves G N 12 p0 p1) (fun y => RDU G M0 d f T (hd + 1) 27 v D y) := by
  unfold FX1_readMoves
  refine ok_drR (b := 13) h hK rfl (by decide) rfl ?_
  refine ok_bnd (rdu_fixed (V := 0) (m := 1) h (hh_w hh) rfl rfl (by decide) (by decide) (by first | decide | omega)) ?_
  rintro y3 ⟨vy3, hy3⟩
  have vy3 : y3.2.toInt = (0 : Int) := vy3
  have hy3 : RDU G M0 d f T (hd + 1) 27 v D y3.1 := hy3
  rw [if_pos (show y3.2 = (0 : Int32) from pz_eq.mpr (by rw [(show (y3.2).toInt = (0 : Int) from vy3), (show ((0 : Int32)).toInt = (0 : Int) from rfl)] <;> first | decide | omega))]
  exact ok_some hy3
theorem h_markso {G : GG} {M0 N : DD} {d hd : Nat} {f : Nat → Nat} {T : Nat} {v : Nat → Int} {D : List Tok} {p0 : Int32} (hh : HH M0 hd) (hK : GK G M0)    (e0 : p0.toInt = 5) (h : RDU G M0 d f T (hd + 1) 27 v (toks 0 (0) 1 ++ (toks 0 (0) 1 ++ D)) N) : OK (FX1_readMarks G N 12 p0) (fun y => RDU G M0 d f T (hd + 1) 27 (upv (upv v 19 (0 : Int)) 20 (0 : Int)) D y) := by
  unfold FX1_readMarks
  refine ok_drH h hK hh ?_
  rw [if_pos (show p0 = (5 : Int32) from pz_eq.mpr (by rw [(show (p0).toInt = (5 : Int) from e0), (show ((5 : Int32)).toInt = (5 : Int) from rfl)] <;> first | decide | omega))]
  refine ok_drR (b := 13) h hK rfl (by decide) rfl ?_
  refine ok_bnd (rdu_fixed (V := 0) (m := 1) h (hh_w hh) rfl rfl (by decide) (by decide) (by first | decide | omega)) ?_
  rintro y58 ⟨vy58, hy58⟩
  have vy58 : y58.2.toInt = (0 : Int) := vy58
  have hy58 : RDU G M0 d f T (hd + 1) 27 v (toks 0 (0) 1 ++ D) y58.1 := hy58
  refine ok_drHW h hK hh ?_
  refine ok_chk (by rw [hh_len hK hh]; decide) ?_
  refine ok_ltt (fun M60 eM60 => ?_)
  have hM60 : RDU G M0 d f T (hd + 1) 27 (upv v 19 (0 : Int)) (toks 0 (0) 1 ++ D) M60 := by rw [eM60]; exact rdu_w (k := 19) hy58 (hh_w hh) (rd_nd h hK hh) vy58
  refine ok_drR (b := 13) hM60 hK rfl (by decide) rfl ?_
  refine ok_bnd (rdu_fixed (V := 0) (m := 1) hM60 (hh_w hh) rfl rfl (by decide) (by decide) (by first | decide | omega)) ?_
  rintro y62 ⟨vy62, hy62⟩
  have vy62 : y62.2.toInt = (0 : Int) := vy62
  have hy62 : RDU G M0 d f T (hd + 1) 27 (upv v 19 (0 : Int)) D y62.1 := hy62
  refine ok_chk (by rw [hh_len hK hh]; decide) ?_
  refine ok_ltt (fun M63 eM63 => ?_)
  have hM63 : RDU G M0 d f T (hd + 1) 27 (upv (upv v 19 (0 : Int)) 20 (0 : Int)) D M63 := by rw [eM63]; exact rdu_w (k := 20) hy62 (hh_w hh) (rd_nd h hK hh) vy62
  exact ok_some hM63
theorem h_marksn {G : GG} {M0 N : DD} {d hd : Nat} {f : Nat → Nat} {T : Nat} {v : Nat → Int} {D : List Tok} {p0 : Int32} (hh : HH M0 hd) (hK : GK G M0)    (e0 : p0.toInt = 1) (h : RDU G M0 d f T (hd + 1) 27 v (toks 0 (0) 1 ++ D) N) : OK (FX1_readMarks G N 12 p0) (fun y => RDU G M0 d f T (hd + 1) 27 v D y) := by
  unfold FX1_readMarks
  refine ok_drH h hK hh ?_
  rw [if_neg (show ¬ (p0 = (5 : Int32)) from fun qq => absurd (pz_eq.mp qq) (by rw [(show (p0).toInt = (1 : Int) from e0), (show ((5 : Int32)).toInt = (5 : Int) from rfl)] <;> first | decide | omega))]
  refine ok_drR (b := 13) h hK rfl (by decide) rfl ?_
  refine ok_bnd (rdu_fixed (V := 0) (m := 1) h (hh_w hh) rfl rfl (by decide) (by decide) (by first | decide | omega)) ?_
  rintro y5 ⟨vy5, hy5⟩
  have vy5 : y5.2.toInt = (0 : Int) := vy5
  have hy5 : RDU G M0 d f T (hd + 1) 27 v D y5.1 := hy5
  rw [if_pos (show y5.2 = (0 : Int32) from pz_eq.mpr (by rw [(show (y5.2).toInt = (0 : Int) from vy5), (show ((0 : Int32)).toInt = (0 : Int) from rfl)] <;> first | decide | omega))]
  exact ok_some hy5
theorem h_listp89 {G : GG} {M0 N : DD} {d hd : Nat} {f : Nat → Nat} {T : Nat} {v : Nat → Int} {D : List Tok} {o h9 : Nat} {r : Int} (hh : HH M0 hd) (hK : GK G M0) (u1 : v 1 = (0 : Int)) (s89_2 : (M0.1 89 2).toInt = (8 : Int)) (s94_3 : (M0.1 94 3).toInt = r) (s94_5 : (M0.1 94 5).toInt = (0 : Int))  (bo : o ≤ 1) (b9 : 1 ≤ h9 ∧ h9 ≤ 8) (h : RDU G M0 d f T (hd + 1) 27 v (toks 0 (o) 1 ++ ((if ((o : Nat) : Int) = (1 : Int) then (ueT 0 (h9 - 1)) else ([] : List Tok)) ++ (toks 0 (0) 1 ++ D))) N) : OK (FX1_readLists G N 12 (some 89) (some 94)) (fun y => RDU G M0 d f T (hd + 1) 27 (upv (upv (upv (upv v 8 (0 : Int)) 9 r) 10 (0 : Int)) 9 (if ((o : Nat) : Int) = (1 : Int) then (((h9 - 1 : Nat) : Int) + (1 : Int)) else r)) D y) := by
  unfold FX1_readLists
  refine ok_drH h hK hh ?_
  refine ok_drHW h hK hh ?_
  refine ok_chk (by rw [hh_len hK hh]; decide) ?_
  refine ok_ltt (fun x4 ex4 => ?_)
  have vx4 : x4.toInt = (0 : Int) := by rw [ex4]; exact (rdu_r (k := 1) h (by decide)).trans ((show v 1 = v 1 from rfl).trans u1)
  rw [if_neg (show ¬ (x4 = (1 : Int32)) from fun qq => absurd (pz_eq.mp qq) (by rw [(show (x4).toInt = (0 : Int) from vx4), (show ((1 : Int32)).toInt = (1 : Int) from rfl)] <;> first | decide | omega))]
  refine ok_bnd (Q := fun y5 => y5.toInt = (0 : Int)) ?_ ?_
  · skip
    exact ok_some (show ((0 : Int32)).toInt = (0 : Int) from rfl)
  intro y5 vy5
  rw [if_pos (show y5 = (0 : Int32) from pz_eq.mpr (by rw [(show (y5).toInt = (0 : Int) from vy5), (show ((0 : Int32)).toInt = (0 : Int) from rfl)] <;> first | decide | omega))]
  refine ok_bnd (Q := fun y6 => y6.1.toInt = (0 : Int) ∧ RDU G M0 d f T (hd + 1) 27 v (toks 0 (o) 1 ++ ((if ((o : Nat) : Int) = (1 : Int) then (ueT 0 (h9 - 1)) else ([] : List Tok)) ++ (toks 0 (0) 1 ++ D))) y6.2) ?_ ?_
  · skip
    exact ok_some ⟨show ((0 : Int32)).toInt = (0 : Int) from rfl, h⟩
  rintro y6 ⟨vy6, hy6⟩
  refine ok_chk (by rw [hh_len hK hh]; decide) ?_
  refine ok_ltt (fun M7 eM7 => ?_)
  have hM7 : RDU G M0 d f T (hd + 1) 27 (upv v 8 (0 : Int)) (toks 0 (o) 1 ++ ((if ((o : Nat) : Int) = (1 : Int) then (ueT 0 (h9 - 1)) else ([] : List Tok)) ++ (toks 0 (0) 1 ++ D))) M7 := by rw [eM7]; exact rdu_w (k := 8) hy6 (hh_w hh) (rd_nd h hK hh) vy6
  refine ok_drK (b := 94) hK (by decide) rfl ?_
  refine ok_chk (by rw [gk_len hK (b := 94) (n := 12) (by decide) rfl]; decide) ?_
  refine ok_ltt (fun x9 ex9 => ?_)
  have vx9 : x9.toInt = r := by rw [ex9]; exact (congrArg Int32.toInt (rdu_o hM7 (by decide) (by rcases hh.2 with q | q | q <;> omega))).trans s94_3
  refine ok_chk (by rw [hh_len hK hh]; decide) ?_
  refine ok_ltt (fun M10 eM10 => ?_)
  have hM10 : RDU G M0 d f T (hd + 1) 27 (upv (upv v 8 (0 : Int)) 9 r) (toks 0 (o) 1 ++ ((if ((o : Nat) : Int) = (1 : Int) then (ueT 0 (h9 - 1)) else ([] : List Tok)) ++ (toks 0 (0) 1 ++ D))) M10 := by rw [eM10]; exact rdu_w (k := 9) hM7 (hh_w hh) (rd_nd h hK hh) vx9
  rw [if_pos (show y5 = (0 : Int32) from pz_eq.mpr (by rw [(show (y5).toInt = (0 : Int) from vy5), (show ((0 : Int32)).toInt = (0 : Int) from rfl)] <;> first | decide | omega))]
  refine ok_bnd (Q := fun y11 => y11.toInt = (0 : Int)) ?_ ?_
  · skip
    exact ok_some (show ((0 : Int32)).toInt = (0 : Int) from rfl)
  intro y11 vy11
  refine ok_chk (by rw [hh_len hK hh]; decide) ?_
  refine ok_ltt (fun M12 eM12 => ?_)
  have hM12 : RDU G M0 d f T (hd + 1) 27 (upv (upv (upv v 8 (0 : Int)) 9 r) 10 (0 : Int)) (toks 0 (o) 1 ++ ((if ((o : Nat) : Int) = (1 : Int) then (ueT 0 (h9 - 1)) else ([] : List Tok)) ++ (toks 0 (0) 1 ++ D))) M12 := by rw [eM12]; exact rdu_w (k := 10) hM10 (hh_w hh) (rd_nd h hK hh) vy11
  refine ok_drR (b := 13) hM12 hK rfl (by decide) rfl ?_
  refine ok_bnd (rdu_fixed (V := o) (m := 1) hM12 (hh_w hh) rfl rfl (by decide) (by decide) (by first | decide | omega)) ?_
  rintro y14 ⟨vy14, hy14⟩
  have vy14 : y14.2.toInt = ((o : Nat) : Int) := vy14
  have hy14 : RDU G M0 d f T (hd + 1) 27 (upv (upv (upv v 8 (0 : Int)) 9 r) 10 (0 : Int)) ((if ((o : Nat) : Int) = (1 : Int) then (ueT 0 (h9 - 1)) else ([] : List Tok)) ++ (toks 0 (0) 1 ++ D)) y14.1 := hy14
  refine ok_bnd (Q := fun y15 => RDU G M0 d f T (hd + 1) 27 (upv (upv (upv (upv v 8 (0 : Int)) 9 r) 10 (0 : Int)) 9 (if ((o : Nat) : Int) = (1 : Int) then (((h9 - 1 : Nat) : Int) + (1 : Int)) else r)) (toks 0 (0) 1 ++ D) y15) (ok_if ?_ ?_) ?_
  · intro hc
    have hq : (((o : Nat) : Int) = (1 : Int)) := by
      have q1 := (show _ = ((o : Nat) : Int) from vy14).symm.trans ((congrArg Int32.toInt hc).trans (show (1 : Int32).toInt = (1 : Int) from rfl))
      exact q1
    have hz : RDU G M0 d f T (hd + 1) 27 (upv (upv (upv v 8 (0 : Int)) 9 r) 10 (0 : Int)) (ueT 0 (h9 - 1) ++ (toks 0 (0) 1 ++ D)) y14.1 := by
      have z := hy14
      rw [if_pos hq] at z
      simpa only [List.append_assoc, List.nil_append] using z
    refine ok_bnd (rdu_uns (x := h9 - 1) hz hK (hh_w hh) (by omega) (by show _ ≤ (7 : Int); omega)) ?_
    rintro y54 ⟨vy54, hy54⟩
    have vy54 : y54.2.toInt = ((h9 - 1 : Nat) : Int) := vy54
    have hy54 : RDU G M0 d f T (hd + 1) 27 (upv (upv (upv v 8 (0 : Int)) 9 r) 10 (0 : Int)) (toks 0 (0) 1 ++ D) y54.1 := hy54
    refine ok_ltt (fun x55 ex55 => ?_)
    have vx55 : x55.toInt = (((h9 - 1 : Nat) : Int) + (1 : Int)) := by
      have q1 : (y54.2).toInt = ((h9 - 1 : Nat) : Int) := vy54
      have q2 : ((1 : Int32)).toInt = (1 : Int) := rfl
      rw [ex55, ti_add (by rw [q1, q2]; omega) (by rw [q1, q2]; omega), q1, q2]
    refine ok_chk (by rw [hh_len hK hh]; decide) ?_
    refine ok_ltt (fun M56 eM56 => ?_)
    have hM56 : RDU G M0 d f T (hd + 1) 27 (upv (upv (upv (upv v 8 (0 : Int)) 9 r) 10 (0 : Int)) 9 (((h9 - 1 : Nat) : Int) + (1 : Int))) (toks 0 (0) 1 ++ D) M56 := by rw [eM56]; exact rdu_w (k := 9) hy54 (hh_w hh) (rd_nd h hK hh) vx55
    rw [if_pos (show y5 = (0 : Int32) from pz_eq.mpr (by rw [(show (y5).toInt = (0 : Int) from vy5), (show ((0 : Int32)).toInt = (0 : Int) from rfl)] <;> first | decide | omega))]
    refine ok_bnd (Q := fun y57 => y57.1.toInt = (0 : Int) ∧ RDU G M0 d f T (hd + 1) 27 (upv (upv (upv (upv v 8 (0 : Int)) 9 r) 10 (0 : Int)) 9 (((h9 - 1 : Nat) : Int) + (1 : Int))) (toks 0 (0) 1 ++ D) y57.2) ?_ ?_
    · skip
      exact ok_some ⟨show ((0 : Int32)).toInt = (0 : Int) from rfl, hM56⟩
    rintro y57 ⟨vy57, hy57⟩
    refine ok_chk (by rw [hh_len hK hh]; decide) ?_
    refine ok_ltt (fun M58 eM58 => ?_)
    have hM58 : RDU G M0 d f T (hd + 1) 27 (upv (upv (upv (upv (upv v 8 (0 : Int)) 9 r) 10 (0 : Int)) 9 (((h9 - 1 : Nat) : Int) + (1 : Int))) 10 (0 : Int)) (toks 0 (0) 1 ++ D) M58 := by rw [eM58]; exact rdu_w (k := 10) hy57 (hh_w hh) (rd_nd h hK hh) vy57
    refine ok_some (rdu_eqv (v := (upv (upv (upv (upv (upv v 8 (0 : Int)) 9 r) 10 (0 : Int)) 9 (((h9 - 1 : Nat) : Int) + (1 : Int))) 10 (0 : Int))) hM58 ?_)
    intro k hk
    simp only [upv, if_pos hq]
    all_goals ((repeat' split) <;> first | rfl | omega)
  · intro hc
    have hq : ¬ (((o : Nat) : Int) = (1 : Int)) := by
      exact fun q => hc (Int32.toInt_inj.1 (Eq.trans vy14 (Eq.trans q (Eq.symm rfl))))
    have hz : RDU G M0 d f T (hd + 1) 27 (upv (upv (upv v 8 (0 : Int)) 9 r) 10 (0 : Int)) (toks 0 (0) 1 ++ D) y14.1 := by
      have z := hy14
      rw [if_neg hq] at z
      simpa only [List.append_assoc, List.nil_append] using z
    refine ok_some (rdu_eqv (v := (upv (upv (upv v 8 (0 : Int)) 9 r) 10 (0 : Int))) hz ?_)
    intro k hk
    simp only [upv, if_neg hq]
    by_cases z9 : k = 9
    · subst z9; first | exact rfl | (simp; exact rfl)
    simp only [if_neg z9]
    all_goals ((repeat' split) <;> first | rfl | omega)
  intro y15 hy15
  refine ok_drK (b := 89) hK (by decide) rfl ?_
  refine ok_chk (by rw [gk_len hK (b := 89) (n := 24) (by decide) rfl]; decide) ?_
  refine ok_ltt (fun x17 ex17 => ?_)
  have vx17 : x17.toInt = (8 : Int) := by rw [ex17]; exact (congrArg Int32.toInt (rdu_o hy15 (by decide) (by rcases hh.2 with q | q | q <;> omega))).trans s89_2
  refine ok_ltt (fun x18 ex18 => ?_)
  refine ok_bnd (h_moves (v := (upv (upv (upv (upv v 8 (0 : Int)) 9 r) 10 (0 : Int)) 9 (if ((o : Nat) : Int) = (1 : Int) then (((h9 - 1 : Nat) : Int) + (1 : Int)) else r))) (D := D) hh hK  hy15) ?_
  intro y19 hy19
  have hy19 : RDU G M0 d f T (hd + 1) 27 (upv (upv (upv (upv v 8 (0 : Int)) 9 r) 10 (0 : Int)) 9 (if ((o : Nat) : Int) = (1 : Int) then (((h9 - 1 : Nat) : Int) + (1 : Int)) else r)) D y19 := hy19
  rw [if_pos (show y5 = (0 : Int32) from pz_eq.mpr (by rw [(show (y5).toInt = (0 : Int) from vy5), (show ((0 : Int32)).toInt = (0 : Int) from rfl)] <;> first | decide | omega))]
  refine ok_bnd (Q := fun y20 => RDU G M0 d f T (hd + 1) 27 (upv (upv (upv (upv v 8 (0 : Int)) 9 r) 10 (0 : Int)) 9 (if ((o : Nat) : Int) = (1 : Int) then (((h9 - 1 : Nat) : Int) + (1 : Int)) else r)) D y20) ?_ ?_
  · skip
    exact ok_some hy19
  intro y20 hy20
  rw [if_pos (show y5 = (0 : Int32) from pz_eq.mpr (by rw [(show (y5).toInt = (0 : Int) from vy5), (show ((0 : Int32)).toInt = (0 : Int) from rfl)] <;> first | decide | omega))]
  refine ok_bnd (Q := fun y21 => RDU G M0 d f T (hd + 1) 27 (upv (upv (upv (upv v 8 (0 : Int)) 9 r) 10 (0 : Int)) 9 (if ((o : Nat) : Int) = (1 : Int) then (((h9 - 1 : Nat) : Int) + (1 : Int)) else r)) D y21) ?_ ?_
  · skip
    refine ok_chk (by rw [gk_len hK (b := 94) (n := 12) (by decide) rfl]; decide) ?_
    refine ok_ltt (fun x23 ex23 => ?_)
    have vx23 : x23.toInt = (0 : Int) := by rw [ex23]; exact (congrArg Int32.toInt (rdu_o hy20 (by decide) (by rcases hh.2 with q | q | q <;> omega))).trans s94_5
    rw [if_neg (show ¬ (x23 = (1 : Int32)) from fun qq => absurd (pz_eq.mp qq) (by rw [(show (x23).toInt = (0 : Int) from vx23), (show ((1 : Int32)).toInt = (1 : Int) from rfl)] <;> first | decide | omega))]
    refine ok_bnd (Q := fun y24 => RDU G M0 d f T (hd + 1) 27 (upv (upv (upv (upv v 8 (0 : Int)) 9 r) 10 (0 : Int)) 9 (if ((o : Nat) : Int) = (1 : Int) then (((h9 - 1 : Nat) : Int) + (1 : Int)) else r)) D y24) ?_ ?_
    · skip
      exact ok_some hy20
    intro y24 hy24
    exact ok_some hy24
  intro y21 hy21
  exact ok_some hy21
theorem h_listp98 {G : GG} {M0 N : DD} {d hd : Nat} {f : Nat → Nat} {T : Nat} {v : Nat → Int} {D : List Tok} {o h9 : Nat} {r : Int} (hh : HH M0 hd) (hK : GK G M0) (u1 : v 1 = (0 : Int)) (s94_3 : (M0.1 94 3).toInt = r) (s94_5 : (M0.1 94 5).toInt = (0 : Int)) (s98_2 : (M0.1 98 2).toInt = (8 : Int))  (bo : o ≤ 1) (b9 : 1 ≤ h9 ∧ h9 ≤ 8) (h : RDU G M0 d f T (hd + 1) 27 v (toks 0 (o) 1 ++ ((if ((o : Nat) : Int) = (1 : Int) then (ueT 0 (h9 - 1)) else ([] : List Tok)) ++ (toks 0 (0) 1 ++ D))) N) : OK (FX1_readLists G N 12 (some 98) (some 94)) (fun y => RDU G M0 d f T (hd + 1) 27 (upv (upv (upv (upv v 8 (0 : Int)) 9 r) 10 (0 : Int)) 9 (if ((o : Nat) : Int) = (1 : Int) then (((h9 - 1 : Nat) : Int) + (1 : Int)) else r)) D y) := by
  unfold FX1_readLists
  refine ok_drH h hK hh ?_
  refine ok_drHW h hK hh ?_
  refine ok_chk (by rw [hh_len hK hh]; decide) ?_
  refine ok_ltt (fun x4 ex4 => ?_)
  have vx4 : x4.toInt = (0 : Int) := by rw [ex4]; exact (rdu_r (k := 1) h (by decide)).trans ((show v 1 = v 1 from rfl).trans u1)
  rw [if_neg (show ¬ (x4 = (1 : Int32)) from fun qq => absurd (pz_eq.mp qq) (by rw [(show (x4).toInt = (0 : Int) from vx4), (show ((1 : Int32)).toInt = (1 : Int) from rfl)] <;> first | decide | omega))]
  refine ok_bnd (Q := fun y5 => y5.toInt = (0 : Int)) ?_ ?_
  · skip
    exact ok_some (show ((0 : Int32)).toInt = (0 : Int) from rfl)
  intro y5 vy5
  rw [if_pos (show y5 = (0 : Int32) from pz_eq.mpr (by rw [(show (y5).toInt = (0 : Int) from vy5), (show ((0 : Int32)).toInt = (0 : Int) from rfl)] <;> first | decide | omega))]
  refine ok_bnd (Q := fun y6 => y6.1.toInt = (0 : Int) ∧ RDU G M0 d f T (hd + 1) 27 v (toks 0 (o) 1 ++ ((if ((o : Nat) : Int) = (1 : Int) then (ueT 0 (h9 - 1)) else ([] : List Tok)) ++ (toks 0 (0) 1 ++ D))) y6.2) ?_ ?_
  · skip
    exact ok_some ⟨show ((0 : Int32)).toInt = (0 : Int) from rfl, h⟩
  rintro y6 ⟨vy6, hy6⟩
  refine ok_chk (by rw [hh_len hK hh]; decide) ?_
  refine ok_ltt (fun M7 eM7 => ?_)
  have hM7 : RDU G M0 d f T (hd + 1) 27 (upv v 8 (0 : Int)) (toks 0 (o) 1 ++ ((if ((o : Nat) : Int) = (1 : Int) then (ueT 0 (h9 - 1)) else ([] : List Tok)) ++ (toks 0 (0) 1 ++ D))) M7 := by rw [eM7]; exact rdu_w (k := 8) hy6 (hh_w hh) (rd_nd h hK hh) vy6
  refine ok_drK (b := 94) hK (by decide) rfl ?_
  refine ok_chk (by rw [gk_len hK (b := 94) (n := 12) (by decide) rfl]; decide) ?_
  refine ok_ltt (fun x9 ex9 => ?_)
  have vx9 : x9.toInt = r := by rw [ex9]; exact (congrArg Int32.toInt (rdu_o hM7 (by decide) (by rcases hh.2 with q | q | q <;> omega))).trans s94_3
  refine ok_chk (by rw [hh_len hK hh]; decide) ?_
  refine ok_ltt (fun M10 eM10 => ?_)
  have hM10 : RDU G M0 d f T (hd + 1) 27 (upv (upv v 8 (0 : Int)) 9 r) (toks 0 (o) 1 ++ ((if ((o : Nat) : Int) = (1 : Int) then (ueT 0 (h9 - 1)) else ([] : List Tok)) ++ (toks 0 (0) 1 ++ D))) M10 := by rw [eM10]; exact rdu_w (k := 9) hM7 (hh_w hh) (rd_nd h hK hh) vx9
  rw [if_pos (show y5 = (0 : Int32) from pz_eq.mpr (by rw [(show (y5).toInt = (0 : Int) from vy5), (show ((0 : Int32)).toInt = (0 : Int) from rfl)] <;> first | decide | omega))]
  refine ok_bnd (Q := fun y11 => y11.toInt = (0 : Int)) ?_ ?_
  · skip
    exact ok_some (show ((0 : Int32)).toInt = (0 : Int) from rfl)
  intro y11 vy11
  refine ok_chk (by rw [hh_len hK hh]; decide) ?_
  refine ok_ltt (fun M12 eM12 => ?_)
  have hM12 : RDU G M0 d f T (hd + 1) 27 (upv (upv (upv v 8 (0 : Int)) 9 r) 10 (0 : Int)) (toks 0 (o) 1 ++ ((if ((o : Nat) : Int) = (1 : Int) then (ueT 0 (h9 - 1)) else ([] : List Tok)) ++ (toks 0 (0) 1 ++ D))) M12 := by rw [eM12]; exact rdu_w (k := 10) hM10 (hh_w hh) (rd_nd h hK hh) vy11
  refine ok_drR (b := 13) hM12 hK rfl (by decide) rfl ?_
  refine ok_bnd (rdu_fixed (V := o) (m := 1) hM12 (hh_w hh) rfl rfl (by decide) (by decide) (by first | decide | omega)) ?_
  rintro y14 ⟨vy14, hy14⟩
  have vy14 : y14.2.toInt = ((o : Nat) : Int) := vy14
  have hy14 : RDU G M0 d f T (hd + 1) 27 (upv (upv (upv v 8 (0 : Int)) 9 r) 10 (0 : Int)) ((if ((o : Nat) : Int) = (1 : Int) then (ueT 0 (h9 - 1)) else ([] : List Tok)) ++ (toks 0 (0) 1 ++ D)) y14.1 := hy14
  refine ok_bnd (Q := fun y15 => RDU G M0 d f T (hd + 1) 27 (upv (upv (upv (upv v 8 (0 : Int)) 9 r) 10 (0 : Int)) 9 (if ((o : Nat) : Int) = (1 : Int) then (((h9 - 1 : Nat) : Int) + (1 : Int)) else r)) (toks 0 (0) 1 ++ D) y15) (ok_if ?_ ?_) ?_
  · intro hc
    have hq : (((o : Nat) : Int) = (1 : Int)) := by
      have q1 := (show _ = ((o : Nat) : Int) from vy14).symm.trans ((congrArg Int32.toInt hc).trans (show (1 : Int32).toInt = (1 : Int) from rfl))
      exact q1
    have hz : RDU G M0 d f T (hd + 1) 27 (upv (upv (upv v 8 (0 : Int)) 9 r) 10 (0 : Int)) (ueT 0 (h9 - 1) ++ (toks 0 (0) 1 ++ D)) y14.1 := by
      have z := hy14
      rw [if_pos hq] at z
      simpa only [List.append_assoc, List.nil_append] using z
    refine ok_bnd (rdu_uns (x := h9 - 1) hz hK (hh_w hh) (by omega) (by show _ ≤ (7 : Int); omega)) ?_
    rintro y54 ⟨vy54, hy54⟩
    have vy54 : y54.2.toInt = ((h9 - 1 : Nat) : Int) := vy54
    have hy54 : RDU G M0 d f T (hd + 1) 27 (upv (upv (upv v 8 (0 : Int)) 9 r) 10 (0 : Int)) (toks 0 (0) 1 ++ D) y54.1 := hy54
    refine ok_ltt (fun x55 ex55 => ?_)
    have vx55 : x55.toInt = (((h9 - 1 : Nat) : Int) + (1 : Int)) := by
      have q1 : (y54.2).toInt = ((h9 - 1 : Nat) : Int) := vy54
      have q2 : ((1 : Int32)).toInt = (1 : Int) := rfl
      rw [ex55, ti_add (by rw [q1, q2]; omega) (by rw [q1, q2]; omega), q1, q2]
    refine ok_chk (by rw [hh_len hK hh]; decide) ?_
    refine ok_ltt (fun M56 eM56 => ?_)
    have hM56 : RDU G M0 d f T (hd + 1) 27 (upv (upv (upv (upv v 8 (0 : Int)) 9 r) 10 (0 : Int)) 9 (((h9 - 1 : Nat) : Int) + (1 : Int))) (toks 0 (0) 1 ++ D) M56 := by rw [eM56]; exact rdu_w (k := 9) hy54 (hh_w hh) (rd_nd h hK hh) vx55
    rw [if_pos (show y5 = (0 : Int32) from pz_eq.mpr (by rw [(show (y5).toInt = (0 : Int) from vy5), (show ((0 : Int32)).toInt = (0 : Int) from rfl)] <;> first | decide | omega))]
    refine ok_bnd (Q := fun y57 => y57.1.toInt = (0 : Int) ∧ RDU G M0 d f T (hd + 1) 27 (upv (upv (upv (upv v 8 (0 : Int)) 9 r) 10 (0 : Int)) 9 (((h9 - 1 : Nat) : Int) + (1 : Int))) (toks 0 (0) 1 ++ D) y57.2) ?_ ?_
    · skip
      exact ok_some ⟨show ((0 : Int32)).toInt = (0 : Int) from rfl, hM56⟩
    rintro y57 ⟨vy57, hy57⟩
    refine ok_chk (by rw [hh_len hK hh]; decide) ?_
    refine ok_ltt (fun M58 eM58 => ?_)
    have hM58 : RDU G M0 d f T (hd + 1) 27 (upv (upv (upv (upv (upv v 8 (0 : Int)) 9 r) 10 (0 : Int)) 9 (((h9 - 1 : Nat) : Int) + (1 : Int))) 10 (0 : Int)) (toks 0 (0) 1 ++ D) M58 := by rw [eM58]; exact rdu_w (k := 10) hy57 (hh_w hh) (rd_nd h hK hh) vy57
    refine ok_some (rdu_eqv (v := (upv (upv (upv (upv (upv v 8 (0 : Int)) 9 r) 10 (0 : Int)) 9 (((h9 - 1 : Nat) : Int) + (1 : Int))) 10 (0 : Int))) hM58 ?_)
    intro k hk
    simp only [upv, if_pos hq]
    all_goals ((repeat' split) <;> first | rfl | omega)
  · intro hc
    have hq : ¬ (((o : Nat) : Int) = (1 : Int)) := by
      exact fun q => hc (Int32.toInt_inj.1 (Eq.trans vy14 (Eq.trans q (Eq.symm rfl))))
    have hz : RDU G M0 d f T (hd + 1) 27 (upv (upv (upv v 8 (0 : Int)) 9 r) 10 (0 : Int)) (toks 0 (0) 1 ++ D) y14.1 := by
      have z := hy14
      rw [if_neg hq] at z
      simpa only [List.append_assoc, List.nil_append] using z
    refine ok_some (rdu_eqv (v := (upv (upv (upv v 8 (0 : Int)) 9 r) 10 (0 : Int))) hz ?_)
    intro k hk
    simp only [upv, if_neg hq]
    by_cases z9 : k = 9
    · subst z9; first | exact rfl | (simp; exact rfl)
    simp only [if_neg z9]
    all_goals ((repeat' split) <;> first | rfl | omega)
  intro y15 hy15
  refine ok_drK (b := 98) hK (by decide) rfl ?_
  refine ok_chk (by rw [gk_len hK (b := 98) (n := 24) (by decide) rfl]; decide) ?_
  refine ok_ltt (fun x17 ex17 => ?_)
  have vx17 : x17.toInt = (8 : Int) := by rw [ex17]; exact (congrArg Int32.toInt (rdu_o hy15 (by decide) (by rcases hh.2 with q | q | q <;> omega))).trans s98_2
  refine ok_ltt (fun x18 ex18 => ?_)
  refine ok_bnd (h_moves (v := (upv (upv (upv (upv v 8 (0 : Int)) 9 r) 10 (0 : Int)) 9 (if ((o : Nat) : Int) = (1 : Int) then (((h9 - 1 : Nat) : Int) + (1 : Int)) else r))) (D := D) hh hK  hy15) ?_
  intro y19 hy19
  have hy19 : RDU G M0 d f T (hd + 1) 27 (upv (upv (upv (upv v 8 (0 : Int)) 9 r) 10 (0 : Int)) 9 (if ((o : Nat) : Int) = (1 : Int) then (((h9 - 1 : Nat) : Int) + (1 : Int)) else r)) D y19 := hy19
  rw [if_pos (show y5 = (0 : Int32) from pz_eq.mpr (by rw [(show (y5).toInt = (0 : Int) from vy5), (show ((0 : Int32)).toInt = (0 : Int) from rfl)] <;> first | decide | omega))]
  refine ok_bnd (Q := fun y20 => RDU G M0 d f T (hd + 1) 27 (upv (upv (upv (upv v 8 (0 : Int)) 9 r) 10 (0 : Int)) 9 (if ((o : Nat) : Int) = (1 : Int) then (((h9 - 1 : Nat) : Int) + (1 : Int)) else r)) D y20) ?_ ?_
  · skip
    exact ok_some hy19
  intro y20 hy20
  rw [if_pos (show y5 = (0 : Int32) from pz_eq.mpr (by rw [(show (y5).toInt = (0 : Int) from vy5), (show ((0 : Int32)).toInt = (0 : Int) from rfl)] <;> first | decide | omega))]
  refine ok_bnd (Q := fun y21 => RDU G M0 d f T (hd + 1) 27 (upv (upv (upv (upv v 8 (0 : Int)) 9 r) 10 (0 : Int)) 9 (if ((o : Nat) : Int) = (1 : Int) then (((h9 - 1 : Nat) : Int) + (1 : Int)) else r)) D y21) ?_ ?_
  · skip
    refine ok_chk (by rw [gk_len hK (b := 94) (n := 12) (by decide) rfl]; decide) ?_
    refine ok_ltt (fun x23 ex23 => ?_)
    have vx23 : x23.toInt = (0 : Int) := by rw [ex23]; exact (congrArg Int32.toInt (rdu_o hy20 (by decide) (by rcases hh.2 with q | q | q <;> omega))).trans s94_5
    rw [if_neg (show ¬ (x23 = (1 : Int32)) from fun qq => absurd (pz_eq.mp qq) (by rw [(show (x23).toInt = (0 : Int) from vx23), (show ((1 : Int32)).toInt = (1 : Int) from rfl)] <;> first | decide | omega))]
    refine ok_bnd (Q := fun y24 => RDU G M0 d f T (hd + 1) 27 (upv (upv (upv (upv v 8 (0 : Int)) 9 r) 10 (0 : Int)) 9 (if ((o : Nat) : Int) = (1 : Int) then (((h9 - 1 : Nat) : Int) + (1 : Int)) else r)) D y24) ?_ ?_
    · skip
      exact ok_some hy20
    intro y24 hy24
    exact ok_some hy24
  intro y21 hy21
  exact ok_some hy21
theorem h_listb98 {G : GG} {M0 N : DD} {d hd : Nat} {f : Nat → Nat} {T : Nat} {v : Nat → Int} {D : List Tok} {o h8 h9 : Nat} {r r4 g : Int} (hh : HH M0 hd) (hK : GK G M0) (u1 : v 1 = (1 : Int)) (s94_3 : (M0.1 94 3).toInt = r) (s94_4 : (M0.1 94 4).toInt = r4) (s94_6 : (M0.1 94 6).toInt = g) (s98_2 : (M0.1 98 2).toInt = (8 : Int))  (b8 : h8 ≤ 1) (bo : o ≤ 1) (b9 : 1 ≤ h9 ∧ h9 ≤ 8) (bg : ¬ g = 1) (h : RDU G M0 d f T (hd + 1) 27 v (toks 0 (h8) 1 ++ (toks 0 (o) 1 ++ ((if ((o : Nat) : Int) = (1 : Int) then (ueT 0 (h9 - 1) ++ (ueT 0 (0))) else ([] : List Tok)) ++ (toks 0 (0) 1 ++ (toks 0 (0) 1 ++ D))))) N) : OK (FX1_readLists G N 12 (some 98) (some 94)) (fun y => RDU G M0 d f T (hd + 1) 27 (upv (upv (upv (upv (upv v 8 ((h8 : Nat) : Int)) 9 r) 10 r4) 9 (if ((o : Nat) : Int) = (1 : Int) then (((h9 - 1 : Nat) : Int) + (1 : Int)) else r)) 10 (if ((o : Nat) : Int) = (1 : Int) then (1 : Int) else r4)) D y) := by
  unfold FX1_readLists
  refine ok_drH h hK hh ?_
  refine ok_drHW h hK hh ?_
  refine ok_chk (by rw [hh_len hK hh]; decide) ?_
  refine ok_ltt (fun x4 ex4 => ?_)
  have vx4 : x4.toInt = (1 : Int) := by rw [ex4]; exact (rdu_r (k := 1) h (by decide)).trans ((show v 1 = v 1 from rfl).trans u1)
  rw [if_pos (show x4 = (1 : Int32) from pz_eq.mpr (by rw [(show (x4).toInt = (1 : Int) from vx4), (show ((1 : Int32)).toInt = (1 : Int) from rfl)] <;> first | decide | omega))]
  refine ok_bnd (Q := fun y5 => y5.toInt = (1 : Int)) ?_ ?_
  · skip
    exact ok_some (show ((1 : Int32)).toInt = (1 : Int) from rfl)
  intro y5 vy5
  rw [if_neg (show ¬ (y5 = (0 : Int32)) from fun qq => absurd (pz_eq.mp qq) (by rw [(show (y5).toInt = (1 : Int) from vy5), (show ((0 : Int32)).toInt = (0 : Int) from rfl)] <;> first | decide | omega))]
  refine ok_bnd (Q := fun y6 => y6.1.toInt = ((h8 : Nat) : Int) ∧ RDU G M0 d f T (hd + 1) 27 v (toks 0 (o) 1 ++ ((if ((o : Nat) : Int) = (1 : Int) then (ueT 0 (h9 - 1) ++ (ueT 0 (0))) else ([] : List Tok)) ++ (toks 0 (0) 1 ++ (toks 0 (0) 1 ++ D)))) y6.2) ?_ ?_
  · skip
    refine ok_drR (b := 13) h hK rfl (by decide) rfl ?_
    refine ok_bnd (rdu_fixed (V := h8) (m := 1) h (hh_w hh) rfl rfl (by decide) (by decide) (by first | decide | omega)) ?_
    rintro y66 ⟨vy66, hy66⟩
    have vy66 : y66.2.toInt = ((h8 : Nat) : Int) := vy66
    have hy66 : RDU G M0 d f T (hd + 1) 27 v (toks 0 (o) 1 ++ ((if ((o : Nat) : Int) = (1 : Int) then (ueT 0 (h9 - 1) ++ (ueT 0 (0))) else ([] : List Tok)) ++ (toks 0 (0) 1 ++ (toks 0 (0) 1 ++ D)))) y66.1 := hy66
    exact ok_some ⟨show (y66.2).toInt = ((h8 : Nat) : Int) from vy66, hy66⟩
  rintro y6 ⟨vy6, hy6⟩
  refine ok_chk (by rw [hh_len hK hh]; decide) ?_
  refine ok_ltt (fun M7 eM7 => ?_)
  have hM7 : RDU G M0 d f T (hd + 1) 27 (upv v 8 ((h8 : Nat) : Int)) (toks 0 (o) 1 ++ ((if ((o : Nat) : Int) = (1 : Int) then (ueT 0 (h9 - 1) ++ (ueT 0 (0))) else ([] : List Tok)) ++ (toks 0 (0) 1 ++ (toks 0 (0) 1 ++ D)))) M7 := by rw [eM7]; exact rdu_w (k := 8) hy6 (hh_w hh) (rd_nd h hK hh) vy6
  refine ok_drK (b := 94) hK (by decide) rfl ?_
  refine ok_chk (by rw [gk_len hK (b := 94) (n := 12) (by decide) rfl]; decide) ?_
  refine ok_ltt (fun x9 ex9 => ?_)
  have vx9 : x9.toInt = r := by rw [ex9]; exact (congrArg Int32.toInt (rdu_o hM7 (by decide) (by rcases hh.2 with q | q | q <;> omega))).trans s94_3
  refine ok_chk (by rw [hh_len hK hh]; decide) ?_
  refine ok_ltt (fun M10 eM10 => ?_)
  have hM10 : RDU G M0 d f T (hd + 1) 27 (upv (upv v 8 ((h8 : Nat) : Int)) 9 r) (toks 0 (o) 1 ++ ((if ((o : Nat) : Int) = (1 : Int) then (ueT 0 (h9 - 1) ++ (ueT 0 (0))) else ([] : List Tok)) ++ (toks 0 (0) 1 ++ (toks 0 (0) 1 ++ D)))) M10 := by rw [eM10]; exact rdu_w (k := 9) hM7 (hh_w hh) (rd_nd h hK hh) vx9
  rw [if_neg (show ¬ (y5 = (0 : Int32)) from fun qq => absurd (pz_eq.mp qq) (by rw [(show (y5).toInt = (1 : Int) from vy5), (show ((0 : Int32)).toInt = (0 : Int) from rfl)] <;> first | decide | omega))]
  refine ok_bnd (Q := fun y11 => y11.toInt = r4) ?_ ?_
  · skip
    refine ok_chk (by rw [gk_len hK (b := 94) (n := 12) (by decide) rfl]; decide) ?_
    refine ok_ltt (fun x63 ex63 => ?_)
    have vx63 : x63.toInt = r4 := by rw [ex63]; exact (congrArg Int32.toInt (rdu_o hM10 (by decide) (by rcases hh.2 with q | q | q <;> omega))).trans s94_4
    exact ok_some (show (x63).toInt = r4 from vx63)
  intro y11 vy11
  refine ok_chk (by rw [hh_len hK hh]; decide) ?_
  refine ok_ltt (fun M12 eM12 => ?_)
  have hM12 : RDU G M0 d f T (hd + 1) 27 (upv (upv (upv v 8 ((h8 : Nat) : Int)) 9 r) 10 r4) (toks 0 (o) 1 ++ ((if ((o : Nat) : Int) = (1 : Int) then (ueT 0 (h9 - 1) ++ (ueT 0 (0))) else ([] : List Tok)) ++ (toks 0 (0) 1 ++ (toks 0 (0) 1 ++ D)))) M12 := by rw [eM12]; exact rdu_w (k := 10) hM10 (hh_w hh) (rd_nd h hK hh) vy11
  refine ok_drR (b := 13) hM12 hK rfl (by decide) rfl ?_
  refine ok_bnd (rdu_fixed (V := o) (m := 1) hM12 (hh_w hh) rfl rfl (by decide) (by decide) (by first | decide | omega)) ?_
  rintro y14 ⟨vy14, hy14⟩
  have vy14 : y14.2.toInt = ((o : Nat) : Int) := vy14
  have hy14 : RDU G M0 d f T (hd + 1) 27 (upv (upv (upv v 8 ((h8 : Nat) : Int)) 9 r) 10 r4) ((if ((o : Nat) : Int) = (1 : Int) then (ueT 0 (h9 - 1) ++ (ueT 0 (0))) else ([] : List Tok)) ++ (toks 0 (0) 1 ++ (toks 0 (0) 1 ++ D))) y14.1 := hy14
  refine ok_bnd (Q := fun y15 => RDU G M0 d f T (hd + 1) 27 (upv (upv (upv (upv (upv v 8 ((h8 : Nat) : Int)) 9 r) 10 r4) 9 (if ((o : Nat) : Int) = (1 : Int) then (((h9 - 1 : Nat) : Int) + (1 : Int)) else r)) 10 (if ((o : Nat) : Int) = (1 : Int) then (1 : Int) else r4)) (toks 0 (0) 1 ++ (toks 0 (0) 1 ++ D)) y15) (ok_if ?_ ?_) ?_
  · intro hc
    have hq : (((o : Nat) : Int) = (1 : Int)) := by
      have q1 := (show _ = ((o : Nat) : Int) from vy14).symm.trans ((congrArg Int32.toInt hc).trans (show (1 : Int32).toInt = (1 : Int) from rfl))
      exact q1
    have hz : RDU G M0 d f T (hd + 1) 27 (upv (upv (upv v 8 ((h8 : Nat) : Int)) 9 r) 10 r4) (ueT 0 (h9 - 1) ++ (ueT 0 (0) ++ (toks 0 (0) 1 ++ (toks 0 (0) 1 ++ D)))) y14.1 := by
      have z := hy14
      rw [if_pos hq] at z
      simpa only [List.append_assoc, List.nil_append] using z
    refine ok_bnd (rdu_uns (x := h9 - 1) hz hK (hh_w hh) (by omega) (by show _ ≤ (7 : Int); omega)) ?_
    rintro y54 ⟨vy54, hy54⟩
    have vy54 : y54.2.toInt = ((h9 - 1 : Nat) : Int) := vy54
    have hy54 : RDU G M0 d f T (hd + 1) 27 (upv (upv (upv v 8 ((h8 : Nat) : Int)) 9 r) 10 r4) (ueT 0 (0) ++ (toks 0 (0) 1 ++ (toks 0 (0) 1 ++ D))) y54.1 := hy54
    refine ok_ltt (fun x55 ex55 => ?_)
    have vx55 : x55.toInt = (((h9 - 1 : Nat) : Int) + (1 : Int)) := by
      have q1 : (y54.2).toInt = ((h9 - 1 : Nat) : Int) := vy54
      have q2 : ((1 : Int32)).toInt = (1 : Int) := rfl
      rw [ex55, ti_add (by rw [q1, q2]; omega) (by rw [q1, q2]; omega), q1, q2]
    refine ok_chk (by rw [hh_len hK hh]; decide) ?_
    refine ok_ltt (fun M56 eM56 => ?_)
    have hM56 : RDU G M0 d f T (hd + 1) 27 (upv (upv (upv (upv v 8 ((h8 : Nat) : Int)) 9 r) 10 r4) 9 (((h9 - 1 : Nat) : Int) + (1 : Int))) (ueT 0 (0) ++ (toks 0 (0) 1 ++ (toks 0 (0) 1 ++ D))) M56 := by rw [eM56]; exact rdu_w (k := 9) hy54 (hh_w hh) (rd_nd h hK hh) vx55
    rw [if_neg (show ¬ (y5 = (0 : Int32)) from fun qq => absurd (pz_eq.mp qq) (by rw [(show (y5).toInt = (1 : Int) from vy5), (show ((0 : Int32)).toInt = (0 : Int) from rfl)] <;> first | decide | omega))]
    refine ok_bnd (Q := fun y57 => y57.1.toInt = (1 : Int) ∧ RDU G M0 d f T (hd + 1) 27 (upv (upv (upv (upv v 8 ((h8 : Nat) : Int)) 9 r) 10 r4) 9 (((h9 - 1 : Nat) : Int) + (1 : Int))) (toks 0 (0) 1 ++ (toks 0 (0) 1 ++ D)) y57.2) ?_ ?_
    · skip
      refine ok_bnd (rdu_uns (x := 0) hM56 hK (hh_w hh) (by omega) (by show _ ≤ (7 : Int); omega)) ?_
      rintro y60 ⟨vy60, hy60⟩
      have vy60 : y60.2.toInt = (0 : Int) := vy60
      have hy60 : RDU G M0 d f T (hd + 1) 27 (upv (upv (upv (upv v 8 ((h8 : Nat) : Int)) 9 r) 10 r4) 9 (((h9 - 1 : Nat) : Int) + (1 : Int))) (toks 0 (0) 1 ++ (toks 0 (0) 1 ++ D)) y60.1 := hy60
      refine ok_ltt (fun x61 ex61 => ?_)
      have vx61 : x61.toInt = (1 : Int) := by
        have q1 : (y60.2).toInt = (0 : Int) := vy60
        have q2 : ((1 : Int32)).toInt = (1 : Int) := rfl
        rw [ex61, ti_add (by rw [q1, q2]; omega) (by rw [q1, q2]; omega), q1, q2]; omega
      exact ok_some ⟨show (x61).toInt = (1 : Int) from vx61, hy60⟩
    rintro y57 ⟨vy57, hy57⟩
    refine ok_chk (by rw [hh_len hK hh]; decide) ?_
    refine ok_ltt (fun M58 eM58 => ?_)
    have hM58 : RDU G M0 d f T (hd + 1) 27 (upv (upv (upv (upv (upv v 8 ((h8 : Nat) : Int)) 9 r) 10 r4) 9 (((h9 - 1 : Nat) : Int) + (1 : Int))) 10 (1 : Int)) (toks 0 (0) 1 ++ (toks 0 (0) 1 ++ D)) M58 := by rw [eM58]; exact rdu_w (k := 10) hy57 (hh_w hh) (rd_nd h hK hh) vy57
    refine ok_some (rdu_eqv (v := (upv (upv (upv (upv (upv v 8 ((h8 : Nat) : Int)) 9 r) 10 r4) 9 (((h9 - 1 : Nat) : Int) + (1 : Int))) 10 (1 : Int))) hM58 ?_)
    intro k hk
    simp only [upv, if_pos hq]
    all_goals ((repeat' split) <;> first | rfl | omega)
  · intro hc
    have hq : ¬ (((o : Nat) : Int) = (1 : Int)) := by
      exact fun q => hc (Int32.toInt_inj.1 (Eq.trans vy14 (Eq.trans q (Eq.symm rfl))))
    have hz : RDU G M0 d f T (hd + 1) 27 (upv (upv (upv v 8 ((h8 : Nat) : Int)) 9 r) 10 r4) (toks 0 (0) 1 ++ (toks 0 (0) 1 ++ D)) y14.1 := by
      have z := hy14
      rw [if_neg hq] at z
      simpa only [List.append_assoc, List.nil_append] using z
    refine ok_some (rdu_eqv (v := (upv (upv (upv v 8 ((h8 : Nat) : Int)) 9 r) 10 r4)) hz ?_)
    intro k hk
    simp only [upv, if_neg hq]
    by_cases z9 : k = 9
    · subst z9; first | exact rfl | (simp; exact rfl)
    by_cases z10 : k = 10
    · subst z10; first | exact rfl | (simp; exact rfl)
    simp only [if_neg z9, if_neg z10]
    all_goals ((repeat' split) <;> first | rfl | omega)
  intro y15 hy15
  refine ok_drK (b := 98) hK (by decide) rfl ?_
  refine ok_chk (by rw [gk_len hK (b := 98) (n := 24) (by decide) rfl]; decide) ?_
  refine ok_ltt (fun x17 ex17 => ?_)
  have vx17 : x17.toInt = (8 : Int) := by rw [ex17]; exact (congrArg Int32.toInt (rdu_o hy15 (by decide) (by rcases hh.2 with q | q | q <;> omega))).trans s98_2
  refine ok_ltt (fun x18 ex18 => ?_)
  refine ok_bnd (h_moves (v := (upv (upv (upv (upv (upv v 8 ((h8 : Nat) : Int)) 9 r) 10 r4) 9 (if ((o : Nat) : Int) = (1 : Int) then (((h9 - 1 : Nat) : Int) + (1 : Int)) else r)) 10 (if ((o : Nat) : Int) = (1 : Int) then (1 : Int) else r4))) (D := (toks 0 (0) 1 ++ D)) hh hK  hy15) ?_
  intro y19 hy19
  have hy19 : RDU G M0 d f T (hd + 1) 27 (upv (upv (upv (upv (upv v 8 ((h8 : Nat) : Int)) 9 r) 10 r4) 9 (if ((o : Nat) : Int) = (1 : Int) then (((h9 - 1 : Nat) : Int) + (1 : Int)) else r)) 10 (if ((o : Nat) : Int) = (1 : Int) then (1 : Int) else r4)) (toks 0 (0) 1 ++ D) y19 := hy19
  rw [if_neg (show ¬ (y5 = (0 : Int32)) from fun qq => absurd (pz_eq.mp qq) (by rw [(show (y5).toInt = (1 : Int) from vy5), (show ((0 : Int32)).toInt = (0 : Int) from rfl)] <;> first | decide | omega))]
  refine ok_bnd (Q := fun y20 => RDU G M0 d f T (hd + 1) 27 (upv (upv (upv (upv (upv v 8 ((h8 : Nat) : Int)) 9 r) 10 r4) 9 (if ((o : Nat) : Int) = (1 : Int) then (((h9 - 1 : Nat) : Int) + (1 : Int)) else r)) 10 (if ((o : Nat) : Int) = (1 : Int) then (1 : Int) else r4)) D y20) ?_ ?_
  · skip
    refine ok_chk (by rw [gk_len hK (b := 98) (n := 24) (by decide) rfl]; decide) ?_
    refine ok_ltt (fun x50 ex50 => ?_)
    have vx50 : x50.toInt = (8 : Int) := by rw [ex50]; exact (congrArg Int32.toInt (rdu_o hy19 (by decide) (by rcases hh.2 with q | q | q <;> omega))).trans s98_2
    refine ok_ltt (fun x51 ex51 => ?_)
    refine ok_bnd (h_moves (v := (upv (upv (upv (upv (upv v 8 ((h8 : Nat) : Int)) 9 r) 10 r4) 9 (if ((o : Nat) : Int) = (1 : Int) then (((h9 - 1 : Nat) : Int) + (1 : Int)) else r)) 10 (if ((o : Nat) : Int) = (1 : Int) then (1 : Int) else r4))) (D := D) hh hK  hy19) ?_
    intro y52 hy52
    have hy52 : RDU G M0 d f T (hd + 1) 27 (upv (upv (upv (upv (upv v 8 ((h8 : Nat) : Int)) 9 r) 10 r4) 9 (if ((o : Nat) : Int) = (1 : Int) then (((h9 - 1 : Nat) : Int) + (1 : Int)) else r)) 10 (if ((o : Nat) : Int) = (1 : Int) then (1 : Int) else r4)) D y52 := hy52
    exact ok_some hy52
  intro y20 hy20
  rw [if_neg (show ¬ (y5 = (0 : Int32)) from fun qq => absurd (pz_eq.mp qq) (by rw [(show (y5).toInt = (1 : Int) from vy5), (show ((0 : Int32)).toInt = (0 : Int) from rfl)] <;> first | decide | omega))]
  refine ok_bnd (Q := fun y21 => RDU G M0 d f T (hd + 1) 27 (upv (upv (upv (upv (upv v 8 ((h8 : Nat) : Int)) 9 r) 10 r4) 9 (if ((o : Nat) : Int) = (1 : Int) then (((h9 - 1 : Nat) : Int) + (1 : Int)) else r)) 10 (if ((o : Nat) : Int) = (1 : Int) then (1 : Int) else r4)) D y21) ?_ ?_
  · skip
    refine ok_chk (by rw [gk_len hK (b := 94) (n := 12) (by decide) rfl]; decide) ?_
    refine ok_ltt (fun x36 ex36 => ?_)
    have vx36 : x36.toInt = g := by rw [ex36]; exact (congrArg Int32.toInt (rdu_o hy20 (by decide) (by rcases hh.2 with q | q | q <;> omega))).trans s94_6
    rw [if_neg (show ¬ (x36 = (1 : Int32)) from fun qq => absurd (pz_eq.mp qq) (by rw [(show (x36).toInt = g from vx36), (show ((1 : Int32)).toInt = (1 : Int) from rfl)] <;> first | decide | omega))]
    refine ok_bnd (Q := fun y37 => RDU G M0 d f T (hd + 1) 27 (upv (upv (upv (upv (upv v 8 ((h8 : Nat) : Int)) 9 r) 10 r4) 9 (if ((o : Nat) : Int) = (1 : Int) then (((h9 - 1 : Nat) : Int) + (1 : Int)) else r)) 10 (if ((o : Nat) : Int) = (1 : Int) then (1 : Int) else r4)) D y37) ?_ ?_
    · skip
      exact ok_some hy20
    intro y37 hy37
    exact ok_some hy37
  intro y21 hy21
  exact ok_some hy21
