/-! the header of a slice, read: printed out of the functions' trees -/
theorem h_headI {G : GG} {M0 N : DD} {d hd : Nat} {f : Nat → Nat} {T : Nat} {v : Nat → Int} {D : List Tok} {h0 h3 h4 h5 h13 : Nat} {p0 p1 : Int32} {h11 c z q h14 h15 w : Int}  (hh : HH M0 hd) (hK : GK G M0)  (s89_0 : (M0.1 89 0).toInt = w) (s89_1 : (M0.1 89 1).toInt = (2 : Int)) (s89_2 : (M0.1 89 2).toInt = (8 : Int)) (s89_3 : (M0.1 89 3).toInt = (0 : Int)) (s89_4 : (M0.1 89 4).toInt = (8 : Int)) (s89_23 : (M0.1 89 23).toInt = (1 : Int)) (s94_0 : (M0.1 94 0).toInt = (0 : Int)) (s94_1 : (M0.1 94 1).toInt = c) (s94_2 : (M0.1 94 2).toInt = (0 : Int)) (s94_7 : (M0.1 94 7).toInt = z) (s94_9 : (M0.1 94 9).toInt = (1 : Int)) (s94_11 : (M0.1 94 11).toInt = (1 : Int))  (e0 : p0.toInt = 5) (e1 : p1.toInt = h11) (bw : w = 1 ∨ w = 2) (b0 : (h0 : Int) < w * 2) (b3 : h3 < 256) (b4 : h4 < 65536) (b5 : h5 < 256) (bz : -26 ≤ z ∧ z ≤ 25) (bq : 0 ≤ z + 26 + q ∧ z + 26 + q ≤ 51) (b13 : h13 ≤ 2) (b14 : -6 ≤ h14 ∧ h14 ≤ 6) (b15 : -6 ≤ h15 ∧ h15 ≤ 6) (b11 : ¬ h11 = 0) (h : RDU G M0 d f T (hd + 1) 0 v (ueT 0 (h0) ++ (ueT 0 (2) ++ (ueT 0 (0) ++ (toks 0 (0) 8 ++ (ueT 0 (h4) ++ (toks 0 (h5) 8 ++ (toks 0 (0) 1 ++ (toks 0 (0) 1 ++ (ueT 0 (sei (q)) ++ (ueT 0 (h13) ++ ((if ¬ ((h13 : Nat) : Int) = (1 : Int) then (ueT 0 (sei (h14)) ++ (ueT 0 (sei (h15)))) else ([] : List Tok)) ++ D))))))))))) N) : OK (FX1_readHeader G N 12 p0 p1) (fun y => ∃ t21 : Int, RDU G M0 d f T (hd + 1) 27 (upv (upv (upv (upv (upv (upv (upv (upv (upv (upv (upv (upv (upv (upv (upv (fun _ => (0 : Int)) 18 (5 : Int)) 11 h11) 0 ((h0 : Nat) : Int)) 1 (2 : Int)) 2 (0 : Int)) 21 t21) 3 (0 : Int)) 4 ((h4 : Nat) : Int)) 5 ((h5 : Nat) : Int)) 19 (0 : Int)) 20 (0 : Int)) 12 ((z + (26 : Int)) + (q : Int))) 13 ((h13 : Nat) : Int)) 14 (if ((h13 : Nat) : Int) = (1 : Int) then (0 : Int) else (h14 : Int))) 15 (if ((h13 : Nat) : Int) = (1 : Int) then (0 : Int) else (h15 : Int))) D y) := by
  unfold FX1_readHeader
  refine ok_drH h hK hh ?_
  refine ok_bnd (rdu_fill (w := hd + 1) h (hh_w hh) (rd_nd h hK hh) (hh_k hK hh).1 (hh_k hK hh).2 (by rw [hh_len hK hh]; decide) (hh_r h hK hh) rfl) ?_
  rw [hh_len hK hh]
  intro y3 hy3
  have hy3 : RDU G M0 d f T (hd + 1) 27 (fun _ => (0 : Int)) (ueT 0 (h0) ++ (ueT 0 (2) ++ (ueT 0 (0) ++ (toks 0 (0) 8 ++ (ueT 0 (h4) ++ (toks 0 (h5) 8 ++ (toks 0 (0) 1 ++ (toks 0 (0) 1 ++ (ueT 0 (sei (q)) ++ (ueT 0 (h13) ++ ((if ¬ ((h13 : Nat) : Int) = (1 : Int) then (ueT 0 (sei (h14)) ++ (ueT 0 (sei (h15)))) else ([] : List Tok)) ++ D))))))))))) y3 := hy3
  refine ok_drHW h hK hh ?_
  refine ok_chk (by rw [hh_len hK hh]; decide) ?_
  refine ok_ltt (fun M5 eM5 => ?_)
  have hM5 : RDU G M0 d f T (hd + 1) 27 (upv (fun _ => (0 : Int)) 18 (5 : Int)) (ueT 0 (h0) ++ (ueT 0 (2) ++ (ueT 0 (0) ++ (toks 0 (0) 8 ++ (ueT 0 (h4) ++ (toks 0 (h5) 8 ++ (toks 0 (0) 1 ++ (toks 0 (0) 1 ++ (ueT 0 (sei (q)) ++ (ueT 0 (h13) ++ ((if ¬ ((h13 : Nat) : Int) = (1 : Int) then (ueT 0 (sei (h14)) ++ (ueT 0 (sei (h15)))) else ([] : List Tok)) ++ D))))))))))) M5 := by rw [eM5]; exact rdu_w (k := 18) hy3 (hh_w hh) (rd_nd h hK hh) e0
  refine ok_chk (by rw [hh_len hK hh]; decide) ?_
  refine ok_ltt (fun M6 eM6 => ?_)
  have hM6 : RDU G M0 d f T (hd + 1) 27 (upv (upv (fun _ => (0 : Int)) 18 (5 : Int)) 11 h11) (ueT 0 (h0) ++ (ueT 0 (2) ++ (ueT 0 (0) ++ (toks 0 (0) 8 ++ (ueT 0 (h4) ++ (toks 0 (h5) 8 ++ (toks 0 (0) 1 ++ (toks 0 (0) 1 ++ (ueT 0 (sei (q)) ++ (ueT 0 (h13) ++ ((if ¬ ((h13 : Nat) : Int) = (1 : Int) then (ueT 0 (sei (h14)) ++ (ueT 0 (sei (h15)))) else ([] : List Tok)) ++ D))))))))))) M6 := by rw [eM6]; exact rdu_w (k := 11) hM5 (hh_w hh) (rd_nd h hK hh) e1
  refine ok_drR (b := 13) hM6 hK rfl (by decide) rfl ?_
  refine ok_bnd (rdu_num0 (x := h0) hM6 (hh_w hh) rfl rfl (by omega) (by show (0 : Int) ≤ _; omega) (by show _ ≤ (4294967295 : Int); omega)) ?_
  rintro y8 ⟨vy8, hy8⟩
  have vy8 : y8.2.toInt = ((h0 : Nat) : Int) := vy8
  have hy8 : RDU G M0 d f T (hd + 1) 27 (upv (upv (fun _ => (0 : Int)) 18 (5 : Int)) 11 h11) (ueT 0 (2) ++ (ueT 0 (0) ++ (toks 0 (0) 8 ++ (ueT 0 (h4) ++ (toks 0 (h5) 8 ++ (toks 0 (0) 1 ++ (toks 0 (0) 1 ++ (ueT 0 (sei (q)) ++ (ueT 0 (h13) ++ ((if ¬ ((h13 : Nat) : Int) = (1 : Int) then (ueT 0 (sei (h14)) ++ (ueT 0 (sei (h15)))) else ([] : List Tok)) ++ D)))))))))) y8.1 := hy8
  refine ok_chk (by rw [hh_len hK hh]; decide) ?_
  refine ok_ltt (fun M9 eM9 => ?_)
  have hM9 : RDU G M0 d f T (hd + 1) 27 (upv (upv (upv (fun _ => (0 : Int)) 18 (5 : Int)) 11 h11) 0 ((h0 : Nat) : Int)) (ueT 0 (2) ++ (ueT 0 (0) ++ (toks 0 (0) 8 ++ (ueT 0 (h4) ++ (toks 0 (h5) 8 ++ (toks 0 (0) 1 ++ (toks 0 (0) 1 ++ (ueT 0 (sei (q)) ++ (ueT 0 (h13) ++ ((if ¬ ((h13 : Nat) : Int) = (1 : Int) then (ueT 0 (sei (h14)) ++ (ueT 0 (sei (h15)))) else ([] : List Tok)) ++ D)))))))))) M9 := by rw [eM9]; exact rdu_w (k := 0) hy8 (hh_w hh) (rd_nd h hK hh) vy8
  refine ok_drR (b := 13) hM9 hK rfl (by decide) rfl ?_
  refine ok_ltt (fun x11 ex11 => ?_)
  refine ok_bnd (rdu_uns (x := 2) hM9 hK (hh_w hh) (by omega) (by show _ ≤ (9 : Int); omega)) ?_
  rintro y12 ⟨vy12, hy12⟩
  have vy12 : y12.2.toInt = (2 : Int) := vy12
  have hy12 : RDU G M0 d f T (hd + 1) 27 (upv (upv (upv (fun _ => (0 : Int)) 18 (5 : Int)) 11 h11) 0 ((h0 : Nat) : Int)) (ueT 0 (0) ++ (toks 0 (0) 8 ++ (ueT 0 (h4) ++ (toks 0 (h5) 8 ++ (toks 0 (0) 1 ++ (toks 0 (0) 1 ++ (ueT 0 (sei (q)) ++ (ueT 0 (h13) ++ ((if ¬ ((h13 : Nat) : Int) = (1 : Int) then (ueT 0 (sei (h14)) ++ (ueT 0 (sei (h15)))) else ([] : List Tok)) ++ D))))))))) y12.1 := hy12
  refine ok_ltt (fun x13 ex13 => ?_)
  have vx13 : x13.toInt = (2 : Int) := by rw [ex13, show y12.2 = (2 : Int32) from Int32.toInt_inj.1 vy12]; decide
  refine ok_chk (by rw [hh_len hK hh]; decide) ?_
  refine ok_ltt (fun M14 eM14 => ?_)
  have hM14 : RDU G M0 d f T (hd + 1) 27 (upv (upv (upv (upv (fun _ => (0 : Int)) 18 (5 : Int)) 11 h11) 0 ((h0 : Nat) : Int)) 1 (2 : Int)) (ueT 0 (0) ++ (toks 0 (0) 8 ++ (ueT 0 (h4) ++ (toks 0 (h5) 8 ++ (toks 0 (0) 1 ++ (toks 0 (0) 1 ++ (ueT 0 (sei (q)) ++ (ueT 0 (h13) ++ ((if ¬ ((h13 : Nat) : Int) = (1 : Int) then (ueT 0 (sei (h14)) ++ (ueT 0 (sei (h15)))) else ([] : List Tok)) ++ D))))))))) M14 := by rw [eM14]; exact rdu_w (k := 1) hy12 (hh_w hh) (rd_nd h hK hh) vx13
  refine ok_chk (by rw [hh_len hK hh]; decide) ?_
  refine ok_ltt (fun x15 ex15 => ?_)
  have vx15 : x15.toInt = (2 : Int) := by rw [ex15]; exact (rdu_r (k := 1) hM14 (by decide)).trans (rfl)
  rw [if_neg (show ¬ ((2 : Int32) < x15) from fun qq => absurd (pz_lt.mp qq) (by rw [(show ((2 : Int32)).toInt = (2 : Int) from rfl), (show (x15).toInt = (2 : Int) from vx15)] <;> first | decide | omega))]
  refine ok_bnd (Q := fun y16 => RDU G M0 d f T (hd + 1) 27 (upv (upv (upv (upv (fun _ => (0 : Int)) 18 (5 : Int)) 11 h11) 0 ((h0 : Nat) : Int)) 1 (2 : Int)) (ueT 0 (0) ++ (toks 0 (0) 8 ++ (ueT 0 (h4) ++ (toks 0 (h5) 8 ++ (toks 0 (0) 1 ++ (toks 0 (0) 1 ++ (ueT 0 (sei (q)) ++ (ueT 0 (h13) ++ ((if ¬ ((h13 : Nat) : Int) = (1 : Int) then (ueT 0 (sei (h14)) ++ (ueT 0 (sei (h15)))) else ([] : List Tok)) ++ D))))))))) y16) ?_ ?_
  · skip
    exact ok_some hM14
  intro y16 hy16
  rw [if_pos (show p0 = (5 : Int32) from pz_eq.mpr (by rw [(show (p0).toInt = (5 : Int) from e0), (show ((5 : Int32)).toInt = (5 : Int) from rfl)] <;> first | decide | omega))]
  refine ok_bnd (Q := fun y17 => RDU G M0 d f T (hd + 1) 27 (upv (upv (upv (upv (fun _ => (0 : Int)) 18 (5 : Int)) 11 h11) 0 ((h0 : Nat) : Int)) 1 (2 : Int)) (ueT 0 (0) ++ (toks 0 (0) 8 ++ (ueT 0 (h4) ++ (toks 0 (h5) 8 ++ (toks 0 (0) 1 ++ (toks 0 (0) 1 ++ (ueT 0 (sei (q)) ++ (ueT 0 (h13) ++ ((if ¬ ((h13 : Nat) : Int) = (1 : Int) then (ueT 0 (sei (h14)) ++ (ueT 0 (sei (h15)))) else ([] : List Tok)) ++ D))))))))) y17) ?_ ?_
  · skip
    refine ok_chk (by rw [hh_len hK hh]; decide) ?_
    refine ok_ltt (fun x82 ex82 => ?_)
    have vx82 : x82.toInt = (2 : Int) := by rw [ex82]; exact (rdu_r (k := 1) hy16 (by decide)).trans (rfl)
    rw [if_pos (show x82 = (2 : Int32) from pz_eq.mpr (by rw [(show (x82).toInt = (2 : Int) from vx82), (show ((2 : Int32)).toInt = (2 : Int) from rfl)] <;> first | decide | omega))]
    refine ok_bnd (Q := fun y83 => RDU G M0 d f T (hd + 1) 27 (upv (upv (upv (upv (fun _ => (0 : Int)) 18 (5 : Int)) 11 h11) 0 ((h0 : Nat) : Int)) 1 (2 : Int)) (ueT 0 (0) ++ (toks 0 (0) 8 ++ (ueT 0 (h4) ++ (toks 0 (h5) 8 ++ (toks 0 (0) 1 ++ (toks 0 (0) 1 ++ (ueT 0 (sei (q)) ++ (ueT 0 (h13) ++ ((if ¬ ((h13 : Nat) : Int) = (1 : Int) then (ueT 0 (sei (h14)) ++ (ueT 0 (sei (h15)))) else ([] : List Tok)) ++ D))))))))) y83) ?_ ?_
    · skip
      exact ok_some hy16
    intro y83 hy83
    exact ok_some hy83
  intro y17 hy17
  refine ok_bnd (rdu_uns (x := 0) hy17 hK (hh_w hh) (by omega) (by show _ ≤ (3 : Int); omega)) ?_
  rintro y18 ⟨vy18, hy18⟩
  have vy18 : y18.2.toInt = (0 : Int) := vy18
  have hy18 : RDU G M0 d f T (hd + 1) 27 (upv (upv (upv (upv (fun _ => (0 : Int)) 18 (5 : Int)) 11 h11) 0 ((h0 : Nat) : Int)) 1 (2 : Int)) (toks 0 (0) 8 ++ (ueT 0 (h4) ++ (toks 0 (h5) 8 ++ (toks 0 (0) 1 ++ (toks 0 (0) 1 ++ (ueT 0 (sei (q)) ++ (ueT 0 (h13) ++ ((if ¬ ((h13 : Nat) : Int) = (1 : Int) then (ueT 0 (sei (h14)) ++ (ueT 0 (sei (h15)))) else ([] : List Tok)) ++ D)))))))) y18.1 := hy18
  refine ok_chk (by rw [hh_len hK hh]; decide) ?_
  refine ok_ltt (fun M19 eM19 => ?_)
  have hM19 : RDU G M0 d f T (hd + 1) 27 (upv (upv (upv (upv (upv (fun _ => (0 : Int)) 18 (5 : Int)) 11 h11) 0 ((h0 : Nat) : Int)) 1 (2 : Int)) 2 (0 : Int)) (toks 0 (0) 8 ++ (ueT 0 (h4) ++ (toks 0 (h5) 8 ++ (toks 0 (0) 1 ++ (toks 0 (0) 1 ++ (ueT 0 (sei (q)) ++ (ueT 0 (h13) ++ ((if ¬ ((h13 : Nat) : Int) = (1 : Int) then (ueT 0 (sei (h14)) ++ (ueT 0 (sei (h15)))) else ([] : List Tok)) ++ D)))))))) M19 := by rw [eM19]; exact rdu_w (k := 2) hy18 (hh_w hh) (rd_nd h hK hh) vy18
  refine ok_chk (by rw [hh_len hK hh]; decide) ?_
  refine ok_ltt (fun x20 ex20 => ?_)
  have vx20 : x20.toInt = (0 : Int) := by rw [ex20]; exact (rdu_r (k := 2) hM19 (by decide)).trans (rfl)
  refine ok_drR (b := 93) hM19 hK rfl (by decide) rfl ?_
  refine ok_chk (by rw [show x20 = (0 : Int32) from Int32.toInt_inj.1 vx20, gk_len hK (b := 93) (n := 4) (by decide) rfl]; decide) ?_
  rw [show (x20).toNatClampNeg = 0 from by rw [show x20 = (0 : Int32) from Int32.toInt_inj.1 vx20]; rfl]
  rw [rdu_ref (b := 94) hM19 hK rfl (by decide)]
  refine ok_drK (b := 94) hK (by decide) rfl ?_
  refine ok_chk (by rw [gk_len hK (b := 94) (n := 12) (by decide) rfl]; decide) ?_
  refine ok_ltt (fun x23 ex23 => ?_)
  have vx23 : x23.toInt = (0 : Int) := by rw [ex23]; exact (congrArg Int32.toInt (rdu_o hM19 (by decide) (by rcases hh.2 with q | q | q <;> omega))).trans s94_0
  refine ok_chk (by rw [gk_len hK (b := 94) (n := 12) (by decide) rfl]; decide) ?_
  refine ok_ltt (fun x24 ex24 => ?_)
  have vx24 : x24.toInt = (1 : Int) := by rw [ex24]; exact (congrArg Int32.toInt (rdu_o hM19 (by decide) (by rcases hh.2 with q | q | q <;> omega))).trans s94_11
  rw [if_neg (show ¬ (x24 = (0 : Int32)) from fun qq => absurd (pz_eq.mp qq) (by rw [(show (x24).toInt = (1 : Int) from vx24), (show ((0 : Int32)).toInt = (0 : Int) from rfl)] <;> first | decide | omega))]
  refine ok_bnd (Q := fun y25 => RDU G M0 d f T (hd + 1) 27 (upv (upv (upv (upv (upv (fun _ => (0 : Int)) 18 (5 : Int)) 11 h11) 0 ((h0 : Nat) : Int)) 1 (2 : Int)) 2 (0 : Int)) (toks 0 (0) 8 ++ (ueT 0 (h4) ++ (toks 0 (h5) 8 ++ (toks 0 (0) 1 ++ (toks 0 (0) 1 ++ (ueT 0 (sei (q)) ++ (ueT 0 (h13) ++ ((if ¬ ((h13 : Nat) : Int) = (1 : Int) then (ueT 0 (sei (h14)) ++ (ueT 0 (sei (h15)))) else ([] : List Tok)) ++ D)))))))) y25) ?_ ?_
  · skip
    exact ok_some hM19
  intro y25 hy25
  refine ok_drR (b := 88) hy25 hK rfl (by decide) rfl ?_
  refine ok_chk (by rw [show x23 = (0 : Int32) from Int32.toInt_inj.1 vx23, gk_len hK (b := 88) (n := 4) (by decide) rfl]; decide) ?_
  rw [show (x23).toNatClampNeg = 0 from by rw [show x23 = (0 : Int32) from Int32.toInt_inj.1 vx23]; rfl]
  rw [rdu_ref (b := 89) hy25 hK rfl (by decide)]
  refine ok_drK (b := 89) hK (by decide) rfl ?_
  refine ok_chk (by rw [gk_len hK (b := 89) (n := 24) (by decide) rfl]; decide) ?_
  refine ok_ltt (fun x28 ex28 => ?_)
  have vx28 : x28.toInt = (1 : Int) := by rw [ex28]; exact (congrArg Int32.toInt (rdu_o hy25 (by decide) (by rcases hh.2 with q | q | q <;> omega))).trans s89_23
  rw [if_neg (show ¬ (x28 = (0 : Int32)) from fun qq => absurd (pz_eq.mp qq) (by rw [(show (x28).toInt = (1 : Int) from vx28), (show ((0 : Int32)).toInt = (0 : Int) from rfl)] <;> first | decide | omega))]
  refine ok_bnd (Q := fun y29 => RDU G M0 d f T (hd + 1) 27 (upv (upv (upv (upv (upv (fun _ => (0 : Int)) 18 (5 : Int)) 11 h11) 0 ((h0 : Nat) : Int)) 1 (2 : Int)) 2 (0 : Int)) (toks 0 (0) 8 ++ (ueT 0 (h4) ++ (toks 0 (h5) 8 ++ (toks 0 (0) 1 ++ (toks 0 (0) 1 ++ (ueT 0 (sei (q)) ++ (ueT 0 (h13) ++ ((if ¬ ((h13 : Nat) : Int) = (1 : Int) then (ueT 0 (sei (h14)) ++ (ueT 0 (sei (h15)))) else ([] : List Tok)) ++ D)))))))) y29) ?_ ?_
  · skip
    exact ok_some hy25
  intro y29 hy29
  rw [if_neg (show ¬ (p0 = (1 : Int32)) from fun qq => absurd (pz_eq.mp qq) (by rw [(show (p0).toInt = (5 : Int) from e0), (show ((1 : Int32)).toInt = (1 : Int) from rfl)] <;> first | decide | omega))]
  refine ok_bnd (Q := fun y30 => RDU G M0 d f T (hd + 1) 27 (upv (upv (upv (upv (upv (fun _ => (0 : Int)) 18 (5 : Int)) 11 h11) 0 ((h0 : Nat) : Int)) 1 (2 : Int)) 2 (0 : Int)) (toks 0 (0) 8 ++ (ueT 0 (h4) ++ (toks 0 (h5) 8 ++ (toks 0 (0) 1 ++ (toks 0 (0) 1 ++ (ueT 0 (sei (q)) ++ (ueT 0 (h13) ++ ((if ¬ ((h13 : Nat) : Int) = (1 : Int) then (ueT 0 (sei (h14)) ++ (ueT 0 (sei (h15)))) else ([] : List Tok)) ++ D)))))))) y30) ?_ ?_
  · skip
    exact ok_some hy29
  intro y30 hy30
  rw [if_neg (show ¬ (p0 = (1 : Int32)) from fun qq => absurd (pz_eq.mp qq) (by rw [(show (p0).toInt = (5 : Int) from e0), (show ((1 : Int32)).toInt = (1 : Int) from rfl)] <;> first | decide | omega))]
  refine ok_bnd (Q := fun y => y = some 89) ?_ ?_
  · skip
    refine ok_drR (b := 88) hy30 hK rfl (by decide) rfl ?_
    refine ok_chk (by rw [show x23 = (0 : Int32) from Int32.toInt_inj.1 vx23, gk_len hK (b := 88) (n := 4) (by decide) rfl]; decide) ?_
    try rw [show (x23).toNatClampNeg = 0 from by rw [show x23 = (0 : Int32) from Int32.toInt_inj.1 vx23]; rfl]
    exact ok_some (rdu_ref (b := 89) hy30 hK rfl (by decide))
  intro y31 ey31
  subst ey31
  refine ok_chk (by rw [hh_len hK hh]; decide) ?_
  refine ok_ltt (fun x32 ex32 => ?_)
  have vx32 : x32.toInt = ((h0 : Nat) : Int) := by rw [ex32]; exact (rdu_r (k := 0) hy30 (by decide)).trans (rfl)
  rw [if_neg (show ¬ (x32 < (0 : Int32)) from fun qq => absurd (pz_lt.mp qq) (by rw [(show (x32).toInt = ((h0 : Nat) : Int) from vx32), (show ((0 : Int32)).toInt = (0 : Int) from rfl)] <;> first | decide | omega))]
  refine ok_bnd (Q := fun y33 => RDU G M0 d f T (hd + 1) 27 (upv (upv (upv (upv (upv (fun _ => (0 : Int)) 18 (5 : Int)) 11 h11) 0 ((h0 : Nat) : Int)) 1 (2 : Int)) 2 (0 : Int)) (toks 0 (0) 8 ++ (ueT 0 (h4) ++ (toks 0 (h5) 8 ++ (toks 0 (0) 1 ++ (toks 0 (0) 1 ++ (ueT 0 (sei (q)) ++ (ueT 0 (h13) ++ ((if ¬ ((h13 : Nat) : Int) = (1 : Int) then (ueT 0 (sei (h14)) ++ (ueT 0 (sei (h15)))) else ([] : List Tok)) ++ D)))))))) y33) ?_ ?_
  · skip
    exact ok_some hy30
  intro y33 hy33
  refine ok_chk (by rw [hh_len hK hh]; decide) ?_
  refine ok_ltt (fun x34 ex34 => ?_)
  have vx34 : x34.toInt = ((h0 : Nat) : Int) := by rw [ex34]; exact (rdu_r (k := 0) hy33 (by decide)).trans (rfl)
  refine ok_drK (b := 89) hK (by decide) rfl ?_
  refine ok_chk (by rw [gk_len hK (b := 89) (n := 24) (by decide) rfl]; decide) ?_
  refine ok_ltt (fun x36 ex36 => ?_)
  have vx36 : x36.toInt = w := by rw [ex36]; exact (congrArg Int32.toInt (rdu_o hy33 (by decide) (by rcases hh.2 with q | q | q <;> omega))).trans s89_0
  refine ok_chk (by rw [gk_len hK (b := 89) (n := 24) (by decide) rfl]; decide) ?_
  refine ok_ltt (fun x37 ex37 => ?_)
  have vx37 : x37.toInt = (2 : Int) := by rw [ex37]; exact (congrArg Int32.toInt (rdu_o hy33 (by decide) (by rcases hh.2 with q | q | q <;> omega))).trans s89_1
  refine ok_ltt (fun x38 ex38 => ?_)
  have vx38 : x38.toInt = (w * (2 : Int)) := by
    have q1 : (x36).toInt = w := vx36
    have q2 : (x37).toInt = (2 : Int) := vx37
    rw [ex38, ti_mul (by rw [q1, q2]; omega) (by rw [q1, q2]; omega), q1, q2]
  rw [if_pos (show x34 < x38 from pz_lt.mpr (by rw [(show (x34).toInt = ((h0 : Nat) : Int) from vx34), (show (x38).toInt = (w * (2 : Int)) from vx38)] <;> first | decide | omega))]
  refine ok_bnd (Q := fun y39 => RDU G M0 d f T (hd + 1) 27 (upv (upv (upv (upv (upv (fun _ => (0 : Int)) 18 (5 : Int)) 11 h11) 0 ((h0 : Nat) : Int)) 1 (2 : Int)) 2 (0 : Int)) (toks 0 (0) 8 ++ (ueT 0 (h4) ++ (toks 0 (h5) 8 ++ (toks 0 (0) 1 ++ (toks 0 (0) 1 ++ (ueT 0 (sei (q)) ++ (ueT 0 (h13) ++ ((if ¬ ((h13 : Nat) : Int) = (1 : Int) then (ueT 0 (sei (h14)) ++ (ueT 0 (sei (h15)))) else ([] : List Tok)) ++ D)))))))) y39) ?_ ?_
  · skip
    exact ok_some hy33
  intro y39 hy39
  refine ok_drR (b := 13) hy39 hK rfl (by decide) rfl ?_
  refine ok_ltt (fun x41 ex41 => ?_)
  refine ok_chk (by rw [hh_len hK hh]; decide) ?_
  refine ok_ltt (fun M42 eM42 => ?_)
  have hM42 : RDU G M0 d f T (hd + 1) 27 (upv (upv (upv (upv (upv (upv (fun _ => (0 : Int)) 18 (5 : Int)) 11 h11) 0 ((h0 : Nat) : Int)) 1 (2 : Int)) 2 (0 : Int)) 21 x41.toInt) (toks 0 (0) 8 ++ (ueT 0 (h4) ++ (toks 0 (h5) 8 ++ (toks 0 (0) 1 ++ (toks 0 (0) 1 ++ (ueT 0 (sei (q)) ++ (ueT 0 (h13) ++ ((if ¬ ((h13 : Nat) : Int) = (1 : Int) then (ueT 0 (sei (h14)) ++ (ueT 0 (sei (h15)))) else ([] : List Tok)) ++ D)))))))) M42 := by rw [eM42]; exact rdu_w (k := 21) hy39 (hh_w hh) (rd_nd h hK hh) rfl
  refine ok_chk (by rw [gk_len hK (b := 89) (n := 24) (by decide) rfl]; decide) ?_
  refine ok_ltt (fun x43 ex43 => ?_)
  have vx43 : x43.toInt = (8 : Int) := by rw [ex43]; exact (congrArg Int32.toInt (rdu_o hM42 (by decide) (by rcases hh.2 with q | q | q <;> omega))).trans s89_2
  refine ok_drR (b := 13) hM42 hK rfl (by decide) rfl ?_
  refine ok_bnd (rdu_fixed (V := 0) (m := 8) hM42 (hh_w hh) rfl vx43 (by decide) (by decide) (by first | decide | omega)) ?_
  rintro y45 ⟨vy45, hy45⟩
  have vy45 : y45.2.toInt = (0 : Int) := vy45
  have hy45 : RDU G M0 d f T (hd + 1) 27 (upv (upv (upv (upv (upv (upv (fun _ => (0 : Int)) 18 (5 : Int)) 11 h11) 0 ((h0 : Nat) : Int)) 1 (2 : Int)) 2 (0 : Int)) 21 x41.toInt) (ueT 0 (h4) ++ (toks 0 (h5) 8 ++ (toks 0 (0) 1 ++ (toks 0 (0) 1 ++ (ueT 0 (sei (q)) ++ (ueT 0 (h13) ++ ((if ¬ ((h13 : Nat) : Int) = (1 : Int) then (ueT 0 (sei (h14)) ++ (ueT 0 (sei (h15)))) else ([] : List Tok)) ++ D))))))) y45.1 := hy45
  refine ok_chk (by rw [hh_len hK hh]; decide) ?_
  refine ok_ltt (fun M46 eM46 => ?_)
  have hM46 : RDU G M0 d f T (hd + 1) 27 (upv (upv (upv (upv (upv (upv (upv (fun _ => (0 : Int)) 18 (5 : Int)) 11 h11) 0 ((h0 : Nat) : Int)) 1 (2 : Int)) 2 (0 : Int)) 21 x41.toInt) 3 (0 : Int)) (ueT 0 (h4) ++ (toks 0 (h5) 8 ++ (toks 0 (0) 1 ++ (toks 0 (0) 1 ++ (ueT 0 (sei (q)) ++ (ueT 0 (h13) ++ ((if ¬ ((h13 : Nat) : Int) = (1 : Int) then (ueT 0 (sei (h14)) ++ (ueT 0 (sei (h15)))) else ([] : List Tok)) ++ D))))))) M46 := by rw [eM46]; exact rdu_w (k := 3) hy45 (hh_w hh) (rd_nd h hK hh) vy45
  rw [if_pos (show p0 = (5 : Int32) from pz_eq.mpr (by rw [(show (p0).toInt = (5 : Int) from e0), (show ((5 : Int32)).toInt = (5 : Int) from rfl)] <;> first | decide | omega))]
  refine ok_bnd (Q := fun y47 => RDU G M0 d f T (hd + 1) 27 (upv (upv (upv (upv (upv (upv (upv (upv (fun _ => (0 : Int)) 18 (5 : Int)) 11 h11) 0 ((h0 : Nat) : Int)) 1 (2 : Int)) 2 (0 : Int)) 21 x41.toInt) 3 (0 : Int)) 4 ((h4 : Nat) : Int)) (toks 0 (h5) 8 ++ (toks 0 (0) 1 ++ (toks 0 (0) 1 ++ (ueT 0 (sei (q)) ++ (ueT 0 (h13) ++ ((if ¬ ((h13 : Nat) : Int) = (1 : Int) then (ueT 0 (sei (h14)) ++ (ueT 0 (sei (h15)))) else ([] : List Tok)) ++ D)))))) y47) ?_ ?_
  · skip
    refine ok_chk (by rw [hh_len hK hh]; decide) ?_
    refine ok_ltt (fun x58 ex58 => ?_)
    have vx58 : x58.toInt = (0 : Int) := by rw [ex58]; exact (rdu_r (k := 3) hM46 (by decide)).trans (rfl)
    rw [if_pos (show x58 = (0 : Int32) from pz_eq.mpr (by rw [(show (x58).toInt = (0 : Int) from vx58), (show ((0 : Int32)).toInt = (0 : Int) from rfl)] <;> first | decide | omega))]
    refine ok_bnd (Q := fun y59 => RDU G M0 d f T (hd + 1) 27 (upv (upv (upv (upv (upv (upv (upv (fun _ => (0 : Int)) 18 (5 : Int)) 11 h11) 0 ((h0 : Nat) : Int)) 1 (2 : Int)) 2 (0 : Int)) 21 x41.toInt) 3 (0 : Int)) (ueT 0 (h4) ++ (toks 0 (h5) 8 ++ (toks 0 (0) 1 ++ (toks 0 (0) 1 ++ (ueT 0 (sei (q)) ++ (ueT 0 (h13) ++ ((if ¬ ((h13 : Nat) : Int) = (1 : Int) then (ueT 0 (sei (h14)) ++ (ueT 0 (sei (h15)))) else ([] : List Tok)) ++ D))))))) y59) ?_ ?_
    · skip
      exact ok_some hM46
    intro y59 hy59
    refine ok_bnd (rdu_uns (x := h4) hy59 hK (hh_w hh) (by omega) (by show _ ≤ (65535 : Int); omega)) ?_
    rintro y60 ⟨vy60, hy60⟩
    have vy60 : y60.2.toInt = ((h4 : Nat) : Int) := vy60
    have hy60 : RDU G M0 d f T (hd + 1) 27 (upv (upv (upv (upv (upv (upv (upv (fun _ => (0 : Int)) 18 (5 : Int)) 11 h11) 0 ((h0 : Nat) : Int)) 1 (2 : Int)) 2 (0 : Int)) 21 x41.toInt) 3 (0 : Int)) (toks 0 (h5) 8 ++ (toks 0 (0) 1 ++ (toks 0 (0) 1 ++ (ueT 0 (sei (q)) ++ (ueT 0 (h13) ++ ((if ¬ ((h13 : Nat) : Int) = (1 : Int) then (ueT 0 (sei (h14)) ++ (ueT 0 (sei (h15)))) else ([] : List Tok)) ++ D)))))) y60.1 := hy60
    refine ok_chk (by rw [hh_len hK hh]; decide) ?_
    refine ok_ltt (fun M61 eM61 => ?_)
    have hM61 : RDU G M0 d f T (hd + 1) 27 (upv (upv (upv (upv (upv (upv (upv (upv (fun _ => (0 : Int)) 18 (5 : Int)) 11 h11) 0 ((h0 : Nat) : Int)) 1 (2 : Int)) 2 (0 : Int)) 21 x41.toInt) 3 (0 : Int)) 4 ((h4 : Nat) : Int)) (toks 0 (h5) 8 ++ (toks 0 (0) 1 ++ (toks 0 (0) 1 ++ (ueT 0 (sei (q)) ++ (ueT 0 (h13) ++ ((if ¬ ((h13 : Nat) : Int) = (1 : Int) then (ueT 0 (sei (h14)) ++ (ueT 0 (sei (h15)))) else ([] : List Tok)) ++ D)))))) M61 := by rw [eM61]; exact rdu_w (k := 4) hy60 (hh_w hh) (rd_nd h hK hh) vy60
    exact ok_some hM61
  intro y47 hy47
  refine ok_bnd (h_order89 (v := (upv (upv (upv (upv (upv (upv (upv (upv (fun _ => (0 : Int)) 18 (5 : Int)) 11 h11) 0 ((h0 : Nat) : Int)) 1 (2 : Int)) 2 (0 : Int)) 21 x41.toInt) 3 (0 : Int)) 4 ((h4 : Nat) : Int))) (D := (toks 0 (0) 1 ++ (toks 0 (0) 1 ++ (ueT 0 (sei (q)) ++ (ueT 0 (h13) ++ ((if ¬ ((h13 : Nat) : Int) = (1 : Int) then (ueT 0 (sei (h14)) ++ (ueT 0 (sei (h15)))) else ([] : List Tok)) ++ D)))))) hh hK s89_3 s89_4 s94_2 b5 hy47) ?_
  intro y48 hy48
  have hy48 : RDU G M0 d f T (hd + 1) 27 (upv (upv (upv (upv (upv (upv (upv (upv (upv (fun _ => (0 : Int)) 18 (5 : Int)) 11 h11) 0 ((h0 : Nat) : Int)) 1 (2 : Int)) 2 (0 : Int)) 21 x41.toInt) 3 (0 : Int)) 4 ((h4 : Nat) : Int)) 5 ((h5 : Nat) : Int)) (toks 0 (0) 1 ++ (toks 0 (0) 1 ++ (ueT 0 (sei (q)) ++ (ueT 0 (h13) ++ ((if ¬ ((h13 : Nat) : Int) = (1 : Int) then (ueT 0 (sei (h14)) ++ (ueT 0 (sei (h15)))) else ([] : List Tok)) ++ D))))) y48 := hy48
  refine ok_chk (by rw [hh_len hK hh]; decide) ?_
  refine ok_ltt (fun x49 ex49 => ?_)
  have vx49 : x49.toInt = (2 : Int) := by rw [ex49]; exact (rdu_r (k := 1) hy48 (by decide)).trans (rfl)
  rw [if_pos (show x49 = (2 : Int32) from pz_eq.mpr (by rw [(show (x49).toInt = (2 : Int) from vx49), (show ((2 : Int32)).toInt = (2 : Int) from rfl)] <;> first | decide | omega))]
  refine ok_bnd (Q := fun y50 => RDU G M0 d f T (hd + 1) 27 (upv (upv (upv (upv (upv (upv (upv (upv (upv (fun _ => (0 : Int)) 18 (5 : Int)) 11 h11) 0 ((h0 : Nat) : Int)) 1 (2 : Int)) 2 (0 : Int)) 21 x41.toInt) 3 (0 : Int)) 4 ((h4 : Nat) : Int)) 5 ((h5 : Nat) : Int)) (toks 0 (0) 1 ++ (toks 0 (0) 1 ++ (ueT 0 (sei (q)) ++ (ueT 0 (h13) ++ ((if ¬ ((h13 : Nat) : Int) = (1 : Int) then (ueT 0 (sei (h14)) ++ (ueT 0 (sei (h15)))) else ([] : List Tok)) ++ D))))) y50) ?_ ?_
  · skip
    exact ok_some hy48
  intro y50 hy50
  rw [if_neg (show ¬ (p1 = (0 : Int32)) from fun qq => absurd (pz_eq.mp qq) (by rw [(show (p1).toInt = h11 from e1), (show ((0 : Int32)).toInt = (0 : Int) from rfl)] <;> first | decide | omega))]
  refine ok_bnd (Q := fun y51 => RDU G M0 d f T (hd + 1) 27 (upv (upv (upv (upv (upv (upv (upv (upv (upv (upv (upv (fun _ => (0 : Int)) 18 (5 : Int)) 11 h11) 0 ((h0 : Nat) : Int)) 1 (2 : Int)) 2 (0 : Int)) 21 x41.toInt) 3 (0 : Int)) 4 ((h4 : Nat) : Int)) 5 ((h5 : Nat) : Int)) 19 (0 : Int)) 20 (0 : Int)) (ueT 0 (sei (q)) ++ (ueT 0 (h13) ++ ((if ¬ ((h13 : Nat) : Int) = (1 : Int) then (ueT 0 (sei (h14)) ++ (ueT 0 (sei (h15)))) else ([] : List Tok)) ++ D))) y51) ?_ ?_
  · skip
    refine ok_bnd (h_markso (v := (upv (upv (upv (upv (upv (upv (upv (upv (upv (fun _ => (0 : Int)) 18 (5 : Int)) 11 h11) 0 ((h0 : Nat) : Int)) 1 (2 : Int)) 2 (0 : Int)) 21 x41.toInt) 3 (0 : Int)) 4 ((h4 : Nat) : Int)) 5 ((h5 : Nat) : Int))) (D := (ueT 0 (sei (q)) ++ (ueT 0 (h13) ++ ((if ¬ ((h13 : Nat) : Int) = (1 : Int) then (ueT 0 (sei (h14)) ++ (ueT 0 (sei (h15)))) else ([] : List Tok)) ++ D)))) hh hK e0 hy50) ?_
    intro y54 hy54
    have hy54 : RDU G M0 d f T (hd + 1) 27 (upv (upv (upv (upv (upv (upv (upv (upv (upv (upv (upv (fun _ => (0 : Int)) 18 (5 : Int)) 11 h11) 0 ((h0 : Nat) : Int)) 1 (2 : Int)) 2 (0 : Int)) 21 x41.toInt) 3 (0 : Int)) 4 ((h4 : Nat) : Int)) 5 ((h5 : Nat) : Int)) 19 (0 : Int)) 20 (0 : Int)) (ueT 0 (sei (q)) ++ (ueT 0 (h13) ++ ((if ¬ ((h13 : Nat) : Int) = (1 : Int) then (ueT 0 (sei (h14)) ++ (ueT 0 (sei (h15)))) else ([] : List Tok)) ++ D))) y54 := hy54
    exact ok_some hy54
  intro y51 hy51
  refine ok_bnd (h_rules2 (v := (upv (upv (upv (upv (upv (upv (upv (upv (upv (upv (upv (fun _ => (0 : Int)) 18 (5 : Int)) 11 h11) 0 ((h0 : Nat) : Int)) 1 (2 : Int)) 2 (0 : Int)) 21 x41.toInt) 3 (0 : Int)) 4 ((h4 : Nat) : Int)) 5 ((h5 : Nat) : Int)) 19 (0 : Int)) 20 (0 : Int))) (D := D) hh hK (rfl) (rfl) (rfl) (rfl) s94_1 s94_7 s94_9 bz bq b13 b14 b15 hy51) ?_
  intro y52 hy52
  have hy52 : RDU G M0 d f T (hd + 1) 27 (upv (upv (upv (upv (upv (upv (upv (upv (upv (upv (upv (upv (upv (upv (upv (fun _ => (0 : Int)) 18 (5 : Int)) 11 h11) 0 ((h0 : Nat) : Int)) 1 (2 : Int)) 2 (0 : Int)) 21 x41.toInt) 3 (0 : Int)) 4 ((h4 : Nat) : Int)) 5 ((h5 : Nat) : Int)) 19 (0 : Int)) 20 (0 : Int)) 12 ((z + (26 : Int)) + (q : Int))) 13 ((h13 : Nat) : Int)) 14 (if ((h13 : Nat) : Int) = (1 : Int) then (0 : Int) else (h14 : Int))) 15 (if ((h13 : Nat) : Int) = (1 : Int) then (0 : Int) else (h15 : Int))) D y52 := hy52
  exact ok_some ⟨_, hy52⟩
theorem h_headP {G : GG} {M0 N : DD} {d hd : Nat} {f : Nat → Nat} {T : Nat} {v : Nat → Int} {D : List Tok} {h0 h3 h4 h5 h13 : Nat} {p0 p1 : Int32} {h11 c z q h14 h15 w : Int} {o h9 : Nat} {r : Int} (hh : HH M0 hd) (hK : GK G M0)  (s89_23 : (M0.1 89 23).toInt = (1 : Int)) (s94_0 : (M0.1 94 0).toInt = (0 : Int)) (s94_1 : (M0.1 94 1).toInt = c) (s94_2 : (M0.1 94 2).toInt = (0 : Int)) (s94_3 : (M0.1 94 3).toInt = r) (s94_5 : (M0.1 94 5).toInt = (0 : Int)) (s94_7 : (M0.1 94 7).toInt = z) (s94_9 : (M0.1 94 9).toInt = (1 : Int)) (s94_11 : (M0.1 94 11).toInt = (1 : Int)) (s98_0 : (M0.1 98 0).toInt = w) (s98_1 : (M0.1 98 1).toInt = (2 : Int)) (s98_2 : (M0.1 98 2).toInt = (8 : Int)) (s98_3 : (M0.1 98 3).toInt = (0 : Int)) (s98_4 : (M0.1 98 4).toInt = (8 : Int)) (o12_8 : (M0.1 12 8).toInt = (0 : Int)) (e0 : p0.toInt = 1) (e1 : p1.toInt = h11) (bw : w = 1 ∨ w = 2) (b0 : (h0 : Int) < w * 2) (b3 : h3 < 256) (b4 : h4 < 65536) (b5 : h5 < 256) (bz : -26 ≤ z ∧ z ≤ 25) (bq : 0 ≤ z + 26 + q ∧ z + 26 + q ≤ 51) (b13 : h13 ≤ 2) (b14 : -6 ≤ h14 ∧ h14 ≤ 6) (b15 : -6 ≤ h15 ∧ h15 ≤ 6) (bo : o ≤ 1) (b9 : 1 ≤ h9 ∧ h9 ≤ 8) (h : RDU G M0 d f T (hd + 1) 0 v (ueT 0 (h0) ++ (ueT 0 (0) ++ (ueT 0 (0) ++ (toks 0 (h3) 8 ++ (toks 0 (h5) 8 ++ (toks 0 (o) 1 ++ ((if ((o : Nat) : Int) = (1 : Int) then (ueT 0 (h9 - 1)) else ([] : List Tok)) ++ (toks 0 (0) 1 ++ ((if ¬ h11 = (0 : Int) then (toks 0 (0) 1) else ([] : List Tok)) ++ ((if c = (1 : Int) then (ueT 0 (0)) else ([] : List Tok)) ++ (ueT 0 (sei (q)) ++ (ueT 0 (h13) ++ ((if ¬ ((h13 : Nat) : Int) = (1 : Int) then (ueT 0 (sei (h14)) ++ (ueT 0 (sei (h15)))) else ([] : List Tok)) ++ D))))))))))))) N) : OK (FX1_readHeader G N 12 p0 p1) (fun y => ∃ t21 : Int, RDU G M0 d f T (hd + 1) 27 (upv (upv (upv (upv (upv (upv (upv (upv (upv (upv (upv (upv (upv (upv (upv (upv (fun _ => (0 : Int)) 18 (1 : Int)) 11 h11) 0 ((h0 : Nat) : Int)) 1 (0 : Int)) 2 (0 : Int)) 21 t21) 3 ((h3 : Nat) : Int)) 5 ((h5 : Nat) : Int)) 8 (0 : Int)) 9 r) 10 (0 : Int)) 9 (if ((o : Nat) : Int) = (1 : Int) then (((h9 - 1 : Nat) : Int) + (1 : Int)) else r)) 12 ((z + (26 : Int)) + (q : Int))) 13 ((h13 : Nat) : Int)) 14 (if ((h13 : Nat) : Int) = (1 : Int) then (0 : Int) else (h14 : Int))) 15 (if ((h13 : Nat) : Int) = (1 : Int) then (0 : Int) else (h15 : Int))) D y) := by
  unfold FX1_readHeader
  refine ok_drH h hK hh ?_
  refine ok_bnd (rdu_fill (w := hd + 1) h (hh_w hh) (rd_nd h hK hh) (hh_k hK hh).1 (hh_k hK hh).2 (by rw [hh_len hK hh]; decide) (hh_r h hK hh) rfl) ?_
  rw [hh_len hK hh]
  intro y3 hy3
  have hy3 : RDU G M0 d f T (hd + 1) 27 (fun _ => (0 : Int)) (ueT 0 (h0) ++ (ueT 0 (0) ++ (ueT 0 (0) ++ (toks 0 (h3) 8 ++ (toks 0 (h5) 8 ++ (toks 0 (o) 1 ++ ((if ((o : Nat) : Int) = (1 : Int) then (ueT 0 (h9 - 1)) else ([] : List Tok)) ++ (toks 0 (0) 1 ++ ((if ¬ h11 = (0 : Int) then (toks 0 (0) 1) else ([] : List Tok)) ++ ((if c = (1 : Int) then (ueT 0 (0)) else ([] : List Tok)) ++ (ueT 0 (sei (q)) ++ (ueT 0 (h13) ++ ((if ¬ ((h13 : Nat) : Int) = (1 : Int) then (ueT 0 (sei (h14)) ++ (ueT 0 (sei (h15)))) else ([] : List Tok)) ++ D))))))))))))) y3 := hy3
  refine ok_drHW h hK hh ?_
  refine ok_chk (by rw [hh_len hK hh]; decide) ?_
  refine ok_ltt (fun M5 eM5 => ?_)
  have hM5 : RDU G M0 d f T (hd + 1) 27 (upv (fun _ => (0 : Int)) 18 (1 : Int)) (ueT 0 (h0) ++ (ueT 0 (0) ++ (ueT 0 (0) ++ (toks 0 (h3) 8 ++ (toks 0 (h5) 8 ++ (toks 0 (o) 1 ++ ((if ((o : Nat) : Int) = (1 : Int) then (ueT 0 (h9 - 1)) else ([] : List Tok)) ++ (toks 0 (0) 1 ++ ((if ¬ h11 = (0 : Int) then (toks 0 (0) 1) else ([] : List Tok)) ++ ((if c = (1 : Int) then (ueT 0 (0)) else ([] : List Tok)) ++ (ueT 0 (sei (q)) ++ (ueT 0 (h13) ++ ((if ¬ ((h13 : Nat) : Int) = (1 : Int) then (ueT 0 (sei (h14)) ++ (ueT 0 (sei (h15)))) else ([] : List Tok)) ++ D))))))))))))) M5 := by rw [eM5]; exact rdu_w (k := 18) hy3 (hh_w hh) (rd_nd h hK hh) e0
  refine ok_chk (by rw [hh_len hK hh]; decide) ?_
  refine ok_ltt (fun M6 eM6 => ?_)
  have hM6 : RDU G M0 d f T (hd + 1) 27 (upv (upv (fun _ => (0 : Int)) 18 (1 : Int)) 11 h11) (ueT 0 (h0) ++ (ueT 0 (0) ++ (ueT 0 (0) ++ (toks 0 (h3) 8 ++ (toks 0 (h5) 8 ++ (toks 0 (o) 1 ++ ((if ((o : Nat) : Int) = (1 : Int) then (ueT 0 (h9 - 1)) else ([] : List Tok)) ++ (toks 0 (0) 1 ++ ((if ¬ h11 = (0 : Int) then (toks 0 (0) 1) else ([] : List Tok)) ++ ((if c = (1 : Int) then (ueT 0 (0)) else ([] : List Tok)) ++ (ueT 0 (sei (q)) ++ (ueT 0 (h13) ++ ((if ¬ ((h13 : Nat) : Int) = (1 : Int) then (ueT 0 (sei (h14)) ++ (ueT 0 (sei (h15)))) else ([] : List Tok)) ++ D))))))))))))) M6 := by rw [eM6]; exact rdu_w (k := 11) hM5 (hh_w hh) (rd_nd h hK hh) e1
  refine ok_drR (b := 13) hM6 hK rfl (by decide) rfl ?_
  refine ok_bnd (rdu_num0 (x := h0) hM6 (hh_w hh) rfl rfl (by omega) (by show (0 : Int) ≤ _; omega) (by show _ ≤ (4294967295 : Int); omega)) ?_
  rintro y8 ⟨vy8, hy8⟩
  have vy8 : y8.2.toInt = ((h0 : Nat) : Int) := vy8
  have hy8 : RDU G M0 d f T (hd + 1) 27 (upv (upv (fun _ => (0 : Int)) 18 (1 : Int)) 11 h11) (ueT 0 (0) ++ (ueT 0 (0) ++ (toks 0 (h3) 8 ++ (toks 0 (h5) 8 ++ (toks 0 (o) 1 ++ ((if ((o : Nat) : Int) = (1 : Int) then (ueT 0 (h9 - 1)) else ([] : List Tok)) ++ (toks 0 (0) 1 ++ ((if ¬ h11 = (0 : Int) then (toks 0 (0) 1) else ([] : List Tok)) ++ ((if c = (1 : Int) then (ueT 0 (0)) else ([] : List Tok)) ++ (ueT 0 (sei (q)) ++ (ueT 0 (h13) ++ ((if ¬ ((h13 : Nat) : Int) = (1 : Int) then (ueT 0 (sei (h14)) ++ (ueT 0 (sei (h15)))) else ([] : List Tok)) ++ D)))))))))))) y8.1 := hy8
  refine ok_chk (by rw [hh_len hK hh]; decide) ?_
  refine ok_ltt (fun M9 eM9 => ?_)
  have hM9 : RDU G M0 d f T (hd + 1) 27 (upv (upv (upv (fun _ => (0 : Int)) 18 (1 : Int)) 11 h11) 0 ((h0 : Nat) : Int)) (ueT 0 (0) ++ (ueT 0 (0) ++ (toks 0 (h3) 8 ++ (toks 0 (h5) 8 ++ (toks 0 (o) 1 ++ ((if ((o : Nat) : Int) = (1 : Int) then (ueT 0 (h9 - 1)) else ([] : List Tok)) ++ (toks 0 (0) 1 ++ ((if ¬ h11 = (0 : Int) then (toks 0 (0) 1) else ([] : List Tok)) ++ ((if c = (1 : Int) then (ueT 0 (0)) else ([] : List Tok)) ++ (ueT 0 (sei (q)) ++ (ueT 0 (h13) ++ ((if ¬ ((h13 : Nat) : Int) = (1 : Int) then (ueT 0 (sei (h14)) ++ (ueT 0 (sei (h15)))) else ([] : List Tok)) ++ D)))))))))))) M9 := by rw [eM9]; exact rdu_w (k := 0) hy8 (hh_w hh) (rd_nd h hK hh) vy8
  refine ok_drR (b := 13) hM9 hK rfl (by decide) rfl ?_
  refine ok_ltt (fun x11 ex11 => ?_)
  refine ok_bnd (rdu_uns (x := 0) hM9 hK (hh_w hh) (by omega) (by show _ ≤ (9 : Int); omega)) ?_
  rintro y12 ⟨vy12, hy12⟩
  have vy12 : y12.2.toInt = (0 : Int) := vy12
  have hy12 : RDU G M0 d f T (hd + 1) 27 (upv (upv (upv (fun _ => (0 : Int)) 18 (1 : Int)) 11 h11) 0 ((h0 : Nat) : Int)) (ueT 0 (0) ++ (toks 0 (h3) 8 ++ (toks 0 (h5) 8 ++ (toks 0 (o) 1 ++ ((if ((o : Nat) : Int) = (1 : Int) then (ueT 0 (h9 - 1)) else ([] : List Tok)) ++ (toks 0 (0) 1 ++ ((if ¬ h11 = (0 : Int) then (toks 0 (0) 1) else ([] : List Tok)) ++ ((if c = (1 : Int) then (ueT 0 (0)) else ([] : List Tok)) ++ (ueT 0 (sei (q)) ++ (ueT 0 (h13) ++ ((if ¬ ((h13 : Nat) : Int) = (1 : Int) then (ueT 0 (sei (h14)) ++ (ueT 0 (sei (h15)))) else ([] : List Tok)) ++ D))))))))))) y12.1 := hy12
  refine ok_ltt (fun x13 ex13 => ?_)
  have vx13 : x13.toInt = (0 : Int) := by rw [ex13, show y12.2 = (0 : Int32) from Int32.toInt_inj.1 vy12]; decide
  refine ok_chk (by rw [hh_len hK hh]; decide) ?_
  refine ok_ltt (fun M14 eM14 => ?_)
  have hM14 : RDU G M0 d f T (hd + 1) 27 (upv (upv (upv (upv (fun _ => (0 : Int)) 18 (1 : Int)) 11 h11) 0 ((h0 : Nat) : Int)) 1 (0 : Int)) (ueT 0 (0) ++ (toks 0 (h3) 8 ++ (toks 0 (h5) 8 ++ (toks 0 (o) 1 ++ ((if ((o : Nat) : Int) = (1 : Int) then (ueT 0 (h9 - 1)) else ([] : List Tok)) ++ (toks 0 (0) 1 ++ ((if ¬ h11 = (0 : Int) then (toks 0 (0) 1) else ([] : List Tok)) ++ ((if c = (1 : Int) then (ueT 0 (0)) else ([] : List Tok)) ++ (ueT 0 (sei (q)) ++ (ueT 0 (h13) ++ ((if ¬ ((h13 : Nat) : Int) = (1 : Int) then (ueT 0 (sei (h14)) ++ (ueT 0 (sei (h15)))) else ([] : List Tok)) ++ D))))))))))) M14 := by rw [eM14]; exact rdu_w (k := 1) hy12 (hh_w hh) (rd_nd h hK hh) vx13
  refine ok_chk (by rw [hh_len hK hh]; decide) ?_
  refine ok_ltt (fun x15 ex15 => ?_)
  have vx15 : x15.toInt = (0 : Int) := by rw [ex15]; exact (rdu_r (k := 1) hM14 (by decide)).trans (rfl)
  rw [if_neg (show ¬ ((2 : Int32) < x15) from fun qq => absurd (pz_lt.mp qq) (by rw [(show ((2 : Int32)).toInt = (2 : Int) from rfl), (show (x15).toInt = (0 : Int) from vx15)] <;> first | decide | omega))]
  refine ok_bnd (Q := fun y16 => RDU G M0 d f T (hd + 1) 27 (upv (upv (upv (upv (fun _ => (0 : Int)) 18 (1 : Int)) 11 h11) 0 ((h0 : Nat) : Int)) 1 (0 : Int)) (ueT 0 (0) ++ (toks 0 (h3) 8 ++ (toks 0 (h5) 8 ++ (toks 0 (o) 1 ++ ((if ((o : Nat) : Int) = (1 : Int) then (ueT 0 (h9 - 1)) else ([] : List Tok)) ++ (toks 0 (0) 1 ++ ((if ¬ h11 = (0 : Int) then (toks 0 (0) 1) else ([] : List Tok)) ++ ((if c = (1 : Int) then (ueT 0 (0)) else ([] : List Tok)) ++ (ueT 0 (sei (q)) ++ (ueT 0 (h13) ++ ((if ¬ ((h13 : Nat) : Int) = (1 : Int) then (ueT 0 (sei (h14)) ++ (ueT 0 (sei (h15)))) else ([] : List Tok)) ++ D))))))))))) y16) ?_ ?_
  · skip
    exact ok_some hM14
  intro y16 hy16
  rw [if_neg (show ¬ (p0 = (5 : Int32)) from fun qq => absurd (pz_eq.mp qq) (by rw [(show (p0).toInt = (1 : Int) from e0), (show ((5 : Int32)).toInt = (5 : Int) from rfl)] <;> first | decide | omega))]
  refine ok_bnd (Q := fun y17 => RDU G M0 d f T (hd + 1) 27 (upv (upv (upv (upv (fun _ => (0 : Int)) 18 (1 : Int)) 11 h11) 0 ((h0 : Nat) : Int)) 1 (0 : Int)) (ueT 0 (0) ++ (toks 0 (h3) 8 ++ (toks 0 (h5) 8 ++ (toks 0 (o) 1 ++ ((if ((o : Nat) : Int) = (1 : Int) then (ueT 0 (h9 - 1)) else ([] : List Tok)) ++ (toks 0 (0) 1 ++ ((if ¬ h11 = (0 : Int) then (toks 0 (0) 1) else ([] : List Tok)) ++ ((if c = (1 : Int) then (ueT 0 (0)) else ([] : List Tok)) ++ (ueT 0 (sei (q)) ++ (ueT 0 (h13) ++ ((if ¬ ((h13 : Nat) : Int) = (1 : Int) then (ueT 0 (sei (h14)) ++ (ueT 0 (sei (h15)))) else ([] : List Tok)) ++ D))))))))))) y17) ?_ ?_
  · skip
    exact ok_some hy16
  intro y17 hy17
  refine ok_bnd (rdu_uns (x := 0) hy17 hK (hh_w hh) (by omega) (by show _ ≤ (3 : Int); omega)) ?_
  rintro y18 ⟨vy18, hy18⟩
  have vy18 : y18.2.toInt = (0 : Int) := vy18
  have hy18 : RDU G M0 d f T (hd + 1) 27 (upv (upv (upv (upv (fun _ => (0 : Int)) 18 (1 : Int)) 11 h11) 0 ((h0 : Nat) : Int)) 1 (0 : Int)) (toks 0 (h3) 8 ++ (toks 0 (h5) 8 ++ (toks 0 (o) 1 ++ ((if ((o : Nat) : Int) = (1 : Int) then (ueT 0 (h9 - 1)) else ([] : List Tok)) ++ (toks 0 (0) 1 ++ ((if ¬ h11 = (0 : Int) then (toks 0 (0) 1) else ([] : List Tok)) ++ ((if c = (1 : Int) then (ueT 0 (0)) else ([] : List Tok)) ++ (ueT 0 (sei (q)) ++ (ueT 0 (h13) ++ ((if ¬ ((h13 : Nat) : Int) = (1 : Int) then (ueT 0 (sei (h14)) ++ (ueT 0 (sei (h15)))) else ([] : List Tok)) ++ D)))))))))) y18.1 := hy18
  refine ok_chk (by rw [hh_len hK hh]; decide) ?_
  refine ok_ltt (fun M19 eM19 => ?_)
  have hM19 : RDU G M0 d f T (hd + 1) 27 (upv (upv (upv (upv (upv (fun _ => (0 : Int)) 18 (1 : Int)) 11 h11) 0 ((h0 : Nat) : Int)) 1 (0 : Int)) 2 (0 : Int)) (toks 0 (h3) 8 ++ (toks 0 (h5) 8 ++ (toks 0 (o) 1 ++ ((if ((o : Nat) : Int) = (1 : Int) then (ueT 0 (h9 - 1)) else ([] : List Tok)) ++ (toks 0 (0) 1 ++ ((if ¬ h11 = (0 : Int) then (toks 0 (0) 1) else ([] : List Tok)) ++ ((if c = (1 : Int) then (ueT 0 (0)) else ([] : List Tok)) ++ (ueT 0 (sei (q)) ++ (ueT 0 (h13) ++ ((if ¬ ((h13 : Nat) : Int) = (1 : Int) then (ueT 0 (sei (h14)) ++ (ueT 0 (sei (h15)))) else ([] : List Tok)) ++ D)))))))))) M19 := by rw [eM19]; exact rdu_w (k := 2) hy18 (hh_w hh) (rd_nd h hK hh) vy18
  refine ok_chk (by rw [hh_len hK hh]; decide) ?_
  refine ok_ltt (fun x20 ex20 => ?_)
  have vx20 : x20.toInt = (0 : Int) := by rw [ex20]; exact (rdu_r (k := 2) hM19 (by decide)).trans (rfl)
  refine ok_drR (b := 93) hM19 hK rfl (by decide) rfl ?_
  refine ok_chk (by rw [show x20 = (0 : Int32) from Int32.toInt_inj.1 vx20, gk_len hK (b := 93) (n := 4) (by decide) rfl]; decide) ?_
  rw [show (x20).toNatClampNeg = 0 from by rw [show x20 = (0 : Int32) from Int32.toInt_inj.1 vx20]; rfl]
  rw [rdu_ref (b := 94) hM19 hK rfl (by decide)]
  refine ok_drK (b := 94) hK (by decide) rfl ?_
  refine ok_chk (by rw [gk_len hK (b := 94) (n := 12) (by decide) rfl]; decide) ?_
  refine ok_ltt (fun x23 ex23 => ?_)
  have vx23 : x23.toInt = (0 : Int) := by rw [ex23]; exact (congrArg Int32.toInt (rdu_o hM19 (by decide) (by rcases hh.2 with q | q | q <;> omega))).trans s94_0
  refine ok_chk (by rw [gk_len hK (b := 94) (n := 12) (by decide) rfl]; decide) ?_
  refine ok_ltt (fun x24 ex24 => ?_)
  have vx24 : x24.toInt = (1 : Int) := by rw [ex24]; exact (congrArg Int32.toInt (rdu_o hM19 (by decide) (by rcases hh.2 with q | q | q <;> omega))).trans s94_11
  rw [if_neg (show ¬ (x24 = (0 : Int32)) from fun qq => absurd (pz_eq.mp qq) (by rw [(show (x24).toInt = (1 : Int) from vx24), (show ((0 : Int32)).toInt = (0 : Int) from rfl)] <;> first | decide | omega))]
  refine ok_bnd (Q := fun y25 => RDU G M0 d f T (hd + 1) 27 (upv (upv (upv (upv (upv (fun _ => (0 : Int)) 18 (1 : Int)) 11 h11) 0 ((h0 : Nat) : Int)) 1 (0 : Int)) 2 (0 : Int)) (toks 0 (h3) 8 ++ (toks 0 (h5) 8 ++ (toks 0 (o) 1 ++ ((if ((o : Nat) : Int) = (1 : Int) then (ueT 0 (h9 - 1)) else ([] : List Tok)) ++ (toks 0 (0) 1 ++ ((if ¬ h11 = (0 : Int) then (toks 0 (0) 1) else ([] : List Tok)) ++ ((if c = (1 : Int) then (ueT 0 (0)) else ([] : List Tok)) ++ (ueT 0 (sei (q)) ++ (ueT 0 (h13) ++ ((if ¬ ((h13 : Nat) : Int) = (1 : Int) then (ueT 0 (sei (h14)) ++ (ueT 0 (sei (h15)))) else ([] : List Tok)) ++ D)))))))))) y25) ?_ ?_
  · skip
    exact ok_some hM19
  intro y25 hy25
  refine ok_drR (b := 88) hy25 hK rfl (by decide) rfl ?_
  refine ok_chk (by rw [show x23 = (0 : Int32) from Int32.toInt_inj.1 vx23, gk_len hK (b := 88) (n := 4) (by decide) rfl]; decide) ?_
  rw [show (x23).toNatClampNeg = 0 from by rw [show x23 = (0 : Int32) from Int32.toInt_inj.1 vx23]; rfl]
  rw [rdu_ref (b := 89) hy25 hK rfl (by decide)]
  refine ok_drK (b := 89) hK (by decide) rfl ?_
  refine ok_chk (by rw [gk_len hK (b := 89) (n := 24) (by decide) rfl]; decide) ?_
  refine ok_ltt (fun x28 ex28 => ?_)
  have vx28 : x28.toInt = (1 : Int) := by rw [ex28]; exact (congrArg Int32.toInt (rdu_o hy25 (by decide) (by rcases hh.2 with q | q | q <;> omega))).trans s89_23
  rw [if_neg (show ¬ (x28 = (0 : Int32)) from fun qq => absurd (pz_eq.mp qq) (by rw [(show (x28).toInt = (1 : Int) from vx28), (show ((0 : Int32)).toInt = (0 : Int) from rfl)] <;> first | decide | omega))]
  refine ok_bnd (Q := fun y29 => RDU G M0 d f T (hd + 1) 27 (upv (upv (upv (upv (upv (fun _ => (0 : Int)) 18 (1 : Int)) 11 h11) 0 ((h0 : Nat) : Int)) 1 (0 : Int)) 2 (0 : Int)) (toks 0 (h3) 8 ++ (toks 0 (h5) 8 ++ (toks 0 (o) 1 ++ ((if ((o : Nat) : Int) = (1 : Int) then (ueT 0 (h9 - 1)) else ([] : List Tok)) ++ (toks 0 (0) 1 ++ ((if ¬ h11 = (0 : Int) then (toks 0 (0) 1) else ([] : List Tok)) ++ ((if c = (1 : Int) then (ueT 0 (0)) else ([] : List Tok)) ++ (ueT 0 (sei (q)) ++ (ueT 0 (h13) ++ ((if ¬ ((h13 : Nat) : Int) = (1 : Int) then (ueT 0 (sei (h14)) ++ (ueT 0 (sei (h15)))) else ([] : List Tok)) ++ D)))))))))) y29) ?_ ?_
  · skip
    exact ok_some hy25
  intro y29 hy29
  rw [if_pos (show p0 = (1 : Int32) from pz_eq.mpr (by rw [(show (p0).toInt = (1 : Int) from e0), (show ((1 : Int32)).toInt = (1 : Int) from rfl)] <;> first | decide | omega))]
  refine ok_bnd (Q := fun y30 => RDU G M0 d f T (hd + 1) 27 (upv (upv (upv (upv (upv (fun _ => (0 : Int)) 18 (1 : Int)) 11 h11) 0 ((h0 : Nat) : Int)) 1 (0 : Int)) 2 (0 : Int)) (toks 0 (h3) 8 ++ (toks 0 (h5) 8 ++ (toks 0 (o) 1 ++ ((if ((o : Nat) : Int) = (1 : Int) then (ueT 0 (h9 - 1)) else ([] : List Tok)) ++ (toks 0 (0) 1 ++ ((if ¬ h11 = (0 : Int) then (toks 0 (0) 1) else ([] : List Tok)) ++ ((if c = (1 : Int) then (ueT 0 (0)) else ([] : List Tok)) ++ (ueT 0 (sei (q)) ++ (ueT 0 (h13) ++ ((if ¬ ((h13 : Nat) : Int) = (1 : Int) then (ueT 0 (sei (h14)) ++ (ueT 0 (sei (h15)))) else ([] : List Tok)) ++ D)))))))))) y30) ?_ ?_
  · skip
    refine ok_ltt (fun x70 ex70 => ?_)
    have vx70 : x70.toInt = (0 : Int) := by rw [ex70]; exact (congrArg Int32.toInt (rdu_o hy29 (by decide) (by rcases hh.2 with q | q | q <;> omega))).trans o12_8
    rw [if_pos (show x70 = x23 from pz_eq.mpr (by rw [(show (x70).toInt = (0 : Int) from vx70), (show (x23).toInt = (0 : Int) from vx23)] <;> first | decide | omega))]
    refine ok_bnd (Q := fun y71 => RDU G M0 d f T (hd + 1) 27 (upv (upv (upv (upv (upv (fun _ => (0 : Int)) 18 (1 : Int)) 11 h11) 0 ((h0 : Nat) : Int)) 1 (0 : Int)) 2 (0 : Int)) (toks 0 (h3) 8 ++ (toks 0 (h5) 8 ++ (toks 0 (o) 1 ++ ((if ((o : Nat) : Int) = (1 : Int) then (ueT 0 (h9 - 1)) else ([] : List Tok)) ++ (toks 0 (0) 1 ++ ((if ¬ h11 = (0 : Int) then (toks 0 (0) 1) else ([] : List Tok)) ++ ((if c = (1 : Int) then (ueT 0 (0)) else ([] : List Tok)) ++ (ueT 0 (sei (q)) ++ (ueT 0 (h13) ++ ((if ¬ ((h13 : Nat) : Int) = (1 : Int) then (ueT 0 (sei (h14)) ++ (ueT 0 (sei (h15)))) else ([] : List Tok)) ++ D)))))))))) y71) ?_ ?_
    · skip
      exact ok_some hy29
    intro y71 hy71
    exact ok_some hy71
  intro y30 hy30
  rw [if_pos (show p0 = (1 : Int32) from pz_eq.mpr (by rw [(show (p0).toInt = (1 : Int) from e0), (show ((1 : Int32)).toInt = (1 : Int) from rfl)] <;> first | decide | omega))]
  refine ok_bnd (Q := fun y => y = some 98) ?_ ?_
  · skip
    exact ok_some (rdu_ref (b := 98) hy30 hK rfl (by decide))
  intro y31 ey31
  subst ey31
  refine ok_chk (by rw [hh_len hK hh]; decide) ?_
  refine ok_ltt (fun x32 ex32 => ?_)
  have vx32 : x32.toInt = ((h0 : Nat) : Int) := by rw [ex32]; exact (rdu_r (k := 0) hy30 (by decide)).trans (rfl)
  rw [if_neg (show ¬ (x32 < (0 : Int32)) from fun qq => absurd (pz_lt.mp qq) (by rw [(show (x32).toInt = ((h0 : Nat) : Int) from vx32), (show ((0 : Int32)).toInt = (0 : Int) from rfl)] <;> first | decide | omega))]
  refine ok_bnd (Q := fun y33 => RDU G M0 d f T (hd + 1) 27 (upv (upv (upv (upv (upv (fun _ => (0 : Int)) 18 (1 : Int)) 11 h11) 0 ((h0 : Nat) : Int)) 1 (0 : Int)) 2 (0 : Int)) (toks 0 (h3) 8 ++ (toks 0 (h5) 8 ++ (toks 0 (o) 1 ++ ((if ((o : Nat) : Int) = (1 : Int) then (ueT 0 (h9 - 1)) else ([] : List Tok)) ++ (toks 0 (0) 1 ++ ((if ¬ h11 = (0 : Int) then (toks 0 (0) 1) else ([] : List Tok)) ++ ((if c = (1 : Int) then (ueT 0 (0)) else ([] : List Tok)) ++ (ueT 0 (sei (q)) ++ (ueT 0 (h13) ++ ((if ¬ ((h13 : Nat) : Int) = (1 : Int) then (ueT 0 (sei (h14)) ++ (ueT 0 (sei (h15)))) else ([] : List Tok)) ++ D)))))))))) y33) ?_ ?_
  · skip
    exact ok_some hy30
  intro y33 hy33
  refine ok_chk (by rw [hh_len hK hh]; decide) ?_
  refine ok_ltt (fun x34 ex34 => ?_)
  have vx34 : x34.toInt = ((h0 : Nat) : Int) := by rw [ex34]; exact (rdu_r (k := 0) hy33 (by decide)).trans (rfl)
  refine ok_drK (b := 98) hK (by decide) rfl ?_
  refine ok_chk (by rw [gk_len hK (b := 98) (n := 24) (by decide) rfl]; decide) ?_
  refine ok_ltt (fun x36 ex36 => ?_)
  have vx36 : x36.toInt = w := by rw [ex36]; exact (congrArg Int32.toInt (rdu_o hy33 (by decide) (by rcases hh.2 with q | q | q <;> omega))).trans s98_0
  refine ok_chk (by rw [gk_len hK (b := 98) (n := 24) (by decide) rfl]; decide) ?_
  refine ok_ltt (fun x37 ex37 => ?_)
  have vx37 : x37.toInt = (2 : Int) := by rw [ex37]; exact (congrArg Int32.toInt (rdu_o hy33 (by decide) (by rcases hh.2 with q | q | q <;> omega))).trans s98_1
  refine ok_ltt (fun x38 ex38 => ?_)
  have vx38 : x38.toInt = (w * (2 : Int)) := by
    have q1 : (x36).toInt = w := vx36
    have q2 : (x37).toInt = (2 : Int) := vx37
    rw [ex38, ti_mul (by rw [q1, q2]; omega) (by rw [q1, q2]; omega), q1, q2]
  rw [if_pos (show x34 < x38 from pz_lt.mpr (by rw [(show (x34).toInt = ((h0 : Nat) : Int) from vx34), (show (x38).toInt = (w * (2 : Int)) from vx38)] <;> first | decide | omega))]
  refine ok_bnd (Q := fun y39 => RDU G M0 d f T (hd + 1) 27 (upv (upv (upv (upv (upv (fun _ => (0 : Int)) 18 (1 : Int)) 11 h11) 0 ((h0 : Nat) : Int)) 1 (0 : Int)) 2 (0 : Int)) (toks 0 (h3) 8 ++ (toks 0 (h5) 8 ++ (toks 0 (o) 1 ++ ((if ((o : Nat) : Int) = (1 : Int) then (ueT 0 (h9 - 1)) else ([] : List Tok)) ++ (toks 0 (0) 1 ++ ((if ¬ h11 = (0 : Int) then (toks 0 (0) 1) else ([] : List Tok)) ++ ((if c = (1 : Int) then (ueT 0 (0)) else ([] : List Tok)) ++ (ueT 0 (sei (q)) ++ (ueT 0 (h13) ++ ((if ¬ ((h13 : Nat) : Int) = (1 : Int) then (ueT 0 (sei (h14)) ++ (ueT 0 (sei (h15)))) else ([] : List Tok)) ++ D)))))))))) y39) ?_ ?_
  · skip
    exact ok_some hy33
  intro y39 hy39
  refine ok_drR (b := 13) hy39 hK rfl (by decide) rfl ?_
  refine ok_ltt (fun x41 ex41 => ?_)
  refine ok_chk (by rw [hh_len hK hh]; decide) ?_
  refine ok_ltt (fun M42 eM42 => ?_)
  have hM42 : RDU G M0 d f T (hd + 1) 27 (upv (upv (upv (upv (upv (upv (fun _ => (0 : Int)) 18 (1 : Int)) 11 h11) 0 ((h0 : Nat) : Int)) 1 (0 : Int)) 2 (0 : Int)) 21 x41.toInt) (toks 0 (h3) 8 ++ (toks 0 (h5) 8 ++ (toks 0 (o) 1 ++ ((if ((o : Nat) : Int) = (1 : Int) then (ueT 0 (h9 - 1)) else ([] : List Tok)) ++ (toks 0 (0) 1 ++ ((if ¬ h11 = (0 : Int) then (toks 0 (0) 1) else ([] : List Tok)) ++ ((if c = (1 : Int) then (ueT 0 (0)) else ([] : List Tok)) ++ (ueT 0 (sei (q)) ++ (ueT 0 (h13) ++ ((if ¬ ((h13 : Nat) : Int) = (1 : Int) then (ueT 0 (sei (h14)) ++ (ueT 0 (sei (h15)))) else ([] : List Tok)) ++ D)))))))))) M42 := by rw [eM42]; exact rdu_w (k := 21) hy39 (hh_w hh) (rd_nd h hK hh) rfl
  refine ok_chk (by rw [gk_len hK (b := 98) (n := 24) (by decide) rfl]; decide) ?_
  refine ok_ltt (fun x43 ex43 => ?_)
  have vx43 : x43.toInt = (8 : Int) := by rw [ex43]; exact (congrArg Int32.toInt (rdu_o hM42 (by decide) (by rcases hh.2 with q | q | q <;> omega))).trans s98_2
  refine ok_drR (b := 13) hM42 hK rfl (by decide) rfl ?_
  refine ok_bnd (rdu_fixed (V := h3) (m := 8) hM42 (hh_w hh) rfl vx43 (by decide) (by decide) (by first | decide | omega)) ?_
  rintro y45 ⟨vy45, hy45⟩
  have vy45 : y45.2.toInt = ((h3 : Nat) : Int) := vy45
  have hy45 : RDU G M0 d f T (hd + 1) 27 (upv (upv (upv (upv (upv (upv (fun _ => (0 : Int)) 18 (1 : Int)) 11 h11) 0 ((h0 : Nat) : Int)) 1 (0 : Int)) 2 (0 : Int)) 21 x41.toInt) (toks 0 (h5) 8 ++ (toks 0 (o) 1 ++ ((if ((o : Nat) : Int) = (1 : Int) then (ueT 0 (h9 - 1)) else ([] : List Tok)) ++ (toks 0 (0) 1 ++ ((if ¬ h11 = (0 : Int) then (toks 0 (0) 1) else ([] : List Tok)) ++ ((if c = (1 : Int) then (ueT 0 (0)) else ([] : List Tok)) ++ (ueT 0 (sei (q)) ++ (ueT 0 (h13) ++ ((if ¬ ((h13 : Nat) : Int) = (1 : Int) then (ueT 0 (sei (h14)) ++ (ueT 0 (sei (h15)))) else ([] : List Tok)) ++ D))))))))) y45.1 := hy45
  refine ok_chk (by rw [hh_len hK hh]; decide) ?_
  refine ok_ltt (fun M46 eM46 => ?_)
  have hM46 : RDU G M0 d f T (hd + 1) 27 (upv (upv (upv (upv (upv (upv (upv (fun _ => (0 : Int)) 18 (1 : Int)) 11 h11) 0 ((h0 : Nat) : Int)) 1 (0 : Int)) 2 (0 : Int)) 21 x41.toInt) 3 ((h3 : Nat) : Int)) (toks 0 (h5) 8 ++ (toks 0 (o) 1 ++ ((if ((o : Nat) : Int) = (1 : Int) then (ueT 0 (h9 - 1)) else ([] : List Tok)) ++ (toks 0 (0) 1 ++ ((if ¬ h11 = (0 : Int) then (toks 0 (0) 1) else ([] : List Tok)) ++ ((if c = (1 : Int) then (ueT 0 (0)) else ([] : List Tok)) ++ (ueT 0 (sei (q)) ++ (ueT 0 (h13) ++ ((if ¬ ((h13 : Nat) : Int) = (1 : Int) then (ueT 0 (sei (h14)) ++ (ueT 0 (sei (h15)))) else ([] : List Tok)) ++ D))))))))) M46 := by rw [eM46]; exact rdu_w (k := 3) hy45 (hh_w hh) (rd_nd h hK hh) vy45
  rw [if_neg (show ¬ (p0 = (5 : Int32)) from fun qq => absurd (pz_eq.mp qq) (by rw [(show (p0).toInt = (1 : Int) from e0), (show ((5 : Int32)).toInt = (5 : Int) from rfl)] <;> first | decide | omega))]
  refine ok_bnd (Q := fun y47 => RDU G M0 d f T (hd + 1) 27 (upv (upv (upv (upv (upv (upv (upv (fun _ => (0 : Int)) 18 (1 : Int)) 11 h11) 0 ((h0 : Nat) : Int)) 1 (0 : Int)) 2 (0 : Int)) 21 x41.toInt) 3 ((h3 : Nat) : Int)) (toks 0 (h5) 8 ++ (toks 0 (o) 1 ++ ((if ((o : Nat) : Int) = (1 : Int) then (ueT 0 (h9 - 1)) else ([] : List Tok)) ++ (toks 0 (0) 1 ++ ((if ¬ h11 = (0 : Int) then (toks 0 (0) 1) else ([] : List Tok)) ++ ((if c = (1 : Int) then (ueT 0 (0)) else ([] : List Tok)) ++ (ueT 0 (sei (q)) ++ (ueT 0 (h13) ++ ((if ¬ ((h13 : Nat) : Int) = (1 : Int) then (ueT 0 (sei (h14)) ++ (ueT 0 (sei (h15)))) else ([] : List Tok)) ++ D))))))))) y47) ?_ ?_
  · skip
    exact ok_some hM46
  intro y47 hy47
  refine ok_bnd (h_order98 (v := (upv (upv (upv (upv (upv (upv (upv (fun _ => (0 : Int)) 18 (1 : Int)) 11 h11) 0 ((h0 : Nat) : Int)) 1 (0 : Int)) 2 (0 : Int)) 21 x41.toInt) 3 ((h3 : Nat) : Int))) (D := (toks 0 (o) 1 ++ ((if ((o : Nat) : Int) = (1 : Int) then (ueT 0 (h9 - 1)) else ([] : List Tok)) ++ (toks 0 (0) 1 ++ ((if ¬ h11 = (0 : Int) then (toks 0 (0) 1) else ([] : List Tok)) ++ ((if c = (1 : Int) then (ueT 0 (0)) else ([] : List Tok)) ++ (ueT 0 (sei (q)) ++ (ueT 0 (h13) ++ ((if ¬ ((h13 : Nat) : Int) = (1 : Int) then (ueT 0 (sei (h14)) ++ (ueT 0 (sei (h15)))) else ([] : List Tok)) ++ D))))))))) hh hK s94_2 s98_3 s98_4 b5 hy47) ?_
  intro y48 hy48
  have hy48 : RDU G M0 d f T (hd + 1) 27 (upv (upv (upv (upv (upv (upv (upv (upv (fun _ => (0 : Int)) 18 (1 : Int)) 11 h11) 0 ((h0 : Nat) : Int)) 1 (0 : Int)) 2 (0 : Int)) 21 x41.toInt) 3 ((h3 : Nat) : Int)) 5 ((h5 : Nat) : Int)) (toks 0 (o) 1 ++ ((if ((o : Nat) : Int) = (1 : Int) then (ueT 0 (h9 - 1)) else ([] : List Tok)) ++ (toks 0 (0) 1 ++ ((if ¬ h11 = (0 : Int) then (toks 0 (0) 1) else ([] : List Tok)) ++ ((if c = (1 : Int) then (ueT 0 (0)) else ([] : List Tok)) ++ (ueT 0 (sei (q)) ++ (ueT 0 (h13) ++ ((if ¬ ((h13 : Nat) : Int) = (1 : Int) then (ueT 0 (sei (h14)) ++ (ueT 0 (sei (h15)))) else ([] : List Tok)) ++ D)))))))) y48 := hy48
  refine ok_chk (by rw [hh_len hK hh]; decide) ?_
  refine ok_ltt (fun x49 ex49 => ?_)
  have vx49 : x49.toInt = (0 : Int) := by rw [ex49]; exact (rdu_r (k := 1) hy48 (by decide)).trans (rfl)
  rw [if_neg (show ¬ (x49 = (2 : Int32)) from fun qq => absurd (pz_eq.mp qq) (by rw [(show (x49).toInt = (0 : Int) from vx49), (show ((2 : Int32)).toInt = (2 : Int) from rfl)] <;> first | decide | omega))]
  refine ok_bnd (Q := fun y50 => RDU G M0 d f T (hd + 1) 27 (upv (upv (upv (upv (upv (upv (upv (upv (upv (upv (upv (upv (fun _ => (0 : Int)) 18 (1 : Int)) 11 h11) 0 ((h0 : Nat) : Int)) 1 (0 : Int)) 2 (0 : Int)) 21 x41.toInt) 3 ((h3 : Nat) : Int)) 5 ((h5 : Nat) : Int)) 8 (0 : Int)) 9 r) 10 (0 : Int)) 9 (if ((o : Nat) : Int) = (1 : Int) then (((h9 - 1 : Nat) : Int) + (1 : Int)) else r)) ((if ¬ h11 = (0 : Int) then (toks 0 (0) 1) else ([] : List Tok)) ++ ((if c = (1 : Int) then (ueT 0 (0)) else ([] : List Tok)) ++ (ueT 0 (sei (q)) ++ (ueT 0 (h13) ++ ((if ¬ ((h13 : Nat) : Int) = (1 : Int) then (ueT 0 (sei (h14)) ++ (ueT 0 (sei (h15)))) else ([] : List Tok)) ++ D))))) y50) ?_ ?_
  · skip
    refine ok_bnd (h_listp98 (v := (upv (upv (upv (upv (upv (upv (upv (upv (fun _ => (0 : Int)) 18 (1 : Int)) 11 h11) 0 ((h0 : Nat) : Int)) 1 (0 : Int)) 2 (0 : Int)) 21 x41.toInt) 3 ((h3 : Nat) : Int)) 5 ((h5 : Nat) : Int))) (D := ((if ¬ h11 = (0 : Int) then (toks 0 (0) 1) else ([] : List Tok)) ++ ((if c = (1 : Int) then (ueT 0 (0)) else ([] : List Tok)) ++ (ueT 0 (sei (q)) ++ (ueT 0 (h13) ++ ((if ¬ ((h13 : Nat) : Int) = (1 : Int) then (ueT 0 (sei (h14)) ++ (ueT 0 (sei (h15)))) else ([] : List Tok)) ++ D)))))) hh hK (rfl) s94_3 s94_5 s98_2 bo b9 hy48) ?_
    intro y56 hy56
    have hy56 : RDU G M0 d f T (hd + 1) 27 (upv (upv (upv (upv (upv (upv (upv (upv (upv (upv (upv (upv (fun _ => (0 : Int)) 18 (1 : Int)) 11 h11) 0 ((h0 : Nat) : Int)) 1 (0 : Int)) 2 (0 : Int)) 21 x41.toInt) 3 ((h3 : Nat) : Int)) 5 ((h5 : Nat) : Int)) 8 (0 : Int)) 9 r) 10 (0 : Int)) 9 (if ((o : Nat) : Int) = (1 : Int) then (((h9 - 1 : Nat) : Int) + (1 : Int)) else r)) ((if ¬ h11 = (0 : Int) then (toks 0 (0) 1) else ([] : List Tok)) ++ ((if c = (1 : Int) then (ueT 0 (0)) else ([] : List Tok)) ++ (ueT 0 (sei (q)) ++ (ueT 0 (h13) ++ ((if ¬ ((h13 : Nat) : Int) = (1 : Int) then (ueT 0 (sei (h14)) ++ (ueT 0 (sei (h15)))) else ([] : List Tok)) ++ D))))) y56 := hy56
    exact ok_some hy56
  intro y50 hy50
  refine ok_bnd (Q := fun y51 => RDU G M0 d f T (hd + 1) 27 (upv (upv (upv (upv (upv (upv (upv (upv (upv (upv (upv (upv (fun _ => (0 : Int)) 18 (1 : Int)) 11 h11) 0 ((h0 : Nat) : Int)) 1 (0 : Int)) 2 (0 : Int)) 21 x41.toInt) 3 ((h3 : Nat) : Int)) 5 ((h5 : Nat) : Int)) 8 (0 : Int)) 9 r) 10 (0 : Int)) 9 (if ((o : Nat) : Int) = (1 : Int) then (((h9 - 1 : Nat) : Int) + (1 : Int)) else r)) ((if c = (1 : Int) then (ueT 0 (0)) else ([] : List Tok)) ++ (ueT 0 (sei (q)) ++ (ueT 0 (h13) ++ ((if ¬ ((h13 : Nat) : Int) = (1 : Int) then (ueT 0 (sei (h14)) ++ (ueT 0 (sei (h15)))) else ([] : List Tok)) ++ D)))) y51) (ok_if ?_ ?_) ?_
  · intro hc
    have hq : (h11 = (0 : Int)) := by
      have q1 := (show _ = h11 from e1).symm.trans ((congrArg Int32.toInt hc).trans (show (0 : Int32).toInt = (0 : Int) from rfl))
      exact q1
    have hz : RDU G M0 d f T (hd + 1) 27 (upv (upv (upv (upv (upv (upv (upv (upv (upv (upv (upv (upv (fun _ => (0 : Int)) 18 (1 : Int)) 11 h11) 0 ((h0 : Nat) : Int)) 1 (0 : Int)) 2 (0 : Int)) 21 x41.toInt) 3 ((h3 : Nat) : Int)) 5 ((h5 : Nat) : Int)) 8 (0 : Int)) 9 r) 10 (0 : Int)) 9 (if ((o : Nat) : Int) = (1 : Int) then (((h9 - 1 : Nat) : Int) + (1 : Int)) else r)) ((if c = (1 : Int) then (ueT 0 (0)) else ([] : List Tok)) ++ (ueT 0 (sei (q)) ++ (ueT 0 (h13) ++ ((if ¬ ((h13 : Nat) : Int) = (1 : Int) then (ueT 0 (sei (h14)) ++ (ueT 0 (sei (h15)))) else ([] : List Tok)) ++ D)))) y50 := by
      have z := hy50
      rw [if_neg (show ¬ ¬ (h11 = (0 : Int)) from fun q => q hq)] at z
      simpa only [List.append_assoc, List.nil_append] using z
    refine ok_some (rdu_eqv (v := (upv (upv (upv (upv (upv (upv (upv (upv (upv (upv (upv (upv (fun _ => (0 : Int)) 18 (1 : Int)) 11 h11) 0 ((h0 : Nat) : Int)) 1 (0 : Int)) 2 (0 : Int)) 21 x41.toInt) 3 ((h3 : Nat) : Int)) 5 ((h5 : Nat) : Int)) 8 (0 : Int)) 9 r) 10 (0 : Int)) 9 (if ((o : Nat) : Int) = (1 : Int) then (((h9 - 1 : Nat) : Int) + (1 : Int)) else r))) hz ?_)
    intro k hk
    simp only [upv, if_pos hq]
    all_goals ((repeat' split) <;> first | rfl | omega)
  · intro hc
    have hq : ¬ (h11 = (0 : Int)) := by
      exact fun q => hc (Int32.toInt_inj.1 (Eq.trans e1 (Eq.trans q (Eq.symm rfl))))
    have hz : RDU G M0 d f T (hd + 1) 27 (upv (upv (upv (upv (upv (upv (upv (upv (upv (upv (upv (upv (fun _ => (0 : Int)) 18 (1 : Int)) 11 h11) 0 ((h0 : Nat) : Int)) 1 (0 : Int)) 2 (0 : Int)) 21 x41.toInt) 3 ((h3 : Nat) : Int)) 5 ((h5 : Nat) : Int)) 8 (0 : Int)) 9 r) 10 (0 : Int)) 9 (if ((o : Nat) : Int) = (1 : Int) then (((h9 - 1 : Nat) : Int) + (1 : Int)) else r)) (toks 0 (0) 1 ++ ((if c = (1 : Int) then (ueT 0 (0)) else ([] : List Tok)) ++ (ueT 0 (sei (q)) ++ (ueT 0 (h13) ++ ((if ¬ ((h13 : Nat) : Int) = (1 : Int) then (ueT 0 (sei (h14)) ++ (ueT 0 (sei (h15)))) else ([] : List Tok)) ++ D))))) y50 := by
      have z := hy50
      rw [if_pos hq] at z
      simpa only [List.append_assoc, List.nil_append] using z
    refine ok_bnd (h_marksn (v := (upv (upv (upv (upv (upv (upv (upv (upv (upv (upv (upv (upv (fun _ => (0 : Int)) 18 (1 : Int)) 11 h11) 0 ((h0 : Nat) : Int)) 1 (0 : Int)) 2 (0 : Int)) 21 x41.toInt) 3 ((h3 : Nat) : Int)) 5 ((h5 : Nat) : Int)) 8 (0 : Int)) 9 r) 10 (0 : Int)) 9 (if ((o : Nat) : Int) = (1 : Int) then (((h9 - 1 : Nat) : Int) + (1 : Int)) else r))) (D := ((if c = (1 : Int) then (ueT 0 (0)) else ([] : List Tok)) ++ (ueT 0 (sei (q)) ++ (ueT 0 (h13) ++ ((if ¬ ((h13 : Nat) : Int) = (1 : Int) then (ueT 0 (sei (h14)) ++ (ueT 0 (sei (h15)))) else ([] : List Tok)) ++ D))))) hh hK e0 hz) ?_
    intro y54 hy54
    have hy54 : RDU G M0 d f T (hd + 1) 27 (upv (upv (upv (upv (upv (upv (upv (upv (upv (upv (upv (upv (fun _ => (0 : Int)) 18 (1 : Int)) 11 h11) 0 ((h0 : Nat) : Int)) 1 (0 : Int)) 2 (0 : Int)) 21 x41.toInt) 3 ((h3 : Nat) : Int)) 5 ((h5 : Nat) : Int)) 8 (0 : Int)) 9 r) 10 (0 : Int)) 9 (if ((o : Nat) : Int) = (1 : Int) then (((h9 - 1 : Nat) : Int) + (1 : Int)) else r)) ((if c = (1 : Int) then (ueT 0 (0)) else ([] : List Tok)) ++ (ueT 0 (sei (q)) ++ (ueT 0 (h13) ++ ((if ¬ ((h13 : Nat) : Int) = (1 : Int) then (ueT 0 (sei (h14)) ++ (ueT 0 (sei (h15)))) else ([] : List Tok)) ++ D)))) y54 := hy54
    refine ok_some (rdu_eqv (v := (upv (upv (upv (upv (upv (upv (upv (upv (upv (upv (upv (upv (fun _ => (0 : Int)) 18 (1 : Int)) 11 h11) 0 ((h0 : Nat) : Int)) 1 (0 : Int)) 2 (0 : Int)) 21 x41.toInt) 3 ((h3 : Nat) : Int)) 5 ((h5 : Nat) : Int)) 8 (0 : Int)) 9 r) 10 (0 : Int)) 9 (if ((o : Nat) : Int) = (1 : Int) then (((h9 - 1 : Nat) : Int) + (1 : Int)) else r))) hy54 ?_)
    intro k hk
    simp only [upv, if_neg hq]
    all_goals ((repeat' split) <;> first | rfl | omega)
  intro y51 hy51
  refine ok_bnd (h_rules0 (v := (upv (upv (upv (upv (upv (upv (upv (upv (upv (upv (upv (upv (fun _ => (0 : Int)) 18 (1 : Int)) 11 h11) 0 ((h0 : Nat) : Int)) 1 (0 : Int)) 2 (0 : Int)) 21 x41.toInt) 3 ((h3 : Nat) : Int)) 5 ((h5 : Nat) : Int)) 8 (0 : Int)) 9 r) 10 (0 : Int)) 9 (if ((o : Nat) : Int) = (1 : Int) then (((h9 - 1 : Nat) : Int) + (1 : Int)) else r))) (D := D) hh hK (rfl) (rfl) (rfl) (rfl) s94_1 s94_7 s94_9 bz bq b13 b14 b15 hy51) ?_
  intro y52 hy52
  have hy52 : RDU G M0 d f T (hd + 1) 27 (upv (upv (upv (upv (upv (upv (upv (upv (upv (upv (upv (upv (upv (upv (upv (upv (fun _ => (0 : Int)) 18 (1 : Int)) 11 h11) 0 ((h0 : Nat) : Int)) 1 (0 : Int)) 2 (0 : Int)) 21 x41.toInt) 3 ((h3 : Nat) : Int)) 5 ((h5 : Nat) : Int)) 8 (0 : Int)) 9 r) 10 (0 : Int)) 9 (if ((o : Nat) : Int) = (1 : Int) then (((h9 - 1 : Nat) : Int) + (1 : Int)) else r)) 12 ((z + (26 : Int)) + (q : Int))) 13 ((h13 : Nat) : Int)) 14 (if ((h13 : Nat) : Int) = (1 : Int) then (0 : Int) else (h14 : Int))) 15 (if ((h13 : Nat) : Int) = (1 : Int) then (0 : Int) else (h15 : Int))) D y52 := hy52
  exact ok_some ⟨_, hy52⟩
theorem h_headB {G : GG} {M0 N : DD} {d hd : Nat} {f : Nat → Nat} {T : Nat} {v : Nat → Int} {D : List Tok} {h0 h3 h4 h5 h13 : Nat} {p0 p1 : Int32} {h11 c z q h14 h15 w : Int} {o h8 h9 : Nat} {r r4 g : Int} (hh : HH M0 hd) (hK : GK G M0)  (s89_23 : (M0.1 89 23).toInt = (1 : Int)) (s94_0 : (M0.1 94 0).toInt = (0 : Int)) (s94_1 : (M0.1 94 1).toInt = c) (s94_2 : (M0.1 94 2).toInt = (0 : Int)) (s94_3 : (M0.1 94 3).toInt = r) (s94_4 : (M0.1 94 4).toInt = r4) (s94_6 : (M0.1 94 6).toInt = g) (s94_7 : (M0.1 94 7).toInt = z) (s94_9 : (M0.1 94 9).toInt = (1 : Int)) (s94_11 : (M0.1 94 11).toInt = (1 : Int)) (s98_0 : (M0.1 98 0).toInt = w) (s98_1 : (M0.1 98 1).toInt = (2 : Int)) (s98_2 : (M0.1 98 2).toInt = (8 : Int)) (s98_3 : (M0.1 98 3).toInt = (0 : Int)) (s98_4 : (M0.1 98 4).toInt = (8 : Int)) (o12_8 : (M0.1 12 8).toInt = (0 : Int)) (e0 : p0.toInt = 1) (e1 : p1.toInt = h11) (bw : w = 1 ∨ w = 2) (b0 : (h0 : Int) < w * 2) (b3 : h3 < 256) (b4 : h4 < 65536) (b5 : h5 < 256) (bz : -26 ≤ z ∧ z ≤ 25) (bq : 0 ≤ z + 26 + q ∧ z + 26 + q ≤ 51) (b13 : h13 ≤ 2) (b14 : -6 ≤ h14 ∧ h14 ≤ 6) (b15 : -6 ≤ h15 ∧ h15 ≤ 6) (b8 : h8 ≤ 1) (bo : o ≤ 1) (b9 : 1 ≤ h9 ∧ h9 ≤ 8) (bg : ¬ g = 1) (h : RDU G M0 d f T (hd + 1) 0 v (ueT 0 (h0) ++ (ueT 0 (1) ++ (ueT 0 (0) ++ (toks 0 (h3) 8 ++ (toks 0 (h5) 8 ++ (toks 0 (h8) 1 ++ (toks 0 (o) 1 ++ ((if ((o : Nat) : Int) = (1 : Int) then (ueT 0 (h9 - 1) ++ (ueT 0 (0))) else ([] : List Tok)) ++ (toks 0 (0) 1 ++ (toks 0 (0) 1 ++ ((if ¬ h11 = (0 : Int) then (toks 0 (0) 1) else ([] : List Tok)) ++ ((if c = (1 : Int) then (ueT 0 (0)) else ([] : List Tok)) ++ (ueT 0 (sei (q)) ++ (ueT 0 (h13) ++ ((if ¬ ((h13 : Nat) : Int) = (1 : Int) then (ueT 0 (sei (h14)) ++ (ueT 0 (sei (h15)))) else ([] : List Tok)) ++ D))))))))))))))) N) : OK (FX1_readHeader G N 12 p0 p1) (fun y => ∃ t21 : Int, RDU G M0 d f T (hd + 1) 27 (upv (upv (upv (upv (upv (upv (upv (upv (upv (upv (upv (upv (upv (upv (upv (upv (upv (fun _ => (0 : Int)) 18 (1 : Int)) 11 h11) 0 ((h0 : Nat) : Int)) 1 (1 : Int)) 2 (0 : Int)) 21 t21) 3 ((h3 : Nat) : Int)) 5 ((h5 : Nat) : Int)) 8 ((h8 : Nat) : Int)) 9 r) 10 r4) 9 (if ((o : Nat) : Int) = (1 : Int) then (((h9 - 1 : Nat) : Int) + (1 : Int)) else r)) 10 (if ((o : Nat) : Int) = (1 : Int) then (1 : Int) else r4)) 12 ((z + (26 : Int)) + (q : Int))) 13 ((h13 : Nat) : Int)) 14 (if ((h13 : Nat) : Int) = (1 : Int) then (0 : Int) else (h14 : Int))) 15 (if ((h13 : Nat) : Int) = (1 : Int) then (0 : Int) else (h15 : Int))) D y) := by
  unfold FX1_readHeader
  refine ok_drH h hK hh ?_
  refine ok_bnd (rdu_fill (w := hd + 1) h (hh_w hh) (rd_nd h hK hh) (hh_k hK hh).1 (hh_k hK hh).2 (by rw [hh_len hK hh]; decide) (hh_r h hK hh) rfl) ?_
  rw [hh_len hK hh]
  intro y3 hy3
  have hy3 : RDU G M0 d f T (hd + 1) 27 (fun _ => (0 : Int)) (ueT 0 (h0) ++ (ueT 0 (1) ++ (ueT 0 (0) ++ (toks 0 (h3) 8 ++ (toks 0 (h5) 8 ++ (toks 0 (h8) 1 ++ (toks 0 (o) 1 ++ ((if ((o : Nat) : Int) = (1 : Int) then (ueT 0 (h9 - 1) ++ (ueT 0 (0))) else ([] : List Tok)) ++ (toks 0 (0) 1 ++ (toks 0 (0) 1 ++ ((if ¬ h11 = (0 : Int) then (toks 0 (0) 1) else ([] : List Tok)) ++ ((if c = (1 : Int) then (ueT 0 (0)) else ([] : List Tok)) ++ (ueT 0 (sei (q)) ++ (ueT 0 (h13) ++ ((if ¬ ((h13 : Nat) : Int) = (1 : Int) then (ueT 0 (sei (h14)) ++ (ueT 0 (sei (h15)))) else ([] : List Tok)) ++ D))))))))))))))) y3 := hy3
  refine ok_drHW h hK hh ?_
  refine ok_chk (by rw [hh_len hK hh]; decide) ?_
  refine ok_ltt (fun M5 eM5 => ?_)
  have hM5 : RDU G M0 d f T (hd + 1) 27 (upv (fun _ => (0 : Int)) 18 (1 : Int)) (ueT 0 (h0) ++ (ueT 0 (1) ++ (ueT 0 (0) ++ (toks 0 (h3) 8 ++ (toks 0 (h5) 8 ++ (toks 0 (h8) 1 ++ (toks 0 (o) 1 ++ ((if ((o : Nat) : Int) = (1 : Int) then (ueT 0 (h9 - 1) ++ (ueT 0 (0))) else ([] : List Tok)) ++ (toks 0 (0) 1 ++ (toks 0 (0) 1 ++ ((if ¬ h11 = (0 : Int) then (toks 0 (0) 1) else ([] : List Tok)) ++ ((if c = (1 : Int) then (ueT 0 (0)) else ([] : List Tok)) ++ (ueT 0 (sei (q)) ++ (ueT 0 (h13) ++ ((if ¬ ((h13 : Nat) : Int) = (1 : Int) then (ueT 0 (sei (h14)) ++ (ueT 0 (sei (h15)))) else ([] : List Tok)) ++ D))))))))))))))) M5 := by rw [eM5]; exact rdu_w (k := 18) hy3 (hh_w hh) (rd_nd h hK hh) e0
  refine ok_chk (by rw [hh_len hK hh]; decide) ?_
  refine ok_ltt (fun M6 eM6 => ?_)
  have hM6 : RDU G M0 d f T (hd + 1) 27 (upv (upv (fun _ => (0 : Int)) 18 (1 : Int)) 11 h11) (ueT 0 (h0) ++ (ueT 0 (1) ++ (ueT 0 (0) ++ (toks 0 (h3) 8 ++ (toks 0 (h5) 8 ++ (toks 0 (h8) 1 ++ (toks 0 (o) 1 ++ ((if ((o : Nat) : Int) = (1 : Int) then (ueT 0 (h9 - 1) ++ (ueT 0 (0))) else ([] : List Tok)) ++ (toks 0 (0) 1 ++ (toks 0 (0) 1 ++ ((if ¬ h11 = (0 : Int) then (toks 0 (0) 1) else ([] : List Tok)) ++ ((if c = (1 : Int) then (ueT 0 (0)) else ([] : List Tok)) ++ (ueT 0 (sei (q)) ++ (ueT 0 (h13) ++ ((if ¬ ((h13 : Nat) : Int) = (1 : Int) then (ueT 0 (sei (h14)) ++ (ueT 0 (sei (h15)))) else ([] : List Tok)) ++ D))))))))))))))) M6 := by rw [eM6]; exact rdu_w (k := 11) hM5 (hh_w hh) (rd_nd h hK hh) e1
  refine ok_drR (b := 13) hM6 hK rfl (by decide) rfl ?_
  refine ok_bnd (rdu_num0 (x := h0) hM6 (hh_w hh) rfl rfl (by omega) (by show (0 : Int) ≤ _; omega) (by show _ ≤ (4294967295 : Int); omega)) ?_
  rintro y8 ⟨vy8, hy8⟩
  have vy8 : y8.2.toInt = ((h0 : Nat) : Int) := vy8
  have hy8 : RDU G M0 d f T (hd + 1) 27 (upv (upv (fun _ => (0 : Int)) 18 (1 : Int)) 11 h11) (ueT 0 (1) ++ (ueT 0 (0) ++ (toks 0 (h3) 8 ++ (toks 0 (h5) 8 ++ (toks 0 (h8) 1 ++ (toks 0 (o) 1 ++ ((if ((o : Nat) : Int) = (1 : Int) then (ueT 0 (h9 - 1) ++ (ueT 0 (0))) else ([] : List Tok)) ++ (toks 0 (0) 1 ++ (toks 0 (0) 1 ++ ((if ¬ h11 = (0 : Int) then (toks 0 (0) 1) else ([] : List Tok)) ++ ((if c = (1 : Int) then (ueT 0 (0)) else ([] : List Tok)) ++ (ueT 0 (sei (q)) ++ (ueT 0 (h13) ++ ((if ¬ ((h13 : Nat) : Int) = (1 : Int) then (ueT 0 (sei (h14)) ++ (ueT 0 (sei (h15)))) else ([] : List Tok)) ++ D)))))))))))))) y8.1 := hy8
  refine ok_chk (by rw [hh_len hK hh]; decide) ?_
  refine ok_ltt (fun M9 eM9 => ?_)
  have hM9 : RDU G M0 d f T (hd + 1) 27 (upv (upv (upv (fun _ => (0 : Int)) 18 (1 : Int)) 11 h11) 0 ((h0 : Nat) : Int)) (ueT 0 (1) ++ (ueT 0 (0) ++ (toks 0 (h3) 8 ++ (toks 0 (h5) 8 ++ (toks 0 (h8) 1 ++ (toks 0 (o) 1 ++ ((if ((o : Nat) : Int) = (1 : Int) then (ueT 0 (h9 - 1) ++ (ueT 0 (0))) else ([] : List Tok)) ++ (toks 0 (0) 1 ++ (toks 0 (0) 1 ++ ((if ¬ h11 = (0 : Int) then (toks 0 (0) 1) else ([] : List Tok)) ++ ((if c = (1 : Int) then (ueT 0 (0)) else ([] : List Tok)) ++ (ueT 0 (sei (q)) ++ (ueT 0 (h13) ++ ((if ¬ ((h13 : Nat) : Int) = (1 : Int) then (ueT 0 (sei (h14)) ++ (ueT 0 (sei (h15)))) else ([] : List Tok)) ++ D)))))))))))))) M9 := by rw [eM9]; exact rdu_w (k := 0) hy8 (hh_w hh) (rd_nd h hK hh) vy8
  refine ok_drR (b := 13) hM9 hK rfl (by decide) rfl ?_
  refine ok_ltt (fun x11 ex11 => ?_)
  refine ok_bnd (rdu_uns (x := 1) hM9 hK (hh_w hh) (by omega) (by show _ ≤ (9 : Int); omega)) ?_
  rintro y12 ⟨vy12, hy12⟩
  have vy12 : y12.2.toInt = (1 : Int) := vy12
  have hy12 : RDU G M0 d f T (hd + 1) 27 (upv (upv (upv (fun _ => (0 : Int)) 18 (1 : Int)) 11 h11) 0 ((h0 : Nat) : Int)) (ueT 0 (0) ++ (toks 0 (h3) 8 ++ (toks 0 (h5) 8 ++ (toks 0 (h8) 1 ++ (toks 0 (o) 1 ++ ((if ((o : Nat) : Int) = (1 : Int) then (ueT 0 (h9 - 1) ++ (ueT 0 (0))) else ([] : List Tok)) ++ (toks 0 (0) 1 ++ (toks 0 (0) 1 ++ ((if ¬ h11 = (0 : Int) then (toks 0 (0) 1) else ([] : List Tok)) ++ ((if c = (1 : Int) then (ueT 0 (0)) else ([] : List Tok)) ++ (ueT 0 (sei (q)) ++ (ueT 0 (h13) ++ ((if ¬ ((h13 : Nat) : Int) = (1 : Int) then (ueT 0 (sei (h14)) ++ (ueT 0 (sei (h15)))) else ([] : List Tok)) ++ D))))))))))))) y12.1 := hy12
  refine ok_ltt (fun x13 ex13 => ?_)
  have vx13 : x13.toInt = (1 : Int) := by rw [ex13, show y12.2 = (1 : Int32) from Int32.toInt_inj.1 vy12]; decide
  refine ok_chk (by rw [hh_len hK hh]; decide) ?_
  refine ok_ltt (fun M14 eM14 => ?_)
  have hM14 : RDU G M0 d f T (hd + 1) 27 (upv (upv (upv (upv (fun _ => (0 : Int)) 18 (1 : Int)) 11 h11) 0 ((h0 : Nat) : Int)) 1 (1 : Int)) (ueT 0 (0) ++ (toks 0 (h3) 8 ++ (toks 0 (h5) 8 ++ (toks 0 (h8) 1 ++ (toks 0 (o) 1 ++ ((if ((o : Nat) : Int) = (1 : Int) then (ueT 0 (h9 - 1) ++ (ueT 0 (0))) else ([] : List Tok)) ++ (toks 0 (0) 1 ++ (toks 0 (0) 1 ++ ((if ¬ h11 = (0 : Int) then (toks 0 (0) 1) else ([] : List Tok)) ++ ((if c = (1 : Int) then (ueT 0 (0)) else ([] : List Tok)) ++ (ueT 0 (sei (q)) ++ (ueT 0 (h13) ++ ((if ¬ ((h13 : Nat) : Int) = (1 : Int) then (ueT 0 (sei (h14)) ++ (ueT 0 (sei (h15)))) else ([] : List Tok)) ++ D))))))))))))) M14 := by rw [eM14]; exact rdu_w (k := 1) hy12 (hh_w hh) (rd_nd h hK hh) vx13
  refine ok_chk (by rw [hh_len hK hh]; decide) ?_
  refine ok_ltt (fun x15 ex15 => ?_)
  have vx15 : x15.toInt = (1 : Int) := by rw [ex15]; exact (rdu_r (k := 1) hM14 (by decide)).trans (rfl)
  rw [if_neg (show ¬ ((2 : Int32) < x15) from fun qq => absurd (pz_lt.mp qq) (by rw [(show ((2 : Int32)).toInt = (2 : Int) from rfl), (show (x15).toInt = (1 : Int) from vx15)] <;> first | decide | omega))]
  refine ok_bnd (Q := fun y16 => RDU G M0 d f T (hd + 1) 27 (upv (upv (upv (upv (fun _ => (0 : Int)) 18 (1 : Int)) 11 h11) 0 ((h0 : Nat) : Int)) 1 (1 : Int)) (ueT 0 (0) ++ (toks 0 (h3) 8 ++ (toks 0 (h5) 8 ++ (toks 0 (h8) 1 ++ (toks 0 (o) 1 ++ ((if ((o : Nat) : Int) = (1 : Int) then (ueT 0 (h9 - 1) ++ (ueT 0 (0))) else ([] : List Tok)) ++ (toks 0 (0) 1 ++ (toks 0 (0) 1 ++ ((if ¬ h11 = (0 : Int) then (toks 0 (0) 1) else ([] : List Tok)) ++ ((if c = (1 : Int) then (ueT 0 (0)) else ([] : List Tok)) ++ (ueT 0 (sei (q)) ++ (ueT 0 (h13) ++ ((if ¬ ((h13 : Nat) : Int) = (1 : Int) then (ueT 0 (sei (h14)) ++ (ueT 0 (sei (h15)))) else ([] : List Tok)) ++ D))))))))))))) y16) ?_ ?_
  · skip
    exact ok_some hM14
  intro y16 hy16
  rw [if_neg (show ¬ (p0 = (5 : Int32)) from fun qq => absurd (pz_eq.mp qq) (by rw [(show (p0).toInt = (1 : Int) from e0), (show ((5 : Int32)).toInt = (5 : Int) from rfl)] <;> first | decide | omega))]
  refine ok_bnd (Q := fun y17 => RDU G M0 d f T (hd + 1) 27 (upv (upv (upv (upv (fun _ => (0 : Int)) 18 (1 : Int)) 11 h11) 0 ((h0 : Nat) : Int)) 1 (1 : Int)) (ueT 0 (0) ++ (toks 0 (h3) 8 ++ (toks 0 (h5) 8 ++ (toks 0 (h8) 1 ++ (toks 0 (o) 1 ++ ((if ((o : Nat) : Int) = (1 : Int) then (ueT 0 (h9 - 1) ++ (ueT 0 (0))) else ([] : List Tok)) ++ (toks 0 (0) 1 ++ (toks 0 (0) 1 ++ ((if ¬ h11 = (0 : Int) then (toks 0 (0) 1) else ([] : List Tok)) ++ ((if c = (1 : Int) then (ueT 0 (0)) else ([] : List Tok)) ++ (ueT 0 (sei (q)) ++ (ueT 0 (h13) ++ ((if ¬ ((h13 : Nat) : Int) = (1 : Int) then (ueT 0 (sei (h14)) ++ (ueT 0 (sei (h15)))) else ([] : List Tok)) ++ D))))))))))))) y17) ?_ ?_
  · skip
    exact ok_some hy16
  intro y17 hy17
  refine ok_bnd (rdu_uns (x := 0) hy17 hK (hh_w hh) (by omega) (by show _ ≤ (3 : Int); omega)) ?_
  rintro y18 ⟨vy18, hy18⟩
  have vy18 : y18.2.toInt = (0 : Int) := vy18
  have hy18 : RDU G M0 d f T (hd + 1) 27 (upv (upv (upv (upv (fun _ => (0 : Int)) 18 (1 : Int)) 11 h11) 0 ((h0 : Nat) : Int)) 1 (1 : Int)) (toks 0 (h3) 8 ++ (toks 0 (h5) 8 ++ (toks 0 (h8) 1 ++ (toks 0 (o) 1 ++ ((if ((o : Nat) : Int) = (1 : Int) then (ueT 0 (h9 - 1) ++ (ueT 0 (0))) else ([] : List Tok)) ++ (toks 0 (0) 1 ++ (toks 0 (0) 1 ++ ((if ¬ h11 = (0 : Int) then (toks 0 (0) 1) else ([] : List Tok)) ++ ((if c = (1 : Int) then (ueT 0 (0)) else ([] : List Tok)) ++ (ueT 0 (sei (q)) ++ (ueT 0 (h13) ++ ((if ¬ ((h13 : Nat) : Int) = (1 : Int) then (ueT 0 (sei (h14)) ++ (ueT 0 (sei (h15)))) else ([] : List Tok)) ++ D)))))))))))) y18.1 := hy18
  refine ok_chk (by rw [hh_len hK hh]; decide) ?_
  refine ok_ltt (fun M19 eM19 => ?_)
  have hM19 : RDU G M0 d f T (hd + 1) 27 (upv (upv (upv (upv (upv (fun _ => (0 : Int)) 18 (1 : Int)) 11 h11) 0 ((h0 : Nat) : Int)) 1 (1 : Int)) 2 (0 : Int)) (toks 0 (h3) 8 ++ (toks 0 (h5) 8 ++ (toks 0 (h8) 1 ++ (toks 0 (o) 1 ++ ((if ((o : Nat) : Int) = (1 : Int) then (ueT 0 (h9 - 1) ++ (ueT 0 (0))) else ([] : List Tok)) ++ (toks 0 (0) 1 ++ (toks 0 (0) 1 ++ ((if ¬ h11 = (0 : Int) then (toks 0 (0) 1) else ([] : List Tok)) ++ ((if c = (1 : Int) then (ueT 0 (0)) else ([] : List Tok)) ++ (ueT 0 (sei (q)) ++ (ueT 0 (h13) ++ ((if ¬ ((h13 : Nat) : Int) = (1 : Int) then (ueT 0 (sei (h14)) ++ (ueT 0 (sei (h15)))) else ([] : List Tok)) ++ D)))))))))))) M19 := by rw [eM19]; exact rdu_w (k := 2) hy18 (hh_w hh) (rd_nd h hK hh) vy18
  refine ok_chk (by rw [hh_len hK hh]; decide) ?_
  refine ok_ltt (fun x20 ex20 => ?_)
  have vx20 : x20.toInt = (0 : Int) := by rw [ex20]; exact (rdu_r (k := 2) hM19 (by decide)).trans (rfl)
  refine ok_drR (b := 93) hM19 hK rfl (by decide) rfl ?_
  refine ok_chk (by rw [show x20 = (0 : Int32) from Int32.toInt_inj.1 vx20, gk_len hK (b := 93) (n := 4) (by decide) rfl]; decide) ?_
  rw [show (x20).toNatClampNeg = 0 from by rw [show x20 = (0 : Int32) from Int32.toInt_inj.1 vx20]; rfl]
  rw [rdu_ref (b := 94) hM19 hK rfl (by decide)]
  refine ok_drK (b := 94) hK (by decide) rfl ?_
  refine ok_chk (by rw [gk_len hK (b := 94) (n := 12) (by decide) rfl]; decide) ?_
  refine ok_ltt (fun x23 ex23 => ?_)
  have vx23 : x23.toInt = (0 : Int) := by rw [ex23]; exact (congrArg Int32.toInt (rdu_o hM19 (by decide) (by rcases hh.2 with q | q | q <;> omega))).trans s94_0
  refine ok_chk (by rw [gk_len hK (b := 94) (n := 12) (by decide) rfl]; decide) ?_
  refine ok_ltt (fun x24 ex24 => ?_)
  have vx24 : x24.toInt = (1 : Int) := by rw [ex24]; exact (congrArg Int32.toInt (rdu_o hM19 (by decide) (by rcases hh.2 with q | q | q <;> omega))).trans s94_11
  rw [if_neg (show ¬ (x24 = (0 : Int32)) from fun qq => absurd (pz_eq.mp qq) (by rw [(show (x24).toInt = (1 : Int) from vx24), (show ((0 : Int32)).toInt = (0 : Int) from rfl)] <;> first | decide | omega))]
  refine ok_bnd (Q := fun y25 => RDU G M0 d f T (hd + 1) 27 (upv (upv (upv (upv (upv (fun _ => (0 : Int)) 18 (1 : Int)) 11 h11) 0 ((h0 : Nat) : Int)) 1 (1 : Int)) 2 (0 : Int)) (toks 0 (h3) 8 ++ (toks 0 (h5) 8 ++ (toks 0 (h8) 1 ++ (toks 0 (o) 1 ++ ((if ((o : Nat) : Int) = (1 : Int) then (ueT 0 (h9 - 1) ++ (ueT 0 (0))) else ([] : List Tok)) ++ (toks 0 (0) 1 ++ (toks 0 (0) 1 ++ ((if ¬ h11 = (0 : Int) then (toks 0 (0) 1) else ([] : List Tok)) ++ ((if c = (1 : Int) then (ueT 0 (0)) else ([] : List Tok)) ++ (ueT 0 (sei (q)) ++ (ueT 0 (h13) ++ ((if ¬ ((h13 : Nat) : Int) = (1 : Int) then (ueT 0 (sei (h14)) ++ (ueT 0 (sei (h15)))) else ([] : List Tok)) ++ D)))))))))))) y25) ?_ ?_
  · skip
    exact ok_some hM19
  intro y25 hy25
  refine ok_drR (b := 88) hy25 hK rfl (by decide) rfl ?_
  refine ok_chk (by rw [show x23 = (0 : Int32) from Int32.toInt_inj.1 vx23, gk_len hK (b := 88) (n := 4) (by decide) rfl]; decide) ?_
  rw [show (x23).toNatClampNeg = 0 from by rw [show x23 = (0 : Int32) from Int32.toInt_inj.1 vx23]; rfl]
  rw [rdu_ref (b := 89) hy25 hK rfl (by decide)]
  refine ok_drK (b := 89) hK (by decide) rfl ?_
  refine ok_chk (by rw [gk_len hK (b := 89) (n := 24) (by decide) rfl]; decide) ?_
  refine ok_ltt (fun x28 ex28 => ?_)
  have vx28 : x28.toInt = (1 : Int) := by rw [ex28]; exact (congrArg Int32.toInt (rdu_o hy25 (by decide) (by rcases hh.2 with q | q | q <;> omega))).trans s89_23
  rw [if_neg (show ¬ (x28 = (0 : Int32)) from fun qq => absurd (pz_eq.mp qq) (by rw [(show (x28).toInt = (1 : Int) from vx28), (show ((0 : Int32)).toInt = (0 : Int) from rfl)] <;> first | decide | omega))]
  refine ok_bnd (Q := fun y29 => RDU G M0 d f T (hd + 1) 27 (upv (upv (upv (upv (upv (fun _ => (0 : Int)) 18 (1 : Int)) 11 h11) 0 ((h0 : Nat) : Int)) 1 (1 : Int)) 2 (0 : Int)) (toks 0 (h3) 8 ++ (toks 0 (h5) 8 ++ (toks 0 (h8) 1 ++ (toks 0 (o) 1 ++ ((if ((o : Nat) : Int) = (1 : Int) then (ueT 0 (h9 - 1) ++ (ueT 0 (0))) else ([] : List Tok)) ++ (toks 0 (0) 1 ++ (toks 0 (0) 1 ++ ((if ¬ h11 = (0 : Int) then (toks 0 (0) 1) else ([] : List Tok)) ++ ((if c = (1 : Int) then (ueT 0 (0)) else ([] : List Tok)) ++ (ueT 0 (sei (q)) ++ (ueT 0 (h13) ++ ((if ¬ ((h13 : Nat) : Int) = (1 : Int) then (ueT 0 (sei (h14)) ++ (ueT 0 (sei (h15)))) else ([] : List Tok)) ++ D)))))))))))) y29) ?_ ?_
  · skip
    exact ok_some hy25
  intro y29 hy29
  rw [if_pos (show p0 = (1 : Int32) from pz_eq.mpr (by rw [(show (p0).toInt = (1 : Int) from e0), (show ((1 : Int32)).toInt = (1 : Int) from rfl)] <;> first | decide | omega))]
  refine ok_bnd (Q := fun y30 => RDU G M0 d f T (hd + 1) 27 (upv (upv (upv (upv (upv (fun _ => (0 : Int)) 18 (1 : Int)) 11 h11) 0 ((h0 : Nat) : Int)) 1 (1 : Int)) 2 (0 : Int)) (toks 0 (h3) 8 ++ (toks 0 (h5) 8 ++ (toks 0 (h8) 1 ++ (toks 0 (o) 1 ++ ((if ((o : Nat) : Int) = (1 : Int) then (ueT 0 (h9 - 1) ++ (ueT 0 (0))) else ([] : List Tok)) ++ (toks 0 (0) 1 ++ (toks 0 (0) 1 ++ ((if ¬ h11 = (0 : Int) then (toks 0 (0) 1) else ([] : List Tok)) ++ ((if c = (1 : Int) then (ueT 0 (0)) else ([] : List Tok)) ++ (ueT 0 (sei (q)) ++ (ueT 0 (h13) ++ ((if ¬ ((h13 : Nat) : Int) = (1 : Int) then (ueT 0 (sei (h14)) ++ (ueT 0 (sei (h15)))) else ([] : List Tok)) ++ D)))))))))))) y30) ?_ ?_
  · skip
    refine ok_ltt (fun x70 ex70 => ?_)
    have vx70 : x70.toInt = (0 : Int) := by rw [ex70]; exact (congrArg Int32.toInt (rdu_o hy29 (by decide) (by rcases hh.2 with q | q | q <;> omega))).trans o12_8
    rw [if_pos (show x70 = x23 from pz_eq.mpr (by rw [(show (x70).toInt = (0 : Int) from vx70), (show (x23).toInt = (0 : Int) from vx23)] <;> first | decide | omega))]
    refine ok_bnd (Q := fun y71 => RDU G M0 d f T (hd + 1) 27 (upv (upv (upv (upv (upv (fun _ => (0 : Int)) 18 (1 : Int)) 11 h11) 0 ((h0 : Nat) : Int)) 1 (1 : Int)) 2 (0 : Int)) (toks 0 (h3) 8 ++ (toks 0 (h5) 8 ++ (toks 0 (h8) 1 ++ (toks 0 (o) 1 ++ ((if ((o : Nat) : Int) = (1 : Int) then (ueT 0 (h9 - 1) ++ (ueT 0 (0))) else ([] : List Tok)) ++ (toks 0 (0) 1 ++ (toks 0 (0) 1 ++ ((if ¬ h11 = (0 : Int) then (toks 0 (0) 1) else ([] : List Tok)) ++ ((if c = (1 : Int) then (ueT 0 (0)) else ([] : List Tok)) ++ (ueT 0 (sei (q)) ++ (ueT 0 (h13) ++ ((if ¬ ((h13 : Nat) : Int) = (1 : Int) then (ueT 0 (sei (h14)) ++ (ueT 0 (sei (h15)))) else ([] : List Tok)) ++ D)))))))))))) y71) ?_ ?_
    · skip
      exact ok_some hy29
    intro y71 hy71
    exact ok_some hy71
  intro y30 hy30
  rw [if_pos (show p0 = (1 : Int32) from pz_eq.mpr (by rw [(show (p0).toInt = (1 : Int) from e0), (show ((1 : Int32)).toInt = (1 : Int) from rfl)] <;> first | decide | omega))]
  refine ok_bnd (Q := fun y => y = some 98) ?_ ?_
  · skip
    exact ok_some (rdu_ref (b := 98) hy30 hK rfl (by decide))
  intro y31 ey31
  subst ey31
  refine ok_chk (by rw [hh_len hK hh]; decide) ?_
  refine ok_ltt (fun x32 ex32 => ?_)
  have vx32 : x32.toInt = ((h0 : Nat) : Int) := by rw [ex32]; exact (rdu_r (k := 0) hy30 (by decide)).trans (rfl)
  rw [if_neg (show ¬ (x32 < (0 : Int32)) from fun qq => absurd (pz_lt.mp qq) (by rw [(show (x32).toInt = ((h0 : Nat) : Int) from vx32), (show ((0 : Int32)).toInt = (0 : Int) from rfl)] <;> first | decide | omega))]
  refine ok_bnd (Q := fun y33 => RDU G M0 d f T (hd + 1) 27 (upv (upv (upv (upv (upv (fun _ => (0 : Int)) 18 (1 : Int)) 11 h11) 0 ((h0 : Nat) : Int)) 1 (1 : Int)) 2 (0 : Int)) (toks 0 (h3) 8 ++ (toks 0 (h5) 8 ++ (toks 0 (h8) 1 ++ (toks 0 (o) 1 ++ ((if ((o : Nat) : Int) = (1 : Int) then (ueT 0 (h9 - 1) ++ (ueT 0 (0))) else ([] : List Tok)) ++ (toks 0 (0) 1 ++ (toks 0 (0) 1 ++ ((if ¬ h11 = (0 : Int) then (toks 0 (0) 1) else ([] : List Tok)) ++ ((if c = (1 : Int) then (ueT 0 (0)) else ([] : List Tok)) ++ (ueT 0 (sei (q)) ++ (ueT 0 (h13) ++ ((if ¬ ((h13 : Nat) : Int) = (1 : Int) then (ueT 0 (sei (h14)) ++ (ueT 0 (sei (h15)))) else ([] : List Tok)) ++ D)))))))))))) y33) ?_ ?_
  · skip
    exact ok_some hy30
  intro y33 hy33
  refine ok_chk (by rw [hh_len hK hh]; decide) ?_
  refine ok_ltt (fun x34 ex34 => ?_)
  have vx34 : x34.toInt = ((h0 : Nat) : Int) := by rw [ex34]; exact (rdu_r (k := 0) hy33 (by decide)).trans (rfl)
  refine ok_drK (b := 98) hK (by decide) rfl ?_
  refine ok_chk (by rw [gk_len hK (b := 98) (n := 24) (by decide) rfl]; decide) ?_
  refine ok_ltt (fun x36 ex36 => ?_)
  have vx36 : x36.toInt = w := by rw [ex36]; exact (congrArg Int32.toInt (rdu_o hy33 (by decide) (by rcases hh.2 with q | q | q <;> omega))).trans s98_0
  refine ok_chk (by rw [gk_len hK (b := 98) (n := 24) (by decide) rfl]; decide) ?_
  refine ok_ltt (fun x37 ex37 => ?_)
  have vx37 : x37.toInt = (2 : Int) := by rw [ex37]; exact (congrArg Int32.toInt (rdu_o hy33 (by decide) (by rcases hh.2 with q | q | q <;> omega))).trans s98_1
  refine ok_ltt (fun x38 ex38 => ?_)
  have vx38 : x38.toInt = (w * (2 : Int)) := by
    have q1 : (x36).toInt = w := vx36
    have q2 : (x37).toInt = (2 : Int) := vx37
    rw [ex38, ti_mul (by rw [q1, q2]; omega) (by rw [q1, q2]; omega), q1, q2]
  rw [if_pos (show x34 < x38 from pz_lt.mpr (by rw [(show (x34).toInt = ((h0 : Nat) : Int) from vx34), (show (x38).toInt = (w * (2 : Int)) from vx38)] <;> first | decide | omega))]
  refine ok_bnd (Q := fun y39 => RDU G M0 d f T (hd + 1) 27 (upv (upv (upv (upv (upv (fun _ => (0 : Int)) 18 (1 : Int)) 11 h11) 0 ((h0 : Nat) : Int)) 1 (1 : Int)) 2 (0 : Int)) (toks 0 (h3) 8 ++ (toks 0 (h5) 8 ++ (toks 0 (h8) 1 ++ (toks 0 (o) 1 ++ ((if ((o : Nat) : Int) = (1 : Int) then (ueT 0 (h9 - 1) ++ (ueT 0 (0))) else ([] : List Tok)) ++ (toks 0 (0) 1 ++ (toks 0 (0) 1 ++ ((if ¬ h11 = (0 : Int) then (toks 0 (0) 1) else ([] : List Tok)) ++ ((if c = (1 : Int) then (ueT 0 (0)) else ([] : List Tok)) ++ (ueT 0 (sei (q)) ++ (ueT 0 (h13) ++ ((if ¬ ((h13 : Nat) : Int) = (1 : Int) then (ueT 0 (sei (h14)) ++ (ueT 0 (sei (h15)))) else ([] : List Tok)) ++ D)))))))))))) y39) ?_ ?_
  · skip
    exact ok_some hy33
  intro y39 hy39
  refine ok_drR (b := 13) hy39 hK rfl (by decide) rfl ?_
  refine ok_ltt (fun x41 ex41 => ?_)
  refine ok_chk (by rw [hh_len hK hh]; decide) ?_
  refine ok_ltt (fun M42 eM42 => ?_)
  have hM42 : RDU G M0 d f T (hd + 1) 27 (upv (upv (upv (upv (upv (upv (fun _ => (0 : Int)) 18 (1 : Int)) 11 h11) 0 ((h0 : Nat) : Int)) 1 (1 : Int)) 2 (0 : Int)) 21 x41.toInt) (toks 0 (h3) 8 ++ (toks 0 (h5) 8 ++ (toks 0 (h8) 1 ++ (toks 0 (o) 1 ++ ((if ((o : Nat) : Int) = (1 : Int) then (ueT 0 (h9 - 1) ++ (ueT 0 (0))) else ([] : List Tok)) ++ (toks 0 (0) 1 ++ (toks 0 (0) 1 ++ ((if ¬ h11 = (0 : Int) then (toks 0 (0) 1) else ([] : List Tok)) ++ ((if c = (1 : Int) then (ueT 0 (0)) else ([] : List Tok)) ++ (ueT 0 (sei (q)) ++ (ueT 0 (h13) ++ ((if ¬ ((h13 : Nat) : Int) = (1 : Int) then (ueT 0 (sei (h14)) ++ (ueT 0 (sei (h15)))) else ([] : List Tok)) ++ D)))))))))))) M42 := by rw [eM42]; exact rdu_w (k := 21) hy39 (hh_w hh) (rd_nd h hK hh) rfl
  refine ok_chk (by rw [gk_len hK (b := 98) (n := 24) (by decide) rfl]; decide) ?_
  refine ok_ltt (fun x43 ex43 => ?_)
  have vx43 : x43.toInt = (8 : Int) := by rw [ex43]; exact (congrArg Int32.toInt (rdu_o hM42 (by decide) (by rcases hh.2 with q | q | q <;> omega))).trans s98_2
  refine ok_drR (b := 13) hM42 hK rfl (by decide) rfl ?_
  refine ok_bnd (rdu_fixed (V := h3) (m := 8) hM42 (hh_w hh) rfl vx43 (by decide) (by decide) (by first | decide | omega)) ?_
  rintro y45 ⟨vy45, hy45⟩
  have vy45 : y45.2.toInt = ((h3 : Nat) : Int) := vy45
  have hy45 : RDU G M0 d f T (hd + 1) 27 (upv (upv (upv (upv (upv (upv (fun _ => (0 : Int)) 18 (1 : Int)) 11 h11) 0 ((h0 : Nat) : Int)) 1 (1 : Int)) 2 (0 : Int)) 21 x41.toInt) (toks 0 (h5) 8 ++ (toks 0 (h8) 1 ++ (toks 0 (o) 1 ++ ((if ((o : Nat) : Int) = (1 : Int) then (ueT 0 (h9 - 1) ++ (ueT 0 (0))) else ([] : List Tok)) ++ (toks 0 (0) 1 ++ (toks 0 (0) 1 ++ ((if ¬ h11 = (0 : Int) then (toks 0 (0) 1) else ([] : List Tok)) ++ ((if c = (1 : Int) then (ueT 0 (0)) else ([] : List Tok)) ++ (ueT 0 (sei (q)) ++ (ueT 0 (h13) ++ ((if ¬ ((h13 : Nat) : Int) = (1 : Int) then (ueT 0 (sei (h14)) ++ (ueT 0 (sei (h15)))) else ([] : List Tok)) ++ D))))))))))) y45.1 := hy45
  refine ok_chk (by rw [hh_len hK hh]; decide) ?_
  refine ok_ltt (fun M46 eM46 => ?_)
  have hM46 : RDU G M0 d f T (hd + 1) 27 (upv (upv (upv (upv (upv (upv (upv (fun _ => (0 : Int)) 18 (1 : Int)) 11 h11) 0 ((h0 : Nat) : Int)) 1 (1 : Int)) 2 (0 : Int)) 21 x41.toInt) 3 ((h3 : Nat) : Int)) (toks 0 (h5) 8 ++ (toks 0 (h8) 1 ++ (toks 0 (o) 1 ++ ((if ((o : Nat) : Int) = (1 : Int) then (ueT 0 (h9 - 1) ++ (ueT 0 (0))) else ([] : List Tok)) ++ (toks 0 (0) 1 ++ (toks 0 (0) 1 ++ ((if ¬ h11 = (0 : Int) then (toks 0 (0) 1) else ([] : List Tok)) ++ ((if c = (1 : Int) then (ueT 0 (0)) else ([] : List Tok)) ++ (ueT 0 (sei (q)) ++ (ueT 0 (h13) ++ ((if ¬ ((h13 : Nat) : Int) = (1 : Int) then (ueT 0 (sei (h14)) ++ (ueT 0 (sei (h15)))) else ([] : List Tok)) ++ D))))))))))) M46 := by rw [eM46]; exact rdu_w (k := 3) hy45 (hh_w hh) (rd_nd h hK hh) vy45
  rw [if_neg (show ¬ (p0 = (5 : Int32)) from fun qq => absurd (pz_eq.mp qq) (by rw [(show (p0).toInt = (1 : Int) from e0), (show ((5 : Int32)).toInt = (5 : Int) from rfl)] <;> first | decide | omega))]
  refine ok_bnd (Q := fun y47 => RDU G M0 d f T (hd + 1) 27 (upv (upv (upv (upv (upv (upv (upv (fun _ => (0 : Int)) 18 (1 : Int)) 11 h11) 0 ((h0 : Nat) : Int)) 1 (1 : Int)) 2 (0 : Int)) 21 x41.toInt) 3 ((h3 : Nat) : Int)) (toks 0 (h5) 8 ++ (toks 0 (h8) 1 ++ (toks 0 (o) 1 ++ ((if ((o : Nat) : Int) = (1 : Int) then (ueT 0 (h9 - 1) ++ (ueT 0 (0))) else ([] : List Tok)) ++ (toks 0 (0) 1 ++ (toks 0 (0) 1 ++ ((if ¬ h11 = (0 : Int) then (toks 0 (0) 1) else ([] : List Tok)) ++ ((if c = (1 : Int) then (ueT 0 (0)) else ([] : List Tok)) ++ (ueT 0 (sei (q)) ++ (ueT 0 (h13) ++ ((if ¬ ((h13 : Nat) : Int) = (1 : Int) then (ueT 0 (sei (h14)) ++ (ueT 0 (sei (h15)))) else ([] : List Tok)) ++ D))))))))))) y47) ?_ ?_
  · skip
    exact ok_some hM46
  intro y47 hy47
  refine ok_bnd (h_order98 (v := (upv (upv (upv (upv (upv (upv (upv (fun _ => (0 : Int)) 18 (1 : Int)) 11 h11) 0 ((h0 : Nat) : Int)) 1 (1 : Int)) 2 (0 : Int)) 21 x41.toInt) 3 ((h3 : Nat) : Int))) (D := (toks 0 (h8) 1 ++ (toks 0 (o) 1 ++ ((if ((o : Nat) : Int) = (1 : Int) then (ueT 0 (h9 - 1) ++ (ueT 0 (0))) else ([] : List Tok)) ++ (toks 0 (0) 1 ++ (toks 0 (0) 1 ++ ((if ¬ h11 = (0 : Int) then (toks 0 (0) 1) else ([] : List Tok)) ++ ((if c = (1 : Int) then (ueT 0 (0)) else ([] : List Tok)) ++ (ueT 0 (sei (q)) ++ (ueT 0 (h13) ++ ((if ¬ ((h13 : Nat) : Int) = (1 : Int) then (ueT 0 (sei (h14)) ++ (ueT 0 (sei (h15)))) else ([] : List Tok)) ++ D))))))))))) hh hK s94_2 s98_3 s98_4 b5 hy47) ?_
  intro y48 hy48
  have hy48 : RDU G M0 d f T (hd + 1) 27 (upv (upv (upv (upv (upv (upv (upv (upv (fun _ => (0 : Int)) 18 (1 : Int)) 11 h11) 0 ((h0 : Nat) : Int)) 1 (1 : Int)) 2 (0 : Int)) 21 x41.toInt) 3 ((h3 : Nat) : Int)) 5 ((h5 : Nat) : Int)) (toks 0 (h8) 1 ++ (toks 0 (o) 1 ++ ((if ((o : Nat) : Int) = (1 : Int) then (ueT 0 (h9 - 1) ++ (ueT 0 (0))) else ([] : List Tok)) ++ (toks 0 (0) 1 ++ (toks 0 (0) 1 ++ ((if ¬ h11 = (0 : Int) then (toks 0 (0) 1) else ([] : List Tok)) ++ ((if c = (1 : Int) then (ueT 0 (0)) else ([] : List Tok)) ++ (ueT 0 (sei (q)) ++ (ueT 0 (h13) ++ ((if ¬ ((h13 : Nat) : Int) = (1 : Int) then (ueT 0 (sei (h14)) ++ (ueT 0 (sei (h15)))) else ([] : List Tok)) ++ D)))))))))) y48 := hy48
  refine ok_chk (by rw [hh_len hK hh]; decide) ?_
  refine ok_ltt (fun x49 ex49 => ?_)
  have vx49 : x49.toInt = (1 : Int) := by rw [ex49]; exact (rdu_r (k := 1) hy48 (by decide)).trans (rfl)
  rw [if_neg (show ¬ (x49 = (2 : Int32)) from fun qq => absurd (pz_eq.mp qq) (by rw [(show (x49).toInt = (1 : Int) from vx49), (show ((2 : Int32)).toInt = (2 : Int) from rfl)] <;> first | decide | omega))]
  refine ok_bnd (Q := fun y50 => RDU G M0 d f T (hd + 1) 27 (upv (upv (upv (upv (upv (upv (upv (upv (upv (upv (upv (upv (upv (fun _ => (0 : Int)) 18 (1 : Int)) 11 h11) 0 ((h0 : Nat) : Int)) 1 (1 : Int)) 2 (0 : Int)) 21 x41.toInt) 3 ((h3 : Nat) : Int)) 5 ((h5 : Nat) : Int)) 8 ((h8 : Nat) : Int)) 9 r) 10 r4) 9 (if ((o : Nat) : Int) = (1 : Int) then (((h9 - 1 : Nat) : Int) + (1 : Int)) else r)) 10 (if ((o : Nat) : Int) = (1 : Int) then (1 : Int) else r4)) ((if ¬ h11 = (0 : Int) then (toks 0 (0) 1) else ([] : List Tok)) ++ ((if c = (1 : Int) then (ueT 0 (0)) else ([] : List Tok)) ++ (ueT 0 (sei (q)) ++ (ueT 0 (h13) ++ ((if ¬ ((h13 : Nat) : Int) = (1 : Int) then (ueT 0 (sei (h14)) ++ (ueT 0 (sei (h15)))) else ([] : List Tok)) ++ D))))) y50) ?_ ?_
  · skip
    refine ok_bnd (h_listb98 (v := (upv (upv (upv (upv (upv (upv (upv (upv (fun _ => (0 : Int)) 18 (1 : Int)) 11 h11) 0 ((h0 : Nat) : Int)) 1 (1 : Int)) 2 (0 : Int)) 21 x41.toInt) 3 ((h3 : Nat) : Int)) 5 ((h5 : Nat) : Int))) (D := ((if ¬ h11 = (0 : Int) then (toks 0 (0) 1) else ([] : List Tok)) ++ ((if c = (1 : Int) then (ueT 0 (0)) else ([] : List Tok)) ++ (ueT 0 (sei (q)) ++ (ueT 0 (h13) ++ ((if ¬ ((h13 : Nat) : Int) = (1 : Int) then (ueT 0 (sei (h14)) ++ (ueT 0 (sei (h15)))) else ([] : List Tok)) ++ D)))))) hh hK (rfl) s94_3 s94_4 s94_6 s98_2 b8 bo b9 bg hy48) ?_
    intro y56 hy56
    have hy56 : RDU G M0 d f T (hd + 1) 27 (upv (upv (upv (upv (upv (upv (upv (upv (upv (upv (upv (upv (upv (fun _ => (0 : Int)) 18 (1 : Int)) 11 h11) 0 ((h0 : Nat) : Int)) 1 (1 : Int)) 2 (0 : Int)) 21 x41.toInt) 3 ((h3 : Nat) : Int)) 5 ((h5 : Nat) : Int)) 8 ((h8 : Nat) : Int)) 9 r) 10 r4) 9 (if ((o : Nat) : Int) = (1 : Int) then (((h9 - 1 : Nat) : Int) + (1 : Int)) else r)) 10 (if ((o : Nat) : Int) = (1 : Int) then (1 : Int) else r4)) ((if ¬ h11 = (0 : Int) then (toks 0 (0) 1) else ([] : List Tok)) ++ ((if c = (1 : Int) then (ueT 0 (0)) else ([] : List Tok)) ++ (ueT 0 (sei (q)) ++ (ueT 0 (h13) ++ ((if ¬ ((h13 : Nat) : Int) = (1 : Int) then (ueT 0 (sei (h14)) ++ (ueT 0 (sei (h15)))) else ([] : List Tok)) ++ D))))) y56 := hy56
    exact ok_some hy56
  intro y50 hy50
  refine ok_bnd (Q := fun y51 => RDU G M0 d f T (hd + 1) 27 (upv (upv (upv (upv (upv (upv (upv (upv (upv (upv (upv (upv (upv (fun _ => (0 : Int)) 18 (1 : Int)) 11 h11) 0 ((h0 : Nat) : Int)) 1 (1 : Int)) 2 (0 : Int)) 21 x41.toInt) 3 ((h3 : Nat) : Int)) 5 ((h5 : Nat) : Int)) 8 ((h8 : Nat) : Int)) 9 r) 10 r4) 9 (if ((o : Nat) : Int) = (1 : Int) then (((h9 - 1 : Nat) : Int) + (1 : Int)) else r)) 10 (if ((o : Nat) : Int) = (1 : Int) then (1 : Int) else r4)) ((if c = (1 : Int) then (ueT 0 (0)) else ([] : List Tok)) ++ (ueT 0 (sei (q)) ++ (ueT 0 (h13) ++ ((if ¬ ((h13 : Nat) : Int) = (1 : Int) then (ueT 0 (sei (h14)) ++ (ueT 0 (sei (h15)))) else ([] : List Tok)) ++ D)))) y51) (ok_if ?_ ?_) ?_
  · intro hc
    have hq : (h11 = (0 : Int)) := by
      have q1 := (show _ = h11 from e1).symm.trans ((congrArg Int32.toInt hc).trans (show (0 : Int32).toInt = (0 : Int) from rfl))
      exact q1
    have hz : RDU G M0 d f T (hd + 1) 27 (upv (upv (upv (upv (upv (upv (upv (upv (upv (upv (upv (upv (upv (fun _ => (0 : Int)) 18 (1 : Int)) 11 h11) 0 ((h0 : Nat) : Int)) 1 (1 : Int)) 2 (0 : Int)) 21 x41.toInt) 3 ((h3 : Nat) : Int)) 5 ((h5 : Nat) : Int)) 8 ((h8 : Nat) : Int)) 9 r) 10 r4) 9 (if ((o : Nat) : Int) = (1 : Int) then (((h9 - 1 : Nat) : Int) + (1 : Int)) else r)) 10 (if ((o : Nat) : Int) = (1 : Int) then (1 : Int) else r4)) ((if c = (1 : Int) then (ueT 0 (0)) else ([] : List Tok)) ++ (ueT 0 (sei (q)) ++ (ueT 0 (h13) ++ ((if ¬ ((h13 : Nat) : Int) = (1 : Int) then (ueT 0 (sei (h14)) ++ (ueT 0 (sei (h15)))) else ([] : List Tok)) ++ D)))) y50 := by
      have z := hy50
      rw [if_neg (show ¬ ¬ (h11 = (0 : Int)) from fun q => q hq)] at z
      simpa only [List.append_assoc, List.nil_append] using z
    refine ok_some (rdu_eqv (v := (upv (upv (upv (upv (upv (upv (upv (upv (upv (upv (upv (upv (upv (fun _ => (0 : Int)) 18 (1 : Int)) 11 h11) 0 ((h0 : Nat) : Int)) 1 (1 : Int)) 2 (0 : Int)) 21 x41.toInt) 3 ((h3 : Nat) : Int)) 5 ((h5 : Nat) : Int)) 8 ((h8 : Nat) : Int)) 9 r) 10 r4) 9 (if ((o : Nat) : Int) = (1 : Int) then (((h9 - 1 : Nat) : Int) + (1 : Int)) else r)) 10 (if ((o : Nat) : Int) = (1 : Int) then (1 : Int) else r4))) hz ?_)
    intro k hk
    simp only [upv, if_pos hq]
    all_goals ((repeat' split) <;> first | rfl | omega)
  · intro hc
    have hq : ¬ (h11 = (0 : Int)) := by
      exact fun q => hc (Int32.toInt_inj.1 (Eq.trans e1 (Eq.trans q (Eq.symm rfl))))
    have hz : RDU G M0 d f T (hd + 1) 27 (upv (upv (upv (upv (upv (upv (upv (upv (upv (upv (upv (upv (upv (fun _ => (0 : Int)) 18 (1 : Int)) 11 h11) 0 ((h0 : Nat) : Int)) 1 (1 : Int)) 2 (0 : Int)) 21 x41.toInt) 3 ((h3 : Nat) : Int)) 5 ((h5 : Nat) : Int)) 8 ((h8 : Nat) : Int)) 9 r) 10 r4) 9 (if ((o : Nat) : Int) = (1 : Int) then (((h9 - 1 : Nat) : Int) + (1 : Int)) else r)) 10 (if ((o : Nat) : Int) = (1 : Int) then (1 : Int) else r4)) (toks 0 (0) 1 ++ ((if c = (1 : Int) then (ueT 0 (0)) else ([] : List Tok)) ++ (ueT 0 (sei (q)) ++ (ueT 0 (h13) ++ ((if ¬ ((h13 : Nat) : Int) = (1 : Int) then (ueT 0 (sei (h14)) ++ (ueT 0 (sei (h15)))) else ([] : List Tok)) ++ D))))) y50 := by
      have z := hy50
      rw [if_pos hq] at z
      simpa only [List.append_assoc, List.nil_append] using z
    refine ok_bnd (h_marksn (v := (upv (upv (upv (upv (upv (upv (upv (upv (upv (upv (upv (upv (upv (fun _ => (0 : Int)) 18 (1 : Int)) 11 h11) 0 ((h0 : Nat) : Int)) 1 (1 : Int)) 2 (0 : Int)) 21 x41.toInt) 3 ((h3 : Nat) : Int)) 5 ((h5 : Nat) : Int)) 8 ((h8 : Nat) : Int)) 9 r) 10 r4) 9 (if ((o : Nat) : Int) = (1 : Int) then (((h9 - 1 : Nat) : Int) + (1 : Int)) else r)) 10 (if ((o : Nat) : Int) = (1 : Int) then (1 : Int) else r4))) (D := ((if c = (1 : Int) then (ueT 0 (0)) else ([] : List Tok)) ++ (ueT 0 (sei (q)) ++ (ueT 0 (h13) ++ ((if ¬ ((h13 : Nat) : Int) = (1 : Int) then (ueT 0 (sei (h14)) ++ (ueT 0 (sei (h15)))) else ([] : List Tok)) ++ D))))) hh hK e0 hz) ?_
    intro y54 hy54
    have hy54 : RDU G M0 d f T (hd + 1) 27 (upv (upv (upv (upv (upv (upv (upv (upv (upv (upv (upv (upv (upv (fun _ => (0 : Int)) 18 (1 : Int)) 11 h11) 0 ((h0 : Nat) : Int)) 1 (1 : Int)) 2 (0 : Int)) 21 x41.toInt) 3 ((h3 : Nat) : Int)) 5 ((h5 : Nat) : Int)) 8 ((h8 : Nat) : Int)) 9 r) 10 r4) 9 (if ((o : Nat) : Int) = (1 : Int) then (((h9 - 1 : Nat) : Int) + (1 : Int)) else r)) 10 (if ((o : Nat) : Int) = (1 : Int) then (1 : Int) else r4)) ((if c = (1 : Int) then (ueT 0 (0)) else ([] : List Tok)) ++ (ueT 0 (sei (q)) ++ (ueT 0 (h13) ++ ((if ¬ ((h13 : Nat) : Int) = (1 : Int) then (ueT 0 (sei (h14)) ++ (ueT 0 (sei (h15)))) else ([] : List Tok)) ++ D)))) y54 := hy54
    refine ok_some (rdu_eqv (v := (upv (upv (upv (upv (upv (upv (upv (upv (upv (upv (upv (upv (upv (fun _ => (0 : Int)) 18 (1 : Int)) 11 h11) 0 ((h0 : Nat) : Int)) 1 (1 : Int)) 2 (0 : Int)) 21 x41.toInt) 3 ((h3 : Nat) : Int)) 5 ((h5 : Nat) : Int)) 8 ((h8 : Nat) : Int)) 9 r) 10 r4) 9 (if ((o : Nat) : Int) = (1 : Int) then (((h9 - 1 : Nat) : Int) + (1 : Int)) else r)) 10 (if ((o : Nat) : Int) = (1 : Int) then (1 : Int) else r4))) hy54 ?_)
    intro k hk
    simp only [upv, if_neg hq]
    all_goals ((repeat' split) <;> first | rfl | omega)
  intro y51 hy51
  refine ok_bnd (h_rules1 (v := (upv (upv (upv (upv (upv (upv (upv (upv (upv (upv (upv (upv (upv (fun _ => (0 : Int)) 18 (1 : Int)) 11 h11) 0 ((h0 : Nat) : Int)) 1 (1 : Int)) 2 (0 : Int)) 21 x41.toInt) 3 ((h3 : Nat) : Int)) 5 ((h5 : Nat) : Int)) 8 ((h8 : Nat) : Int)) 9 r) 10 r4) 9 (if ((o : Nat) : Int) = (1 : Int) then (((h9 - 1 : Nat) : Int) + (1 : Int)) else r)) 10 (if ((o : Nat) : Int) = (1 : Int) then (1 : Int) else r4))) (D := D) hh hK (rfl) (rfl) (rfl) (rfl) s94_1 s94_7 s94_9 bz bq b13 b14 b15 hy51) ?_
  intro y52 hy52
  have hy52 : RDU G M0 d f T (hd + 1) 27 (upv (upv (upv (upv (upv (upv (upv (upv (upv (upv (upv (upv (upv (upv (upv (upv (upv (fun _ => (0 : Int)) 18 (1 : Int)) 11 h11) 0 ((h0 : Nat) : Int)) 1 (1 : Int)) 2 (0 : Int)) 21 x41.toInt) 3 ((h3 : Nat) : Int)) 5 ((h5 : Nat) : Int)) 8 ((h8 : Nat) : Int)) 9 r) 10 r4) 9 (if ((o : Nat) : Int) = (1 : Int) then (((h9 - 1 : Nat) : Int) + (1 : Int)) else r)) 10 (if ((o : Nat) : Int) = (1 : Int) then (1 : Int) else r4)) 12 ((z + (26 : Int)) + (q : Int))) 13 ((h13 : Nat) : Int)) 14 (if ((h13 : Nat) : Int) = (1 : Int) then (0 : Int) else (h14 : Int))) 15 (if ((h13 : Nat) : Int) = (1 : Int) then (0 : Int) else (h15 : Int))) D y52 := hy52
  exact ok_some ⟨_, hy52⟩
