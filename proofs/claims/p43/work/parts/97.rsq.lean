/-! units of raw bits the decoder reads: printed out of the functions' trees -/
theorem addn_of {x c : Int32} {v n : Nat} (h : x.toInt = v) (hc : c.toInt = n) (h1 : v + n < 1000000000) : (x + c).toInt = ((v + n : Nat) : Int) := by
  rw [ti_add (by omega) (by omega)]
  omega
theorem mul_le32 {x y : Int32} {a b : Nat} (h1 : x.toInt = a) (h2 : y.toInt = b) (h : a * b ≤ 32) : (x * y).toInt ≤ 32 := by
  have e : x.toInt * y.toInt = ((a * b : Nat) : Int) := by rw [h1, h2, Int.natCast_mul]
  rw [ti_mul (by omega) (by omega)]
  omega
theorem rdu_les {G : GG} {M0 N : DD} {d : Nat} {f : Nat → Nat} {T w n m : Nat} {v : Nat → Int} {D : List Tok} (h : RDU G M0 d f T w n v D N) (hm : m ≤ n) : RDU G M0 d f T w m v D N := by
  obtain ⟨S, e, a1, a2, a3, a4, a5⟩ := h
  exact ⟨S, e, a1, a2, a3, a4, fun k hk => a5 k (by omega)⟩
theorem r_sequence {G : GG} {M : DD} {d : Nat} {f : Nat → Nat} {T : Nat} {D : List Tok} {r w h : Nat} (b7 : r ≤ 4) (pw : 1 ≤ w) (b0 : w ≤ 8) (ph : 1 ≤ h) (b1 : h ≤ 8) (hwh : (w - 1 + 1) * (h - 1 + 1) ≤ 32) (hst : RDU G M d f T 99 0 (fun _ => 0) (toks 0 (77) 8 ++ (toks 0 (0) 8 ++ (toks 0 (40) 8 ++ (ueT 0 (0) ++ (ueT 0 (4) ++ (ueT 0 (0) ++ (ueT 0 (4) ++ (ueT 0 (r) ++ (toks 0 (0) 1 ++ (ueT 0 (w - 1) ++ (ueT 0 (h - 1) ++ (toks 0 (1) 1 ++ (toks 0 (1) 1 ++ (toks 0 (0) 1 ++ (toks 0 (0) 1 ++ D))))))))))))))) M) (hK : GK G M) (hd : 99 ≠ d) (hd2 : 89 ≠ d) : OK (FX1_readSequence G M 12) (fun y => RDK G M d f T 99 89 24 (upv (upv (upv (upv (upv (upv (upv (upv (fun _ => 0) 2 ((4 + 4 : Nat) : Int)) 3 ((0 : Nat) : Int)) 4 ((4 + 4 : Nat) : Int)) 5 ((r : Nat) : Int)) 6 ((0 : Nat) : Int)) 0 ((w - 1 + 1 : Nat) : Int)) 1 ((h - 1 + 1 : Nat) : Int)) 23 (1 : Int)) D y) := by
  unfold FX1_readSequence
  refine ok_bnd (rdu_fill (w := 99) hst (by decide) hd (by have := hK.1; omega) (gk_k hK (by decide) rfl) (by rw [gk_len hK (b := 99) (n := 24) (by decide) rfl]; decide) ((hK.2.2 12 9 (by decide)).trans rfl) rfl) ?_
  rw [gk_len hK (b := 99) (n := 24) (by decide) rfl]
  intro y1 hy1
  refine ok_drR (b := 13) hy1 hK rfl (by decide) rfl ?_
  refine ok_bnd (rdu_fixed (V := 77) (m := 8) hy1 (by decide) rfl rfl (by decide) (by decide) (by first | decide | omega)) ?_
  rintro y3 ⟨vy3, hy3⟩
  refine ok_drR (b := 13) hy3 hK rfl (by decide) rfl ?_
  refine ok_bnd (rdu_fixed (V := 0) (m := 8) hy3 (by decide) rfl rfl (by decide) (by decide) (by first | decide | omega)) ?_
  rintro y5 ⟨vy5, hy5⟩
  refine ok_drR (b := 13) hy5 hK rfl (by decide) rfl ?_
  refine ok_bnd (rdu_fixed (V := 40) (m := 8) hy5 (by decide) rfl rfl (by decide) (by decide) (by first | decide | omega)) ?_
  rintro y7 ⟨vy7, hy7⟩
  refine ok_bnd (rdu_uns (x := 0) hy7 hK (by decide) (by omega) (by show _ ≤ ((3 : Nat) : Int); omega)) ?_
  rintro y8 ⟨vy8, hy8⟩
  refine ok_bnd (rdu_uns (x := 4) hy8 hK (by decide) (by omega) (by show _ ≤ ((12 : Nat) : Int); omega)) ?_
  rintro y9 ⟨vy9, hy9⟩
  refine ok_ltt (fun x10 ex10 => ?_)
  have vx10 : x10.toInt = ((4 + 4 : Nat) : Int) := by rw [ex10]; exact addn_of vy9 (by rfl) (by omega)
  refine ok_drM (b := 99) hK rfl (by decide) rfl ?_
  refine ok_chk (by rw [gk_len hK (b := 99) (n := 24) (by decide) rfl]; decide) ?_
  refine ok_ltt (fun M12 eM12 => ?_)
  have hM12 : RDU G M d f T 99 24 (upv (fun _ => 0) 2 ((4 + 4 : Nat) : Int)) (ueT 0 (0) ++ (ueT 0 (4) ++ (ueT 0 (r) ++ (toks 0 (0) 1 ++ (ueT 0 (w - 1) ++ (ueT 0 (h - 1) ++ (toks 0 (1) 1 ++ (toks 0 (1) 1 ++ (toks 0 (0) 1 ++ (toks 0 (0) 1 ++ D)))))))))) M12 := by rw [eM12]; exact rdu_w (k := 2) hy9 (by decide) hd vx10
  refine ok_bnd (rdu_uns (x := 0) hM12 hK (by decide) (by omega) (by show _ ≤ ((2 : Nat) : Int); omega)) ?_
  rintro y13 ⟨vy13, hy13⟩
  refine ok_chk (by rw [gk_len hK (b := 99) (n := 24) (by decide) rfl]; decide) ?_
  refine ok_ltt (fun M14 eM14 => ?_)
  have hM14 : RDU G M d f T 99 24 (upv (upv (fun _ => 0) 2 ((4 + 4 : Nat) : Int)) 3 ((0 : Nat) : Int)) (ueT 0 (4) ++ (ueT 0 (r) ++ (toks 0 (0) 1 ++ (ueT 0 (w - 1) ++ (ueT 0 (h - 1) ++ (toks 0 (1) 1 ++ (toks 0 (1) 1 ++ (toks 0 (0) 1 ++ (toks 0 (0) 1 ++ D))))))))) M14 := by rw [eM14]; exact rdu_w (k := 3) hy13 (by decide) hd vy13
  refine ok_chk (by rw [gk_len hK (b := 99) (n := 24) (by decide) rfl]; decide) ?_
  refine ok_ltt (fun x15 ex15 => ?_)
  have vx15 : x15.toInt = ((0 : Nat) : Int) := by rw [ex15]; exact (rdu_r (k := 3) hM14 (by decide)).trans rfl
  rw [if_pos (show x15 = (0 : Int32) from Int32.toInt_inj.1 vx15)]
  refine ok_bnd (Q := fun y16 => RDU G M d f T 99 24 (upv (upv (upv (fun _ => 0) 2 ((4 + 4 : Nat) : Int)) 3 ((0 : Nat) : Int)) 4 ((4 + 4 : Nat) : Int)) (ueT 0 (r) ++ (toks 0 (0) 1 ++ (ueT 0 (w - 1) ++ (ueT 0 (h - 1) ++ (toks 0 (1) 1 ++ (toks 0 (1) 1 ++ (toks 0 (0) 1 ++ (toks 0 (0) 1 ++ D)))))))) y16) ?_ ?_
  · refine ok_bnd (rdu_uns (x := 4) hM14 hK (by decide) (by omega) (by show _ ≤ ((12 : Nat) : Int); omega)) ?_
    rintro y62 ⟨vy62, hy62⟩
    refine ok_ltt (fun x63 ex63 => ?_)
    have vx63 : x63.toInt = ((4 + 4 : Nat) : Int) := by rw [ex63]; exact addn_of vy62 (by rfl) (by omega)
    refine ok_chk (by rw [gk_len hK (b := 99) (n := 24) (by decide) rfl]; decide) ?_
    refine ok_ltt (fun M64 eM64 => ?_)
    have hM64 : RDU G M d f T 99 24 (upv (upv (upv (fun _ => 0) 2 ((4 + 4 : Nat) : Int)) 3 ((0 : Nat) : Int)) 4 ((4 + 4 : Nat) : Int)) (ueT 0 (r) ++ (toks 0 (0) 1 ++ (ueT 0 (w - 1) ++ (ueT 0 (h - 1) ++ (toks 0 (1) 1 ++ (toks 0 (1) 1 ++ (toks 0 (0) 1 ++ (toks 0 (0) 1 ++ D)))))))) M64 := by rw [eM64]; exact rdu_w (k := 4) hy62 (by decide) hd vx63
    exact ok_some hM64
  intro y16 hy16
  refine ok_bnd (rdu_uns (x := r) hy16 hK (by decide) (by omega) (by show _ ≤ ((4 : Nat) : Int); omega)) ?_
  rintro y17 ⟨vy17, hy17⟩
  refine ok_chk (by rw [gk_len hK (b := 99) (n := 24) (by decide) rfl]; decide) ?_
  refine ok_ltt (fun M18 eM18 => ?_)
  have hM18 : RDU G M d f T 99 24 (upv (upv (upv (upv (fun _ => 0) 2 ((4 + 4 : Nat) : Int)) 3 ((0 : Nat) : Int)) 4 ((4 + 4 : Nat) : Int)) 5 ((r : Nat) : Int)) (toks 0 (0) 1 ++ (ueT 0 (w - 1) ++ (ueT 0 (h - 1) ++ (toks 0 (1) 1 ++ (toks 0 (1) 1 ++ (toks 0 (0) 1 ++ (toks 0 (0) 1 ++ D))))))) M18 := by rw [eM18]; exact rdu_w (k := 5) hy17 (by decide) hd vy17
  refine ok_drR (b := 13) hM18 hK rfl (by decide) rfl ?_
  refine ok_bnd (rdu_fixed (V := 0) (m := 1) hM18 (by decide) rfl rfl (by decide) (by decide) (by first | decide | omega)) ?_
  rintro y20 ⟨vy20, hy20⟩
  refine ok_chk (by rw [gk_len hK (b := 99) (n := 24) (by decide) rfl]; decide) ?_
  refine ok_ltt (fun M21 eM21 => ?_)
  have hM21 : RDU G M d f T 99 24 (upv (upv (upv (upv (upv (fun _ => 0) 2 ((4 + 4 : Nat) : Int)) 3 ((0 : Nat) : Int)) 4 ((4 + 4 : Nat) : Int)) 5 ((r : Nat) : Int)) 6 ((0 : Nat) : Int)) (ueT 0 (w - 1) ++ (ueT 0 (h - 1) ++ (toks 0 (1) 1 ++ (toks 0 (1) 1 ++ (toks 0 (0) 1 ++ (toks 0 (0) 1 ++ D)))))) M21 := by rw [eM21]; exact rdu_w (k := 6) hy20 (by decide) hd vy20
  refine ok_bnd (rdu_uns (x := w - 1) hM21 hK (by decide) (by omega) (by show _ ≤ ((7 : Nat) : Int); omega)) ?_
  rintro y22 ⟨vy22, hy22⟩
  refine ok_ltt (fun x23 ex23 => ?_)
  have vx23 : x23.toInt = ((w - 1 + 1 : Nat) : Int) := by rw [ex23]; exact addn_of vy22 (by rfl) (by omega)
  refine ok_chk (by rw [gk_len hK (b := 99) (n := 24) (by decide) rfl]; decide) ?_
  refine ok_ltt (fun M24 eM24 => ?_)
  have hM24 : RDU G M d f T 99 24 (upv (upv (upv (upv (upv (upv (fun _ => 0) 2 ((4 + 4 : Nat) : Int)) 3 ((0 : Nat) : Int)) 4 ((4 + 4 : Nat) : Int)) 5 ((r : Nat) : Int)) 6 ((0 : Nat) : Int)) 0 ((w - 1 + 1 : Nat) : Int)) (ueT 0 (h - 1) ++ (toks 0 (1) 1 ++ (toks 0 (1) 1 ++ (toks 0 (0) 1 ++ (toks 0 (0) 1 ++ D))))) M24 := by rw [eM24]; exact rdu_w (k := 0) hy22 (by decide) hd vx23
  refine ok_bnd (rdu_uns (x := h - 1) hM24 hK (by decide) (by omega) (by show _ ≤ ((7 : Nat) : Int); omega)) ?_
  rintro y25 ⟨vy25, hy25⟩
  refine ok_ltt (fun x26 ex26 => ?_)
  have vx26 : x26.toInt = ((h - 1 + 1 : Nat) : Int) := by rw [ex26]; exact addn_of vy25 (by rfl) (by omega)
  refine ok_chk (by rw [gk_len hK (b := 99) (n := 24) (by decide) rfl]; decide) ?_
  refine ok_ltt (fun M27 eM27 => ?_)
  have hM27 : RDU G M d f T 99 24 (upv (upv (upv (upv (upv (upv (upv (fun _ => 0) 2 ((4 + 4 : Nat) : Int)) 3 ((0 : Nat) : Int)) 4 ((4 + 4 : Nat) : Int)) 5 ((r : Nat) : Int)) 6 ((0 : Nat) : Int)) 0 ((w - 1 + 1 : Nat) : Int)) 1 ((h - 1 + 1 : Nat) : Int)) (toks 0 (1) 1 ++ (toks 0 (1) 1 ++ (toks 0 (0) 1 ++ (toks 0 (0) 1 ++ D)))) M27 := by rw [eM27]; exact rdu_w (k := 1) hy25 (by decide) hd vx26
  refine ok_chk (by rw [gk_len hK (b := 99) (n := 24) (by decide) rfl]; decide) ?_
  refine ok_ltt (fun x28 ex28 => ?_)
  have vx28 : x28.toInt = ((w - 1 + 1 : Nat) : Int) := by rw [ex28]; exact (rdu_r (k := 0) hM27 (by decide)).trans rfl
  refine ok_chk (by rw [gk_len hK (b := 99) (n := 24) (by decide) rfl]; decide) ?_
  refine ok_ltt (fun x29 ex29 => ?_)
  have vx29 : x29.toInt = ((h - 1 + 1 : Nat) : Int) := by rw [ex29]; exact (rdu_r (k := 1) hM27 (by decide)).trans rfl
  refine ok_ltt (fun x30 ex30 => ?_)
  have vx30 : x30.toInt ≤ 32 := by rw [ex30]; exact mul_le32 vx28 vx29 hwh
  rw [if_pos (show x30 ≤ (32 : Int32) from pz_le.mpr (by first | exact vx30 | (rw [vx30]; show _ ≤ (32 : Int); omega)))]
  refine ok_bnd (Q := fun y31 => RDU G M d f T 99 24 (upv (upv (upv (upv (upv (upv (upv (fun _ => 0) 2 ((4 + 4 : Nat) : Int)) 3 ((0 : Nat) : Int)) 4 ((4 + 4 : Nat) : Int)) 5 ((r : Nat) : Int)) 6 ((0 : Nat) : Int)) 0 ((w - 1 + 1 : Nat) : Int)) 1 ((h - 1 + 1 : Nat) : Int)) (toks 0 (1) 1 ++ (toks 0 (1) 1 ++ (toks 0 (0) 1 ++ (toks 0 (0) 1 ++ D)))) y31) (ok_some hM27) ?_
  intro y31 hy31
  refine ok_drR (b := 13) hy31 hK rfl (by decide) rfl ?_
  refine ok_bnd (rdu_expect (V := 1) hy31 (by decide) rfl (by decide)) ?_
  intro y33 hy33
  refine ok_drR (b := 13) hy33 hK rfl (by decide) rfl ?_
  refine ok_bnd (rdu_expect (V := 1) hy33 (by decide) rfl (by decide)) ?_
  intro y35 hy35
  refine ok_drR (b := 13) hy35 hK rfl (by decide) rfl ?_
  refine ok_bnd (rdu_fixed (V := 0) (m := 1) hy35 (by decide) rfl rfl (by decide) (by decide) (by first | decide | omega)) ?_
  rintro y37 ⟨vy37, hy37⟩
  refine ok_bnd (Q := fun z => RDU G M d f T 99 24 (upv (upv (upv (upv (upv (upv (upv (fun _ => 0) 2 ((4 + 4 : Nat) : Int)) 3 ((0 : Nat) : Int)) 4 ((4 + 4 : Nat) : Int)) 5 ((r : Nat) : Int)) 6 ((0 : Nat) : Int)) 0 ((w - 1 + 1 : Nat) : Int)) 1 ((h - 1 + 1 : Nat) : Int)) (toks 0 (0) 1 ++ D) z.2) ?_ ?_
  · refine ok_itr (fun z => z = ((0 : Int32), y37.1)) (fun _ => 0) ?_ 1000000 _ rfl (by decide)
    intro z hz
    rw [hz, if_neg (show ¬ (4 : Int32) ≤ 0 by decide), if_neg (show ¬ y37.2 = (1 : Int32) from fun q => by rw [q] at vy37; exact absurd vy37 (by decide))]
    exact ok_some hy37
  intro y38 hy38
  refine ok_drR (b := 13) hy38 hK rfl (by decide) rfl ?_
  refine ok_bnd (rdu_expect (V := 0) hy38 (by decide) rfl (by decide)) ?_
  intro y42 hy42
  refine ok_chk (by rw [gk_len hK (b := 99) (n := 24) (by decide) rfl]; decide) ?_
  refine ok_ltt (fun M43 eM43 => ?_)
  have hM43 : RDU G M d f T 99 24 (upv (upv (upv (upv (upv (upv (upv (upv (fun _ => 0) 2 ((4 + 4 : Nat) : Int)) 3 ((0 : Nat) : Int)) 4 ((4 + 4 : Nat) : Int)) 5 ((r : Nat) : Int)) 6 ((0 : Nat) : Int)) 0 ((w - 1 + 1 : Nat) : Int)) 1 ((h - 1 + 1 : Nat) : Int)) 23 (1 : Int)) D M43 := by rw [eM43]; exact rdu_w (k := 23) hy42 (by decide) hd rfl
  refine ok_drR (b := 88) hM43 hK rfl (by decide) rfl ?_
  refine ok_chk (by rw [show y8.2 = (0 : Int32) from Int32.toInt_inj.1 vy8, gk_len hK (b := 88) (n := 4) (by decide) rfl]; decide) ?_
  rw [show y8.2.toNatClampNeg = 0 from by rw [show y8.2 = (0 : Int32) from Int32.toInt_inj.1 vy8]; rfl]
  refine ok_drR (b := 89) hM43 hK rfl (by decide) rfl ?_
  refine ok_chk (by rw [gk_len hK (b := 99) (n := 24) (by decide) rfl, gk_len hK (b := 89) (n := 24) (by decide) rfl]; decide) ?_
  refine ok_ltt (fun M46 eM46 => ?_)
  rw [eM46]
  refine ok_some (rdu_keep (w := 99) (w2 := 89) (rdu_les hM43 (by decide)) (by decide) hd2 ?_)
  intro k hk
  show va_cpy _ _ 0 0 24 k = _
  unfold va_cpy
  rw [if_pos (by omega)]
  simp only [Nat.zero_add, Nat.sub_zero]
theorem r_parameters {G : GG} {M : DD} {d : Nat} {f : Nat → Nat} {T : Nat} {D : List Tok} {c r k q l : Nat} {z o : Int} (bc : c ≤ 1) (bk : k ≤ 1) (bl : l ≤ 1) (bq : q ≤ 2) (pr : 1 ≤ r) (b7 : r ≤ 4) (bz : 0 ≤ z ∧ z ≤ 51) (bo : -12 ≤ o ∧ o ≤ 12) (hst : RDU G M d f T 99 0 (fun _ => 0) (ueT 0 (0) ++ (ueT 0 (0) ++ (toks 0 (c) 1 ++ (toks 0 (0) 1 ++ (ueT 0 (0) ++ (ueT 0 (r - 1) ++ (ueT 0 (0) ++ (toks 0 (k) 1 ++ (toks 0 (q) 2 ++ (ueT 0 (sei (z - 26)) ++ (ueT 0 (sei (0)) ++ (ueT 0 (sei (o)) ++ (toks 0 (1) 1 ++ (toks 0 (l) 1 ++ (toks 0 (0) 1 ++ D))))))))))))))) M) (hK : GK G M) (hd : 99 ≠ d) (hd2 : 94 ≠ d) : OK (FX1_readParameters G M 12) (fun y => RDK G M d f T 99 94 12 (upv (upv (upv (upv (upv (upv (upv (upv (upv (upv (upv (upv (fun _ => 0) 0 ((0 : Nat) : Int)) 1 ((c : Nat) : Int)) 2 ((0 : Nat) : Int)) 3 ((r - 1 + 1 : Nat) : Int)) 4 ((0 + 1 : Nat) : Int)) 5 ((k : Nat) : Int)) 6 ((q : Nat) : Int)) 7 (z - 26 : Int)) 8 (o : Int)) 9 ((1 : Nat) : Int)) 10 ((l : Nat) : Int)) 11 (1 : Int)) D y) := by
  unfold FX1_readParameters
  refine ok_bnd (rdu_fill (w := 99) hst (by decide) hd (by have := hK.1; omega) (gk_k hK (by decide) rfl) (by rw [gk_len hK (b := 99) (n := 24) (by decide) rfl]; decide) ((hK.2.2 12 9 (by decide)).trans rfl) rfl) ?_
  rw [gk_len hK (b := 99) (n := 24) (by decide) rfl]
  intro y1 hy1
  refine ok_bnd (rdu_uns (x := 0) hy1 hK (by decide) (by omega) (by show _ ≤ ((3 : Nat) : Int); omega)) ?_
  rintro y2 ⟨vy2, hy2⟩
  refine ok_bnd (rdu_uns (x := 0) hy2 hK (by decide) (by omega) (by show _ ≤ ((3 : Nat) : Int); omega)) ?_
  rintro y3 ⟨vy3, hy3⟩
  refine ok_drM (b := 99) hK rfl (by decide) rfl ?_
  refine ok_chk (by rw [gk_len hK (b := 99) (n := 24) (by decide) rfl]; decide) ?_
  refine ok_ltt (fun M5 eM5 => ?_)
  have hM5 : RDU G M d f T 99 24 (upv (fun _ => 0) 0 ((0 : Nat) : Int)) (toks 0 (c) 1 ++ (toks 0 (0) 1 ++ (ueT 0 (0) ++ (ueT 0 (r - 1) ++ (ueT 0 (0) ++ (toks 0 (k) 1 ++ (toks 0 (q) 2 ++ (ueT 0 (sei (z - 26)) ++ (ueT 0 (sei (0)) ++ (ueT 0 (sei (o)) ++ (toks 0 (1) 1 ++ (toks 0 (l) 1 ++ (toks 0 (0) 1 ++ D))))))))))))) M5 := by rw [eM5]; exact rdu_w (k := 0) hy3 (by decide) hd vy3
  refine ok_drR (b := 13) hM5 hK rfl (by decide) rfl ?_
  refine ok_bnd (rdu_fixed (V := c) (m := 1) hM5 (by decide) rfl rfl (by decide) (by decide) (by first | decide | omega)) ?_
  rintro y7 ⟨vy7, hy7⟩
  refine ok_chk (by rw [gk_len hK (b := 99) (n := 24) (by decide) rfl]; decide) ?_
  refine ok_ltt (fun M8 eM8 => ?_)
  have hM8 : RDU G M d f T 99 24 (upv (upv (fun _ => 0) 0 ((0 : Nat) : Int)) 1 ((c : Nat) : Int)) (toks 0 (0) 1 ++ (ueT 0 (0) ++ (ueT 0 (r - 1) ++ (ueT 0 (0) ++ (toks 0 (k) 1 ++ (toks 0 (q) 2 ++ (ueT 0 (sei (z - 26)) ++ (ueT 0 (sei (0)) ++ (ueT 0 (sei (o)) ++ (toks 0 (1) 1 ++ (toks 0 (l) 1 ++ (toks 0 (0) 1 ++ D)))))))))))) M8 := by rw [eM8]; exact rdu_w (k := 1) hy7 (by decide) hd vy7
  refine ok_drR (b := 13) hM8 hK rfl (by decide) rfl ?_
  refine ok_bnd (rdu_fixed (V := 0) (m := 1) hM8 (by decide) rfl rfl (by decide) (by decide) (by first | decide | omega)) ?_
  rintro y10 ⟨vy10, hy10⟩
  refine ok_chk (by rw [gk_len hK (b := 99) (n := 24) (by decide) rfl]; decide) ?_
  refine ok_ltt (fun M11 eM11 => ?_)
  have hM11 : RDU G M d f T 99 24 (upv (upv (upv (fun _ => 0) 0 ((0 : Nat) : Int)) 1 ((c : Nat) : Int)) 2 ((0 : Nat) : Int)) (ueT 0 (0) ++ (ueT 0 (r - 1) ++ (ueT 0 (0) ++ (toks 0 (k) 1 ++ (toks 0 (q) 2 ++ (ueT 0 (sei (z - 26)) ++ (ueT 0 (sei (0)) ++ (ueT 0 (sei (o)) ++ (toks 0 (1) 1 ++ (toks 0 (l) 1 ++ (toks 0 (0) 1 ++ D))))))))))) M11 := by rw [eM11]; exact rdu_w (k := 2) hy10 (by decide) hd vy10
  refine ok_bnd (rdu_uns (x := 0) hM11 hK (by decide) (by omega) (by show _ ≤ ((0 : Nat) : Int); omega)) ?_
  rintro y12 ⟨vy12, hy12⟩
  refine ok_bnd (rdu_uns (x := r - 1) hy12 hK (by decide) (by omega) (by show _ ≤ ((7 : Nat) : Int); omega)) ?_
  rintro y13 ⟨vy13, hy13⟩
  refine ok_ltt (fun x14 ex14 => ?_)
  have vx14 : x14.toInt = ((r - 1 + 1 : Nat) : Int) := by rw [ex14]; exact addn_of vy13 (by rfl) (by omega)
  refine ok_chk (by rw [gk_len hK (b := 99) (n := 24) (by decide) rfl]; decide) ?_
  refine ok_ltt (fun M15 eM15 => ?_)
  have hM15 : RDU G M d f T 99 24 (upv (upv (upv (upv (fun _ => 0) 0 ((0 : Nat) : Int)) 1 ((c : Nat) : Int)) 2 ((0 : Nat) : Int)) 3 ((r - 1 + 1 : Nat) : Int)) (ueT 0 (0) ++ (toks 0 (k) 1 ++ (toks 0 (q) 2 ++ (ueT 0 (sei (z - 26)) ++ (ueT 0 (sei (0)) ++ (ueT 0 (sei (o)) ++ (toks 0 (1) 1 ++ (toks 0 (l) 1 ++ (toks 0 (0) 1 ++ D))))))))) M15 := by rw [eM15]; exact rdu_w (k := 3) hy13 (by decide) hd vx14
  refine ok_bnd (rdu_uns (x := 0) hM15 hK (by decide) (by omega) (by show _ ≤ ((7 : Nat) : Int); omega)) ?_
  rintro y16 ⟨vy16, hy16⟩
  refine ok_ltt (fun x17 ex17 => ?_)
  have vx17 : x17.toInt = ((0 + 1 : Nat) : Int) := by rw [ex17]; exact addn_of vy16 (by rfl) (by omega)
  refine ok_chk (by rw [gk_len hK (b := 99) (n := 24) (by decide) rfl]; decide) ?_
  refine ok_ltt (fun M18 eM18 => ?_)
  have hM18 : RDU G M d f T 99 24 (upv (upv (upv (upv (upv (fun _ => 0) 0 ((0 : Nat) : Int)) 1 ((c : Nat) : Int)) 2 ((0 : Nat) : Int)) 3 ((r - 1 + 1 : Nat) : Int)) 4 ((0 + 1 : Nat) : Int)) (toks 0 (k) 1 ++ (toks 0 (q) 2 ++ (ueT 0 (sei (z - 26)) ++ (ueT 0 (sei (0)) ++ (ueT 0 (sei (o)) ++ (toks 0 (1) 1 ++ (toks 0 (l) 1 ++ (toks 0 (0) 1 ++ D)))))))) M18 := by rw [eM18]; exact rdu_w (k := 4) hy16 (by decide) hd vx17
  refine ok_drR (b := 13) hM18 hK rfl (by decide) rfl ?_
  refine ok_bnd (rdu_fixed (V := k) (m := 1) hM18 (by decide) rfl rfl (by decide) (by decide) (by first | decide | omega)) ?_
  rintro y20 ⟨vy20, hy20⟩
  refine ok_chk (by rw [gk_len hK (b := 99) (n := 24) (by decide) rfl]; decide) ?_
  refine ok_ltt (fun M21 eM21 => ?_)
  have hM21 : RDU G M d f T 99 24 (upv (upv (upv (upv (upv (upv (fun _ => 0) 0 ((0 : Nat) : Int)) 1 ((c : Nat) : Int)) 2 ((0 : Nat) : Int)) 3 ((r - 1 + 1 : Nat) : Int)) 4 ((0 + 1 : Nat) : Int)) 5 ((k : Nat) : Int)) (toks 0 (q) 2 ++ (ueT 0 (sei (z - 26)) ++ (ueT 0 (sei (0)) ++ (ueT 0 (sei (o)) ++ (toks 0 (1) 1 ++ (toks 0 (l) 1 ++ (toks 0 (0) 1 ++ D))))))) M21 := by rw [eM21]; exact rdu_w (k := 5) hy20 (by decide) hd vy20
  refine ok_drR (b := 13) hM21 hK rfl (by decide) rfl ?_
  refine ok_bnd (rdu_fixed (V := q) (m := 2) hM21 (by decide) rfl rfl (by decide) (by decide) (by first | decide | omega)) ?_
  rintro y23 ⟨vy23, hy23⟩
  refine ok_chk (by rw [gk_len hK (b := 99) (n := 24) (by decide) rfl]; decide) ?_
  refine ok_ltt (fun M24 eM24 => ?_)
  have hM24 : RDU G M d f T 99 24 (upv (upv (upv (upv (upv (upv (upv (fun _ => 0) 0 ((0 : Nat) : Int)) 1 ((c : Nat) : Int)) 2 ((0 : Nat) : Int)) 3 ((r - 1 + 1 : Nat) : Int)) 4 ((0 + 1 : Nat) : Int)) 5 ((k : Nat) : Int)) 6 ((q : Nat) : Int)) (ueT 0 (sei (z - 26)) ++ (ueT 0 (sei (0)) ++ (ueT 0 (sei (o)) ++ (toks 0 (1) 1 ++ (toks 0 (l) 1 ++ (toks 0 (0) 1 ++ D)))))) M24 := by rw [eM24]; exact rdu_w (k := 6) hy23 (by decide) hd vy23
  refine ok_chk (by rw [gk_len hK (b := 99) (n := 24) (by decide) rfl]; decide) ?_
  refine ok_ltt (fun x25 ex25 => ?_)
  have vx25 : x25.toInt = ((q : Nat) : Int) := by rw [ex25]; exact (rdu_r (k := 6) hM24 (by decide)).trans rfl
  rw [if_pos (show x25 ≤ (2 : Int32) from pz_le.mpr (by first | exact vx25 | (rw [vx25]; show _ ≤ (2 : Int); omega)))]
  refine ok_bnd (Q := fun y26 => RDU G M d f T 99 24 (upv (upv (upv (upv (upv (upv (upv (fun _ => 0) 0 ((0 : Nat) : Int)) 1 ((c : Nat) : Int)) 2 ((0 : Nat) : Int)) 3 ((r - 1 + 1 : Nat) : Int)) 4 ((0 + 1 : Nat) : Int)) 5 ((k : Nat) : Int)) 6 ((q : Nat) : Int)) (ueT 0 (sei (z - 26)) ++ (ueT 0 (sei (0)) ++ (ueT 0 (sei (o)) ++ (toks 0 (1) 1 ++ (toks 0 (l) 1 ++ (toks 0 (0) 1 ++ D)))))) y26) (ok_some hM24) ?_
  intro y26 hy26
  refine ok_bnd (rdu_sig (x := z - 26) hy26 hK (by decide) (by show (-26 : Int) ≤ _; omega) (by show _ ≤ (25 : Int); omega) (by omega) (by omega)) ?_
  rintro y27 ⟨vy27, hy27⟩
  refine ok_chk (by rw [gk_len hK (b := 99) (n := 24) (by decide) rfl]; decide) ?_
  refine ok_ltt (fun M28 eM28 => ?_)
  have hM28 : RDU G M d f T 99 24 (upv (upv (upv (upv (upv (upv (upv (upv (fun _ => 0) 0 ((0 : Nat) : Int)) 1 ((c : Nat) : Int)) 2 ((0 : Nat) : Int)) 3 ((r - 1 + 1 : Nat) : Int)) 4 ((0 + 1 : Nat) : Int)) 5 ((k : Nat) : Int)) 6 ((q : Nat) : Int)) 7 (z - 26 : Int)) (ueT 0 (sei (0)) ++ (ueT 0 (sei (o)) ++ (toks 0 (1) 1 ++ (toks 0 (l) 1 ++ (toks 0 (0) 1 ++ D))))) M28 := by rw [eM28]; exact rdu_w (k := 7) hy27 (by decide) hd vy27
  refine ok_bnd (rdu_sig (x := 0) hM28 hK (by decide) (by show (-26 : Int) ≤ _; omega) (by show _ ≤ (25 : Int); omega) (by omega) (by omega)) ?_
  rintro y29 ⟨vy29, hy29⟩
  refine ok_bnd (rdu_sig (x := o) hy29 hK (by decide) (by show (-12 : Int) ≤ _; omega) (by show _ ≤ (12 : Int); omega) (by omega) (by omega)) ?_
  rintro y30 ⟨vy30, hy30⟩
  refine ok_chk (by rw [gk_len hK (b := 99) (n := 24) (by decide) rfl]; decide) ?_
  refine ok_ltt (fun M31 eM31 => ?_)
  have hM31 : RDU G M d f T 99 24 (upv (upv (upv (upv (upv (upv (upv (upv (upv (fun _ => 0) 0 ((0 : Nat) : Int)) 1 ((c : Nat) : Int)) 2 ((0 : Nat) : Int)) 3 ((r - 1 + 1 : Nat) : Int)) 4 ((0 + 1 : Nat) : Int)) 5 ((k : Nat) : Int)) 6 ((q : Nat) : Int)) 7 (z - 26 : Int)) 8 (o : Int)) (toks 0 (1) 1 ++ (toks 0 (l) 1 ++ (toks 0 (0) 1 ++ D))) M31 := by rw [eM31]; exact rdu_w (k := 8) hy30 (by decide) hd vy30
  refine ok_drR (b := 13) hM31 hK rfl (by decide) rfl ?_
  refine ok_bnd (rdu_fixed (V := 1) (m := 1) hM31 (by decide) rfl rfl (by decide) (by decide) (by first | decide | omega)) ?_
  rintro y33 ⟨vy33, hy33⟩
  refine ok_chk (by rw [gk_len hK (b := 99) (n := 24) (by decide) rfl]; decide) ?_
  refine ok_ltt (fun M34 eM34 => ?_)
  have hM34 : RDU G M d f T 99 24 (upv (upv (upv (upv (upv (upv (upv (upv (upv (upv (fun _ => 0) 0 ((0 : Nat) : Int)) 1 ((c : Nat) : Int)) 2 ((0 : Nat) : Int)) 3 ((r - 1 + 1 : Nat) : Int)) 4 ((0 + 1 : Nat) : Int)) 5 ((k : Nat) : Int)) 6 ((q : Nat) : Int)) 7 (z - 26 : Int)) 8 (o : Int)) 9 ((1 : Nat) : Int)) (toks 0 (l) 1 ++ (toks 0 (0) 1 ++ D)) M34 := by rw [eM34]; exact rdu_w (k := 9) hy33 (by decide) hd vy33
  refine ok_drR (b := 13) hM34 hK rfl (by decide) rfl ?_
  refine ok_bnd (rdu_fixed (V := l) (m := 1) hM34 (by decide) rfl rfl (by decide) (by decide) (by first | decide | omega)) ?_
  rintro y36 ⟨vy36, hy36⟩
  refine ok_chk (by rw [gk_len hK (b := 99) (n := 24) (by decide) rfl]; decide) ?_
  refine ok_ltt (fun M37 eM37 => ?_)
  have hM37 : RDU G M d f T 99 24 (upv (upv (upv (upv (upv (upv (upv (upv (upv (upv (upv (fun _ => 0) 0 ((0 : Nat) : Int)) 1 ((c : Nat) : Int)) 2 ((0 : Nat) : Int)) 3 ((r - 1 + 1 : Nat) : Int)) 4 ((0 + 1 : Nat) : Int)) 5 ((k : Nat) : Int)) 6 ((q : Nat) : Int)) 7 (z - 26 : Int)) 8 (o : Int)) 9 ((1 : Nat) : Int)) 10 ((l : Nat) : Int)) (toks 0 (0) 1 ++ D) M37 := by rw [eM37]; exact rdu_w (k := 10) hy36 (by decide) hd vy36
  refine ok_drR (b := 13) hM37 hK rfl (by decide) rfl ?_
  refine ok_bnd (rdu_expect (V := 0) hM37 (by decide) rfl (by decide)) ?_
  intro y39 hy39
  refine ok_chk (by rw [gk_len hK (b := 99) (n := 24) (by decide) rfl]; decide) ?_
  refine ok_ltt (fun M40 eM40 => ?_)
  have hM40 : RDU G M d f T 99 24 (upv (upv (upv (upv (upv (upv (upv (upv (upv (upv (upv (upv (fun _ => 0) 0 ((0 : Nat) : Int)) 1 ((c : Nat) : Int)) 2 ((0 : Nat) : Int)) 3 ((r - 1 + 1 : Nat) : Int)) 4 ((0 + 1 : Nat) : Int)) 5 ((k : Nat) : Int)) 6 ((q : Nat) : Int)) 7 (z - 26 : Int)) 8 (o : Int)) 9 ((1 : Nat) : Int)) 10 ((l : Nat) : Int)) 11 (1 : Int)) D M40 := by rw [eM40]; exact rdu_w (k := 11) hy39 (by decide) hd rfl
  refine ok_drR (b := 93) hM40 hK rfl (by decide) rfl ?_
  refine ok_chk (by rw [show y2.2 = (0 : Int32) from Int32.toInt_inj.1 vy2, gk_len hK (b := 93) (n := 4) (by decide) rfl]; decide) ?_
  rw [show y2.2.toNatClampNeg = 0 from by rw [show y2.2 = (0 : Int32) from Int32.toInt_inj.1 vy2]; rfl]
  refine ok_drR (b := 94) hM40 hK rfl (by decide) rfl ?_
  refine ok_chk (by rw [gk_len hK (b := 99) (n := 24) (by decide) rfl, gk_len hK (b := 94) (n := 12) (by decide) rfl]; decide) ?_
  refine ok_ltt (fun M43 eM43 => ?_)
  rw [eM43]
  refine ok_some (rdu_keep (w := 99) (w2 := 94) (rdu_les hM40 (by decide)) (by decide) hd2 ?_)
  intro k hk
  show va_cpy _ _ 0 0 12 k = _
  unfold va_cpy
  rw [if_pos (by omega)]
  simp only [Nat.zero_add, Nat.sub_zero]
