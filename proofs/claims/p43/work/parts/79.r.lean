/-! two runs in lockstep, printed out of the functions' trees -/
theorem r_fillLuma {mu : Nat → Nat} {G H : GG} {M N : DD} {p : Nat} {L : List Nat} (t : CX mu G H M N p L) {p0 p0r : Option Nat} (e0 : p0 = some 125 ∧ p0r = some (mu 125)) {p1 : Int32} {p2 : Int32} {a2 : Int} (i2 : TI p2 a2) {p3 : Int32} (h0 : 0 ≤ a2) (h1 : a2 ≤ 15) (hG : WG mu M N 139 0 16 (fun j => ((8 * (a2 / 8) + 4 * (a2 / 2 % 2)) + j / 4) * 16 + (8 * (a2 / 4 % 2) + 4 * (a2 % 2)) + j % 4)) : LKS (FX6_fillLuma G M 138 p0 p1 p2 p3) (FX6_fillLuma H N (mu 138) p0r p1 p2 p3) (fun y z => Up mu 144 M N y z) := by
  unfold FX6_fillLuma
  obtain ⟨rfl, rfl⟩ := e0
  refine rl_bnd (r_pieceX t i2 (by omega) (by omega)) ?_
  rintro ⟨y1_1, y1_2⟩ ⟨y1_1r, y1_2r⟩ ⟨uy1_1', ey1_2, iy1_2⟩
  have uy1_1 : Up mu 144 M N y1_1 y1_1r := uy1_1'
  have ty1_1 := cx_up t uy1_1
  have wG_y1_1 := wg_up uy1_1 hG
  obtain rfl : y1_2 = y1_2r := ey1_2
  refine rl_bnd (r_pieceY ty1_1 i2 (by omega) (by omega)) ?_
  rintro ⟨y2_1, y2_2⟩ ⟨y2_1r, y2_2r⟩ ⟨uy2_1', ey2_2, iy2_2⟩
  have uy2_1 : Up mu 144 y1_1 y1_1r y2_1 y2_1r := uy2_1'
  have ty2_1 := cx_up ty1_1 uy2_1
  have wG_y2_1 := wg_up uy2_1 wG_y1_1
  obtain rfl : y2_2 = y2_2r := ey2_2
  refine rl_dr (cx_U ty2_1) ⟨rfl, rfl⟩ (fun gb3 => ?_)
  refine rl_bnd (r_levelAt ty2_1) ?_
  rintro ⟨y4_1, y4_2⟩ ⟨y4_1r, y4_2r⟩ ⟨uy4_1', ey4_2⟩
  have uy4_1 : Up mu 144 y2_1 y2_1r y4_1 y4_1r := uy4_1'
  have ty4_1 := cx_up ty2_1 uy4_1
  have wG_y4_1 := wg_up uy4_1 wG_y2_1
  obtain rfl : y4_2 = y4_2r := ey4_2
  refine rl_bnd (r_unfold ty4_1 (rx_c (a := 125) (k := 9) (b := 132) ty2_1 (Or.inl rfl) rfl (by decide))) ?_
  rintro y5 y5r ⟨uy5', vR145_y5⟩
  have uy5 : Up mu 144 y4_1 y4_1r y5 y5r := uy5'
  have ty5 := cx_up ty4_1 uy5
  have wG_y5 := wg_up uy5 wG_y4_1
  refine rl_dr (cx_U ty5) (rx_p ty5) (fun gb6 => ?_)
  refine rl_dr (cx_U ty5) (rx_4 ty5 (cx_p t)) (fun gb7 => ?_)
  refine rl_chk (chkl (cx_U ty5) gb7) (fun k1 => ?_)
  refine rl_bnd (r_lumaAt ty5 (rx_p ty5) (cx_p t)) ?_
  rintro ⟨y8_1, y8_2⟩ ⟨y8_1r, y8_2r⟩ ⟨uy8_1', ey8_2⟩
  have uy8_1 : Up mu 144 y5 y5r y8_1 y8_1r := uy8_1'
  have ty8_1 := cx_up ty5 uy8_1
  have wG_y8_1 := wg_up uy8_1 wG_y5
  have wR145_y8_1 := rw_up uy8_1 vR145_y5
  obtain rfl : y8_2 = y8_2r := ey8_2
  refine rl_dr (cx_U ty8_1) (rx_p ty8_1) (fun gb9 => ?_)
  refine rl_rd (cx_q (j := 0) (k := 1) ty8_1 (cx_p t) rfl) (fun x10 => ?_)
  refine rl_ltA (fun x11 => ?_)
  refine rl_ltI (av_mul tn_16 iy2_2 (by omega) (by omega)) (fun x12 ix12 => ?_)
  refine rl_ltI (av_add ix12 iy1_2 (by omega) (by omega)) (fun x13 ix13 => ?_)
  refine rl_bnd (r_fillPiece ty8_1 (rx_d0 ty5 (cx_p t)) (cx_p t) (by omega : 9 = 9 ∨ 9 = 10 ∨ 9 = 11) ix13 tn_16 (by omega) (by omega) (by omega) wR145_y8_1 (wg_cs wG_y8_1 (by omega) (by omega) (fun j h1 h2 => by (try dsimp only) <;> omega))) ?_
  rintro y14 y14r uy14'
  have uy14 : Up mu 144 y8_1 y8_1r y14 y14r := uy14'
  have ty14 := cx_up ty8_1 uy14
  have wG_y14 := wg_up uy14 wG_y8_1
  have wR145_y14 := rw_up uy14 wR145_y8_1
  exact rl_some (up_tr (up_tr (up_tr (up_tr (up_tr uy1_1 uy2_1) uy4_1) uy5) uy8_1) uy14)
theorem r_fillSixteen {mu : Nat → Nat} {G H : GG} {M N : DD} {p : Nat} {L : List Nat} (t : CX mu G H M N p L) {p0 p0r : Option Nat} (e0 : p0 = some 125 ∧ p0r = some (mu 125)) {p1 : Int32} {p2 : Int32} (hG : WG mu M N 139 0 256 (fun j => j)) : LKS (FX6_fillSixteen G M 138 p0 p1 p2) (FX6_fillSixteen H N (mu 138) p0r p1 p2) (fun y z => Up mu 144 M N y z) := by
  unfold FX6_fillSixteen
  obtain ⟨rfl, rfl⟩ := e0
  refine rl_bnd (r_levelAt t) ?_
  rintro ⟨y1_1, y1_2⟩ ⟨y1_1r, y1_2r⟩ ⟨uy1_1', ey1_2⟩
  have uy1_1 : Up mu 144 M N y1_1 y1_1r := uy1_1'
  have ty1_1 := cx_up t uy1_1
  have wG_y1_1 := wg_up uy1_1 hG
  obtain rfl : y1_2 = y1_2r := ey1_2
  refine rl_bnd (Q := fun (y z : Int32 × DD) => y.1 = z.1 ∧ (0 ≤ y.1.toInt ∧ y.1.toInt ≤ 16) ∧ Up mu 144 y1_1 y1_1r y.2 z.2 ∧ WG mu y.2 z.2 146 (0) (16) (fun j => zzA j)) (rl_itr (fun (y z : Int32 × DD) => y.1 = z.1 ∧ (0 ≤ y.1.toInt ∧ y.1.toInt ≤ 16) ∧ Up mu 144 y1_1 y1_1r y.2 z.2 ∧ WG mu y.2 z.2 146 (0) (y.1.toInt) (fun j => zzA j)) _ ?_ _ _ _ ?_) ?_
  · rintro ⟨s3_1, s3_2⟩ ⟨s3_1r, s3_2r⟩ ⟨es3_1, ls3_1, us3_2, ve_s3_2⟩
    obtain rfl : s3_1 = s3_1r := es3_1
    have ls3_1 : 0 ≤ s3_1.toInt ∧ s3_1.toInt ≤ 16 := ls3_1
    have is3_1 : TI s3_1 s3_1.toInt := rfl
    have us3_2 : Up mu 144 y1_1 y1_1r s3_2 s3_2r := us3_2
    have ts3_2 := cx_up ty1_1 us3_2
    have wG_s3_2 := wg_up us3_2 wG_y1_1
    have ve_s3_2 : WG mu s3_2 s3_2r 146 (0) (s3_1.toInt) (fun j => zzA j) := ve_s3_2
    refine rl_if (fun c1 => ?_) (fun c1 => ?_)
    · have dc1 := tl_le tn_16 is3_1 c1
      exact rl_inr ⟨rfl, (ti_bd is3_1 (by omega) (by omega)), us3_2, (wg_sub ve_s3_2 (by omega) (by omega))⟩
    · have dc1 := tl_nle tn_16 is3_1 c1
      refine rl_chk (fun h => h) (fun _ => ?_)
      have lx41 := tb_15 s3_1.toNatClampNeg
      refine rl_ltI (rfl : TI ((sT 15).getD s3_1.toNatClampNeg 0) ((sT 15).getD s3_1.toNatClampNeg 0).toInt) (fun x41 ix41 => ?_)
      refine rl_ltI (av_mul tn_4 ix41 (by omega) (by omega)) (fun x42 ix42 => ?_)
      refine rl_chk (fun h => h) (fun _ => ?_)
      have lx43 := tb_14 s3_1.toNatClampNeg
      refine rl_ltI (rfl : TI ((sT 14).getD s3_1.toNatClampNeg 0) ((sT 14).getD s3_1.toNatClampNeg 0).toInt) (fun x43 ix43 => ?_)
      refine rl_ltI (av_add ix42 ix43 (by omega) (by omega)) (fun x44 ix44 => ?_)
      refine rl_dr (cx_U ts3_2) ⟨rfl, rfl⟩ (fun gb45 => ?_)
      refine rl_ltA (fun x46 => ?_)
      refine rl_dr (cx_U ts3_2) (rx_c (a := 125) (k := 9) (b := 132) ts3_2 (Or.inl rfl) rfl (by decide)) (fun gb47 => ?_)
      refine rl_chk (chkl (cx_U ts3_2) gb47) (fun k4 => ?_)
      refine rl_rd (cx_r ts3_2 _ (Or.inr (Or.inr (Or.inl rfl)))) (fun x48 => ?_)
      refine rl_dr (cx_U ts3_2) (rx_c (a := 138) (k := 7) (b := 146) ts3_2 (Or.inr (Or.inl rfl)) rfl (by decide)) (fun gb49 => ?_)
      refine rl_chk (chkl (cx_U ts3_2) gb49) (fun k5 => ?_)
      refine rl_w (κ := 144) (cx_U ts3_2) (by decide) (fun M50 M50r uM50 AM50 nM50 => ?_)
      have tM50 := cx_up ts3_2 uM50
      have wG_M50 := wg_up uM50 wG_s3_2
      have we_M50 := wg_up uM50 ve_s3_2
      refine rl_ltI (av_add is3_1 tn_1 (by omega) (by omega)) (fun x51 ix51 => ?_)
      exact rl_inl ⟨rfl, (ti_bd ix51 (by omega) (by omega)), (up_tr us3_2 uM50), (wg_ext we_M50 ix44 (ag_up (up_0 mu (κ := 144) _ _) AM50) rfl (by have q : _ = _ := ix51; (try dsimp only) <;> omega))⟩
  · exact ⟨rfl, (ti_bd tn_0 (by omega) (by omega)), (up_0 mu (κ := 144) _ _), (wg_0 (by have q : _ = _ := tn_0; (try dsimp only) <;> omega))⟩
  · rintro ⟨y2_1, y2_2⟩ ⟨y2_1r, y2_2r⟩ ⟨ey2_1, ly2_1, uy2_2, ve_y2_2⟩
    obtain rfl : y2_1 = y2_1r := ey2_1
    have ly2_1 : 0 ≤ y2_1.toInt ∧ y2_1.toInt ≤ 16 := ly2_1
    have iy2_1 : TI y2_1 y2_1.toInt := rfl
    have uy2_2 : Up mu 144 y1_1 y1_1r y2_2 y2_2r := uy2_2
    have ty2_2 := cx_up ty1_1 uy2_2
    have wG_y2_2 := wg_up uy2_2 wG_y1_1
    have ve_y2_2 : WG mu y2_2 y2_2r 146 (0) (16) (fun j => zzA j) := ve_y2_2
    refine rl_bnd (r_turnEven ty2_2 (rw_zz ty2_2 ve_y2_2)) ?_
    rintro y5 y5r ⟨uy5', vR146_y5⟩
    have uy5 : Up mu 144 y2_2 y2_2r y5 y5r := uy5'
    have ty5 := cx_up ty2_2 uy5
    have wG_y5 := wg_up uy5 wG_y2_2
    have we_y5 := wg_up uy5 ve_y2_2
    refine rl_bnd (Q := fun (y z : Int32 × DD) => y.1 = z.1 ∧ (0 ≤ y.1.toInt ∧ y.1.toInt ≤ 16) ∧ Up mu 144 y5 y5r y.2 z.2) (rl_itr (fun (y z : Int32 × DD) => y.1 = z.1 ∧ (0 ≤ y.1.toInt ∧ y.1.toInt ≤ 16) ∧ Up mu 144 y5 y5r y.2 z.2) _ ?_ _ _ _ ?_) ?_
    · rintro ⟨s7_1, s7_2⟩ ⟨s7_1r, s7_2r⟩ ⟨es7_1, ls7_1, us7_2⟩
      obtain rfl : s7_1 = s7_1r := es7_1
      have ls7_1 : 0 ≤ s7_1.toInt ∧ s7_1.toInt ≤ 16 := ls7_1
      have is7_1 : TI s7_1 s7_1.toInt := rfl
      have us7_2 : Up mu 144 y5 y5r s7_2 s7_2r := us7_2
      have ts7_2 := cx_up ty5 us7_2
      have wG_s7_2 := wg_up us7_2 wG_y5
      have we_s7_2 := wg_up us7_2 we_y5
      have wR146_s7_2 := rw_up us7_2 vR146_y5
      refine rl_if (fun c6 => ?_) (fun c6 => ?_)
      · have dc6 := tl_le tn_16 is7_1 c6
        exact rl_inr ⟨rfl, (ti_bd is7_1 (by omega) (by omega)), us7_2⟩
      · have dc6 := tl_nle tn_16 is7_1 c6
        refine rl_bnd (r_pieceX ts7_2 is7_1 (by omega) (by omega)) ?_
        rintro ⟨y11_1, y11_2⟩ ⟨y11_1r, y11_2r⟩ ⟨uy11_1', ey11_2, iy11_2⟩
        have uy11_1 : Up mu 144 s7_2 s7_2r y11_1 y11_1r := uy11_1'
        have ty11_1 := cx_up ts7_2 uy11_1
        have wG_y11_1 := wg_up uy11_1 wG_s7_2
        have we_y11_1 := wg_up uy11_1 we_s7_2
        have wR146_y11_1 := rw_up uy11_1 wR146_s7_2
        obtain rfl : y11_2 = y11_2r := ey11_2
        refine rl_bnd (r_pieceY ty11_1 is7_1 (by omega) (by omega)) ?_
        rintro ⟨y12_1, y12_2⟩ ⟨y12_1r, y12_2r⟩ ⟨uy12_1', ey12_2, iy12_2⟩
        have uy12_1 : Up mu 144 y11_1 y11_1r y12_1 y12_1r := uy12_1'
        have ty12_1 := cx_up ty11_1 uy12_1
        have wG_y12_1 := wg_up uy12_1 wG_y11_1
        have we_y12_1 := wg_up uy12_1 we_y11_1
        have wR146_y12_1 := rw_up uy12_1 wR146_y11_1
        obtain rfl : y12_2 = y12_2r := ey12_2
        refine rl_dr (cx_U ty12_1) ⟨rfl, rfl⟩ (fun gb13 => ?_)
        refine rl_bnd (r_levelAt ty12_1) ?_
        rintro ⟨y14_1, y14_2⟩ ⟨y14_1r, y14_2r⟩ ⟨uy14_1', ey14_2⟩
        have uy14_1 : Up mu 144 y12_1 y12_1r y14_1 y14_1r := uy14_1'
        have ty14_1 := cx_up ty12_1 uy14_1
        have wG_y14_1 := wg_up uy14_1 wG_y12_1
        have we_y14_1 := wg_up uy14_1 we_y12_1
        have wR146_y14_1 := rw_up uy14_1 wR146_y12_1
        obtain rfl : y14_2 = y14_2r := ey14_2
        refine rl_bnd (r_unfold ty14_1 (rx_c (a := 125) (k := 9) (b := 132) ty12_1 (Or.inl rfl) rfl (by decide))) ?_
        rintro y15 y15r ⟨uy15', vR145_y15⟩
        have uy15 : Up mu 144 y14_1 y14_1r y15 y15r := uy15'
        have ty15 := cx_up ty14_1 uy15
        have wG_y15 := wg_up uy15 wG_y14_1
        have we_y15 := wg_up uy15 we_y14_1
        have wR146_y15 := rw_up uy15 wR146_y14_1
        refine rl_ltI (av_div iy11_2 tn_4 (by omega) (by omega)) (fun x16 ix16 => ?_)
        refine rl_ltI (av_add iy12_2 ix16 (by omega) (by omega)) (fun x17 ix17 => ?_)
        refine rl_dr (cx_U ty15) (rx_c (a := 138) (k := 7) (b := 146) ty15 (Or.inr (Or.inl rfl)) rfl (by decide)) (fun gb18 => ?_)
        refine rl_chk (chkl (cx_U ty15) gb18) (fun k7 => ?_)
        refine rl_rd (rw_use wR146_y15 k7) (fun x19 => ?_)
        refine rl_bnd (r_normAt ty15) ?_
        rintro ⟨y20_1, y20_2⟩ ⟨y20_1r, y20_2r⟩ ⟨uy20_1', ey20_2⟩
        have uy20_1 : Up mu 144 y15 y15r y20_1 y20_1r := uy20_1'
        have ty20_1 := cx_up ty15 uy20_1
        have wG_y20_1 := wg_up uy20_1 wG_y15
        have we_y20_1 := wg_up uy20_1 we_y15
        have wR146_y20_1 := rw_up uy20_1 wR146_y15
        have wR145_y20_1 := rw_up uy20_1 vR145_y15
        obtain rfl : y20_2 = y20_2r := ey20_2
        refine rl_chk (fun h => h) (fun _ => ?_)
        refine rl_ltB (tb_13 _) (fun x21 lx21 => ?_)
        have ix21 : TI x21 x21.toInt := rfl
        refine rl_ltA (fun x22 => ?_)
        refine rl_ltA (fun x23 => ?_)
        refine rl_ltA (fun x24 => ?_)
        refine rl_ltA (fun x25 => ?_)
        refine rl_ltA (fun x26 => ?_)
        refine rl_dr (cx_U ty20_1) (rx_c (a := 138) (k := 6) (b := 145) ty15 (Or.inr (Or.inl rfl)) rfl (by decide)) (fun gb27 => ?_)
        refine rl_chk (chkl (cx_U ty20_1) gb27) (fun k9 => ?_)
        refine rl_w (κ := 144) (cx_U ty20_1) (by decide) (fun M28 M28r uM28 AM28 nM28 => ?_)
        have tM28 := cx_up ty20_1 uM28
        have wG_M28 := wg_up uM28 wG_y20_1
        have we_M28 := wg_up uM28 we_y20_1
        have wR146_M28 := rw_up uM28 wR146_y20_1
        have wR145_M28 := rw_up uM28 wR145_y20_1
        refine rl_dr (cx_U tM28) (rx_p tM28) (fun gb29 => ?_)
        refine rl_dr (cx_U tM28) (rx_4 tM28 (cx_p t)) (fun gb30 => ?_)
        refine rl_chk (chkl (cx_U tM28) gb30) (fun k10 => ?_)
        refine rl_bnd (r_lumaAt tM28 (rx_p tM28) (cx_p t)) ?_
        rintro ⟨y31_1, y31_2⟩ ⟨y31_1r, y31_2r⟩ ⟨uy31_1', ey31_2⟩
        have uy31_1 : Up mu 144 M28 M28r y31_1 y31_1r := uy31_1'
        have ty31_1 := cx_up tM28 uy31_1
        have wG_y31_1 := wg_up uy31_1 wG_M28
        have we_y31_1 := wg_up uy31_1 we_M28
        have wR146_y31_1 := rw_up uy31_1 wR146_M28
        have wR145_y31_1 := rw_up uy31_1 wR145_M28
        have wP145_0_y31_1 := ag_up uy31_1 AM28
        obtain rfl : y31_2 = y31_2r := ey31_2
        refine rl_dr (cx_U ty31_1) (rx_p ty31_1) (fun gb32 => ?_)
        refine rl_rd (cx_q (j := 0) (k := 1) ty31_1 (cx_p t) rfl) (fun x33 => ?_)
        refine rl_ltA (fun x34 => ?_)
        refine rl_ltI (av_mul tn_16 iy12_2 (by omega) (by omega)) (fun x35 ix35 => ?_)
        refine rl_ltI (av_add ix35 iy11_2 (by omega) (by omega)) (fun x36 ix36 => ?_)
        refine rl_bnd (r_fillPiece ty31_1 (rx_d0 tM28 (cx_p t)) (cx_p t) (by omega : 9 = 9 ∨ 9 = 10 ∨ 9 = 11) ix36 tn_16 (by omega) (by omega) (by omega) wR145_y31_1 (wg_fn wG_y31_1 (fun j h1 h2 => by (try dsimp only) <;> omega))) ?_
        rintro y37 y37r uy37'
        have uy37 : Up mu 144 y31_1 y31_1r y37 y37r := uy37'
        have ty37 := cx_up ty31_1 uy37
        have wG_y37 := wg_up uy37 wG_y31_1
        have we_y37 := wg_up uy37 we_y31_1
        have wR146_y37 := rw_up uy37 wR146_y31_1
        have wR145_y37 := rw_up uy37 wR145_y31_1
        have wP145_0_y37 := ag_up uy37 wP145_0_y31_1
        refine rl_ltI (av_add is7_1 tn_1 (by omega) (by omega)) (fun x38 ix38 => ?_)
        exact rl_inl ⟨rfl, (ti_bd ix38 (by omega) (by omega)), (up_tr (up_tr (up_tr (up_tr (up_tr (up_tr (up_tr (up_tr us7_2 uy11_1) uy12_1) uy14_1) uy15) uy20_1) uM28) uy31_1) uy37)⟩
    · exact ⟨rfl, (ti_bd tn_0 (by omega) (by omega)), (up_0 mu (κ := 144) _ _)⟩
    · rintro ⟨y6_1, y6_2⟩ ⟨y6_1r, y6_2r⟩ ⟨ey6_1, ly6_1, uy6_2⟩
      obtain rfl : y6_1 = y6_1r := ey6_1
      have ly6_1 : 0 ≤ y6_1.toInt ∧ y6_1.toInt ≤ 16 := ly6_1
      have iy6_1 : TI y6_1 y6_1.toInt := rfl
      have uy6_2 : Up mu 144 y5 y5r y6_2 y6_2r := uy6_2
      have ty6_2 := cx_up ty5 uy6_2
      have wG_y6_2 := wg_up uy6_2 wG_y5
      have we_y6_2 := wg_up uy6_2 we_y5
      have wR146_y6_2 := rw_up uy6_2 vR146_y5
      exact rl_some (up_tr (up_tr (up_tr uy1_1 uy2_2) uy5) uy6_2)
theorem r_fillColours {mu : Nat → Nat} {G H : GG} {M N : DD} {p : Nat} {L : List Nat} (t : CX mu G H M N p L) {p0 p0r : Option Nat} (e0 : p0 = some 125 ∧ p0r = some (mu 125)) {p1 : Int32} {p2 : Int32} (hG : WG mu M N 139 256 384 (fun j => j)) : LKS (FX6_fillColours G M 138 p0 p1 p2) (FX6_fillColours H N (mu 138) p0r p1 p2) (fun y z => Up mu 144 M N y z) := by
  unfold FX6_fillColours
  obtain ⟨rfl, rfl⟩ := e0
  refine rl_bnd (Q := fun (y z : Int32 × DD) => y.1 = z.1 ∧ (1 ≤ y.1.toInt ∧ y.1.toInt ≤ 3) ∧ Up mu 144 M N y.2 z.2) (rl_itr (fun (y z : Int32 × DD) => y.1 = z.1 ∧ (1 ≤ y.1.toInt ∧ y.1.toInt ≤ 3) ∧ Up mu 144 M N y.2 z.2) _ ?_ _ _ _ ?_) ?_
  · rintro ⟨s2_1, s2_2⟩ ⟨s2_1r, s2_2r⟩ ⟨es2_1, ls2_1, us2_2⟩
    obtain rfl : s2_1 = s2_1r := es2_1
    have ls2_1 : 1 ≤ s2_1.toInt ∧ s2_1.toInt ≤ 3 := ls2_1
    have is2_1 : TI s2_1 s2_1.toInt := rfl
    have us2_2 : Up mu 144 M N s2_2 s2_2r := us2_2
    have ts2_2 := cx_up t us2_2
    have wG_s2_2 := wg_up us2_2 hG
    refine rl_if (fun c1 => ?_) (fun c1 => ?_)
    · have dc1 := tl_le tn_3 is2_1 c1
      exact rl_inr ⟨rfl, (ti_bd is2_1 (by omega) (by omega)), us2_2⟩
    · have dc1 := tl_nle tn_3 is2_1 c1
      refine rl_dr (cx_U ts2_2) ⟨rfl, rfl⟩ (fun gb6 => ?_)
      refine rl_ltI (av_add tn_16 is2_1 (by omega) (by omega)) (fun x7 ix7 => ?_)
      refine rl_bnd (r_levelAt ts2_2) ?_
      rintro ⟨y8_1, y8_2⟩ ⟨y8_1r, y8_2r⟩ ⟨uy8_1', ey8_2⟩
      have uy8_1 : Up mu 144 s2_2 s2_2r y8_1 y8_1r := uy8_1'
      have ty8_1 := cx_up ts2_2 uy8_1
      have wG_y8_1 := wg_up uy8_1 wG_s2_2
      obtain rfl : y8_2 = y8_2r := ey8_2
      refine rl_dr (cx_U ty8_1) (rx_c (a := 125) (k := 9) (b := 132) ts2_2 (Or.inl rfl) rfl (by decide)) (fun gb9 => ?_)
      refine rl_dr (cx_U ty8_1) (rx_c (a := 138) (k := 7) (b := 146) ty8_1 (Or.inr (Or.inl rfl)) rfl (by decide)) (fun gb10 => ?_)
      refine rl_chk (chkc (cx_U ty8_1) gb9 gb10) (fun k2 => ?_)
      refine rl_cpy (κ := 144) (cx_U ty8_1) (by decide) (fun _ _ => (cx_r ty8_1 _ (Or.inr (Or.inr (Or.inl rfl))))) (fun M11 M11r uM11 AM11 => ?_)
      have tM11 := cx_up ty8_1 uM11
      have wG_M11 := wg_up uM11 wG_y8_1
      have wE_M11 : WG mu M11 M11r 146 0 4 (fun j => j) := wg_row (n := 4) AM11 rfl
      refine rl_bnd (r_turnFour tM11 wE_M11) ?_
      rintro y12 y12r ⟨uy12', vE_y12⟩
      have uy12 : Up mu 144 M11 M11r y12 y12r := uy12'
      have ty12 := cx_up tM11 uy12
      have wG_y12 := wg_up uy12 wG_M11
      have wE_y12 := wg_up uy12 wE_M11
      refine rl_bnd (Q := fun (y z : Int32 × DD) => y.1 = z.1 ∧ (0 ≤ y.1.toInt ∧ y.1.toInt ≤ 4) ∧ Up mu 144 y12 y12r y.2 z.2) (rl_itr (fun (y z : Int32 × DD) => y.1 = z.1 ∧ (0 ≤ y.1.toInt ∧ y.1.toInt ≤ 4) ∧ Up mu 144 y12 y12r y.2 z.2) _ ?_ _ _ _ ?_) ?_
      · rintro ⟨s14_1, s14_2⟩ ⟨s14_1r, s14_2r⟩ ⟨es14_1, ls14_1, us14_2⟩
        obtain rfl : s14_1 = s14_1r := es14_1
        have ls14_1 : 0 ≤ s14_1.toInt ∧ s14_1.toInt ≤ 4 := ls14_1
        have is14_1 : TI s14_1 s14_1.toInt := rfl
        have us14_2 : Up mu 144 y12 y12r s14_2 s14_2r := us14_2
        have ts14_2 := cx_up ty12 us14_2
        have wG_s14_2 := wg_up us14_2 wG_y12
        have wE_s14_2 := wg_up us14_2 vE_y12
        refine rl_if (fun c3 => ?_) (fun c3 => ?_)
        · have dc3 := tl_le tn_4 is14_1 c3
          exact rl_inr ⟨rfl, (ti_bd is14_1 (by omega) (by omega)), us14_2⟩
        · have dc3 := tl_nle tn_4 is14_1 c3
          refine rl_ltI (av_mod is14_1 tn_2 (by omega) (by omega)) (fun x19 ix19 => ?_)
          refine rl_ltI (av_mul ix19 tn_4 (by omega) (by omega)) (fun x20 ix20 => ?_)
          refine rl_ltI (av_div is14_1 tn_2 (by omega) (by omega)) (fun x21 ix21 => ?_)
          refine rl_ltI (av_mul ix21 tn_4 (by omega) (by omega)) (fun x22 ix22 => ?_)
          refine rl_ltI (av_mul tn_4 is2_1 (by omega) (by omega)) (fun x23 ix23 => ?_)
          refine rl_ltI (av_add tn_15 ix23 (by omega) (by omega)) (fun x24 ix24 => ?_)
          refine rl_ltI (av_add ix24 is14_1 (by omega) (by omega)) (fun x25 ix25 => ?_)
          refine rl_bnd (r_levelAt ts14_2) ?_
          rintro ⟨y26_1, y26_2⟩ ⟨y26_1r, y26_2r⟩ ⟨uy26_1', ey26_2⟩
          have uy26_1 : Up mu 144 s14_2 s14_2r y26_1 y26_1r := uy26_1'
          have ty26_1 := cx_up ts14_2 uy26_1
          have wG_y26_1 := wg_up uy26_1 wG_s14_2
          have wE_y26_1 := wg_up uy26_1 wE_s14_2
          obtain rfl : y26_2 = y26_2r := ey26_2
          refine rl_bnd (r_unfold ty26_1 (rx_c (a := 125) (k := 9) (b := 132) ts14_2 (Or.inl rfl) rfl (by decide))) ?_
          rintro y27 y27r ⟨uy27', vR145_y27⟩
          have uy27 : Up mu 144 y26_1 y26_1r y27 y27r := uy27'
          have ty27 := cx_up ty26_1 uy27
          have wG_y27 := wg_up uy27 wG_y26_1
          have wE_y27 := wg_up uy27 wE_y26_1
          refine rl_dr (cx_U ty27) (rx_c (a := 138) (k := 7) (b := 146) ty27 (Or.inr (Or.inl rfl)) rfl (by decide)) (fun gb28 => ?_)
          refine rl_chk (chkl (cx_U ty27) gb28) (fun k4 => ?_)
          refine rl_rd (wg_id wE_y27 is14_1 (by omega) (by omega)) (fun x29 => ?_)
          refine rl_bnd (r_normAt ty27) ?_
          rintro ⟨y30_1, y30_2⟩ ⟨y30_1r, y30_2r⟩ ⟨uy30_1', ey30_2⟩
          have uy30_1 : Up mu 144 y27 y27r y30_1 y30_1r := uy30_1'
          have ty30_1 := cx_up ty27 uy30_1
          have wG_y30_1 := wg_up uy30_1 wG_y27
          have wE_y30_1 := wg_up uy30_1 wE_y27
          have wR145_y30_1 := rw_up uy30_1 vR145_y27
          obtain rfl : y30_2 = y30_2r := ey30_2
          refine rl_chk (fun h => h) (fun _ => ?_)
          refine rl_ltB (tb_13 _) (fun x31 lx31 => ?_)
          have ix31 : TI x31 x31.toInt := rfl
          refine rl_ltA (fun x32 => ?_)
          refine rl_ltA (fun x33 => ?_)
          refine rl_ltA (fun x34 => ?_)
          refine rl_ltA (fun x35 => ?_)
          refine rl_dr (cx_U ty30_1) (rx_c (a := 138) (k := 6) (b := 145) ty27 (Or.inr (Or.inl rfl)) rfl (by decide)) (fun gb36 => ?_)
          refine rl_chk (chkl (cx_U ty30_1) gb36) (fun k6 => ?_)
          refine rl_w (κ := 144) (cx_U ty30_1) (by decide) (fun M37 M37r uM37 AM37 nM37 => ?_)
          have tM37 := cx_up ty30_1 uM37
          have wG_M37 := wg_up uM37 wG_y30_1
          have wE_M37 := wg_up uM37 wE_y30_1
          have wR145_M37 := rw_up uM37 wR145_y30_1
          refine rl_dr (cx_U tM37) (rx_p tM37) (fun gb38 => ?_)
          refine rl_dr (cx_U tM37) (rx_4 tM37 (cx_p t)) (fun gb39 => ?_)
          refine rl_chk (chkl (cx_U tM37) gb39) (fun k7 => ?_)
          refine rl_bnd (r_colourAt tM37 (rx_p tM37) (cx_p t)) ?_
          rintro ⟨y40_1, y40_2⟩ ⟨y40_1r, y40_2r⟩ ⟨uy40_1', ey40_2⟩
          have uy40_1 : Up mu 144 M37 M37r y40_1 y40_1r := uy40_1'
          have ty40_1 := cx_up tM37 uy40_1
          have wG_y40_1 := wg_up uy40_1 wG_M37
          have wE_y40_1 := wg_up uy40_1 wE_M37
          have wR145_y40_1 := rw_up uy40_1 wR145_M37
          have wP145_0_y40_1 := ag_up uy40_1 AM37
          obtain rfl : y40_2 = y40_2r := ey40_2
          refine rl_dr (cx_U ty40_1) (rx_p ty40_1) (fun gb41 => ?_)
          refine rl_rd (cx_q (j := 0) (k := 1) ty40_1 (cx_p t) rfl) (fun x42 => ?_)
          refine rl_ltA (fun x43 => ?_)
          refine rl_ltI (av_mul tn_64 is2_1 (by omega) (by omega)) (fun x44 ix44 => ?_)
          refine rl_ltI (av_add tn_192 ix44 (by omega) (by omega)) (fun x45 ix45 => ?_)
          refine rl_ltI (av_mul tn_8 ix22 (by omega) (by omega)) (fun x46 ix46 => ?_)
          refine rl_ltI (av_add ix45 ix46 (by omega) (by omega)) (fun x47 ix47 => ?_)
          refine rl_ltI (av_add ix47 ix20 (by omega) (by omega)) (fun x48 ix48 => ?_)
          obtain ⟨j8, hj8, ej8⟩ := rx_dv tM37 (cx_p t) is2_1 (by omega) (by omega)
          refine rl_bnd (r_fillPiece ty40_1 ej8 (cx_p t) hj8 ix48 tn_8 (by omega) (by omega) (by omega) wR145_y40_1 (wg_fn wG_y40_1 (fun j h1 h2 => by (try dsimp only) <;> omega))) ?_
          rintro y49 y49r uy49'
          have uy49 : Up mu 144 y40_1 y40_1r y49 y49r := uy49'
          have ty49 := cx_up ty40_1 uy49
          have wG_y49 := wg_up uy49 wG_y40_1
          have wE_y49 := wg_up uy49 wE_y40_1
          have wR145_y49 := rw_up uy49 wR145_y40_1
          have wP145_0_y49 := ag_up uy49 wP145_0_y40_1
          refine rl_ltI (av_add is14_1 tn_1 (by omega) (by omega)) (fun x50 ix50 => ?_)
          exact rl_inl ⟨rfl, (ti_bd ix50 (by omega) (by omega)), (up_tr (up_tr (up_tr (up_tr (up_tr (up_tr us14_2 uy26_1) uy27) uy30_1) uM37) uy40_1) uy49)⟩
      · exact ⟨rfl, (ti_bd tn_0 (by omega) (by omega)), (up_0 mu (κ := 144) _ _)⟩
      · rintro ⟨y13_1, y13_2⟩ ⟨y13_1r, y13_2r⟩ ⟨ey13_1, ly13_1, uy13_2⟩
        obtain rfl : y13_1 = y13_1r := ey13_1
        have ly13_1 : 0 ≤ y13_1.toInt ∧ y13_1.toInt ≤ 4 := ly13_1
        have iy13_1 : TI y13_1 y13_1.toInt := rfl
        have uy13_2 : Up mu 144 y12 y12r y13_2 y13_2r := uy13_2
        have ty13_2 := cx_up ty12 uy13_2
        have wG_y13_2 := wg_up uy13_2 wG_y12
        have wE_y13_2 := wg_up uy13_2 vE_y12
        refine rl_ltI (av_add is2_1 tn_1 (by omega) (by omega)) (fun x16 ix16 => ?_)
        exact rl_inl ⟨rfl, (ti_bd ix16 (by omega) (by omega)), (up_tr (up_tr (up_tr (up_tr us2_2 uy8_1) uM11) uy12) uy13_2)⟩
  · exact ⟨rfl, (ti_bd tn_1 (by omega) (by omega)), (up_0 mu (κ := 144) _ _)⟩
  · rintro ⟨y1_1, y1_2⟩ ⟨y1_1r, y1_2r⟩ ⟨ey1_1, ly1_1, uy1_2⟩
    obtain rfl : y1_1 = y1_1r := ey1_1
    have ly1_1 : 1 ≤ y1_1.toInt ∧ y1_1.toInt ≤ 3 := ly1_1
    have iy1_1 : TI y1_1 y1_1.toInt := rfl
    have uy1_2 : Up mu 144 M N y1_2 y1_2r := uy1_2
    have ty1_2 := cx_up t uy1_2
    have wG_y1_2 := wg_up uy1_2 hG
    exact rl_some uy1_2
theorem r_fillRaw {mu : Nat → Nat} {G H : GG} {M N : DD} {p : Nat} {L : List Nat} (t : CX mu G H M N p L) {p0 p0r : Option Nat} (e0 : p0 = some 125 ∧ p0r = some (mu 125)) {p1 : Int32} (hG : WG mu M N 139 0 384 (fun j => j)) : LKS (FX6_fillRaw G M 138 p0 p1) (FX6_fillRaw H N (mu 138) p0r p1) (fun y z => Up mu 144 M N y z) := by
  unfold FX6_fillRaw
  obtain ⟨rfl, rfl⟩ := e0
  refine rl_bnd (Q := fun (y z : Int32 × DD) => y.1 = z.1 ∧ (0 ≤ y.1.toInt ∧ y.1.toInt ≤ 16) ∧ Up mu 144 M N y.2 z.2) (rl_itr (fun (y z : Int32 × DD) => y.1 = z.1 ∧ (0 ≤ y.1.toInt ∧ y.1.toInt ≤ 16) ∧ Up mu 144 M N y.2 z.2) _ ?_ _ _ _ ?_) ?_
  · rintro ⟨s2_1, s2_2⟩ ⟨s2_1r, s2_2r⟩ ⟨es2_1, ls2_1, us2_2⟩
    obtain rfl : s2_1 = s2_1r := es2_1
    have ls2_1 : 0 ≤ s2_1.toInt ∧ s2_1.toInt ≤ 16 := ls2_1
    have is2_1 : TI s2_1 s2_1.toInt := rfl
    have us2_2 : Up mu 144 M N s2_2 s2_2r := us2_2
    have ts2_2 := cx_up t us2_2
    have wG_s2_2 := wg_up us2_2 hG
    refine rl_if (fun c1 => ?_) (fun c1 => ?_)
    · have dc1 := tl_le tn_16 is2_1 c1
      exact rl_inr ⟨rfl, (ti_bd is2_1 (by omega) (by omega)), us2_2⟩
    · have dc1 := tl_nle tn_16 is2_1 c1
      refine rl_ltI (av_mul tn_16 is2_1 (by omega) (by omega)) (fun x29 ix29 => ?_)
      refine rl_dr (cx_U ts2_2) ⟨rfl, rfl⟩ (fun gb30 => ?_)
      refine rl_dr (cx_U ts2_2) (rx_p ts2_2) (fun gb31 => ?_)
      refine rl_dr (cx_U ts2_2) (rx_4 ts2_2 (cx_p t)) (fun gb32 => ?_)
      refine rl_chk (chkl (cx_U ts2_2) gb32) (fun k2 => ?_)
      refine rl_bnd (r_lumaAt ts2_2 (rx_p ts2_2) (cx_p t)) ?_
      rintro ⟨y33_1, y33_2⟩ ⟨y33_1r, y33_2r⟩ ⟨uy33_1', ey33_2⟩
      have uy33_1 : Up mu 144 s2_2 s2_2r y33_1 y33_1r := uy33_1'
      have ty33_1 := cx_up ts2_2 uy33_1
      have wG_y33_1 := wg_up uy33_1 wG_s2_2
      obtain rfl : y33_2 = y33_2r := ey33_2
      refine rl_dr (cx_U ty33_1) (rx_c (a := 138) (k := 0) (b := 139) ts2_2 (Or.inr (Or.inl rfl)) rfl (by decide)) (fun gb34 => ?_)
      refine rl_dr (cx_U ty33_1) (rx_d0 ts2_2 (cx_p t)) (fun gb35 => ?_)
      refine rl_chk (chkc (cx_U ty33_1) gb34 gb35) (fun k3 => ?_)
      refine rl_cpy (κ := 144) (cx_U ty33_1) (by have := cx_q0 ty33_1 (cx_p t); omega) (wg_src 16 wG_y33_1 ix29 (by omega) (by omega) (by omega)) (fun M36 M36r uM36 AM36 => ?_)
      have tM36 := cx_up ty33_1 uM36
      have wG_M36 := wg_up uM36 wG_y33_1
      refine rl_ltI (av_add is2_1 tn_1 (by omega) (by omega)) (fun x37 ix37 => ?_)
      exact rl_inl ⟨rfl, (ti_bd ix37 (by omega) (by omega)), (up_tr (up_tr us2_2 uy33_1) uM36)⟩
  · exact ⟨rfl, (ti_bd tn_0 (by omega) (by omega)), (up_0 mu (κ := 144) _ _)⟩
  · rintro ⟨y1_1, y1_2⟩ ⟨y1_1r, y1_2r⟩ ⟨ey1_1, ly1_1, uy1_2⟩
    obtain rfl : y1_1 = y1_1r := ey1_1
    have ly1_1 : 0 ≤ y1_1.toInt ∧ y1_1.toInt ≤ 16 := ly1_1
    have iy1_1 : TI y1_1 y1_1.toInt := rfl
    have uy1_2 : Up mu 144 M N y1_2 y1_2r := uy1_2
    have ty1_2 := cx_up t uy1_2
    have wG_y1_2 := wg_up uy1_2 hG
    refine rl_bnd (Q := fun (y z : Int32 × DD) => y.1 = z.1 ∧ (1 ≤ y.1.toInt ∧ y.1.toInt ≤ 3) ∧ Up mu 144 y1_2 y1_2r y.2 z.2) (rl_itr (fun (y z : Int32 × DD) => y.1 = z.1 ∧ (1 ≤ y.1.toInt ∧ y.1.toInt ≤ 3) ∧ Up mu 144 y1_2 y1_2r y.2 z.2) _ ?_ _ _ _ ?_) ?_
    · rintro ⟨s5_1, s5_2⟩ ⟨s5_1r, s5_2r⟩ ⟨es5_1, ls5_1, us5_2⟩
      obtain rfl : s5_1 = s5_1r := es5_1
      have ls5_1 : 1 ≤ s5_1.toInt ∧ s5_1.toInt ≤ 3 := ls5_1
      have is5_1 : TI s5_1 s5_1.toInt := rfl
      have us5_2 : Up mu 144 y1_2 y1_2r s5_2 s5_2r := us5_2
      have ts5_2 := cx_up ty1_2 us5_2
      have wG_s5_2 := wg_up us5_2 wG_y1_2
      refine rl_if (fun c4 => ?_) (fun c4 => ?_)
      · have dc4 := tl_le tn_3 is5_1 c4
        exact rl_inr ⟨rfl, (ti_bd is5_1 (by omega) (by omega)), us5_2⟩
      · have dc4 := tl_nle tn_3 is5_1 c4
        refine rl_bnd (Q := fun (y z : Int32 × DD) => y.1 = z.1 ∧ (0 ≤ y.1.toInt ∧ y.1.toInt ≤ 8) ∧ Up mu 144 s5_2 s5_2r y.2 z.2) (rl_itr (fun (y z : Int32 × DD) => y.1 = z.1 ∧ (0 ≤ y.1.toInt ∧ y.1.toInt ≤ 8) ∧ Up mu 144 s5_2 s5_2r y.2 z.2) _ ?_ _ _ _ ?_) ?_
        · rintro ⟨s10_1, s10_2⟩ ⟨s10_1r, s10_2r⟩ ⟨es10_1, ls10_1, us10_2⟩
          obtain rfl : s10_1 = s10_1r := es10_1
          have ls10_1 : 0 ≤ s10_1.toInt ∧ s10_1.toInt ≤ 8 := ls10_1
          have is10_1 : TI s10_1 s10_1.toInt := rfl
          have us10_2 : Up mu 144 s5_2 s5_2r s10_2 s10_2r := us10_2
          have ts10_2 := cx_up ts5_2 us10_2
          have wG_s10_2 := wg_up us10_2 wG_s5_2
          refine rl_if (fun c5 => ?_) (fun c5 => ?_)
          · have dc5 := tl_le tn_8 is10_1 c5
            exact rl_inr ⟨rfl, (ti_bd is10_1 (by omega) (by omega)), us10_2⟩
          · have dc5 := tl_nle tn_8 is10_1 c5
            refine rl_ltI (av_mul tn_64 is5_1 (by omega) (by omega)) (fun x15 ix15 => ?_)
            refine rl_ltI (av_add tn_192 ix15 (by omega) (by omega)) (fun x16 ix16 => ?_)
            refine rl_ltI (av_mul tn_8 is10_1 (by omega) (by omega)) (fun x17 ix17 => ?_)
            refine rl_ltI (av_add ix16 ix17 (by omega) (by omega)) (fun x18 ix18 => ?_)
            refine rl_dr (cx_U ts10_2) ⟨rfl, rfl⟩ (fun gb19 => ?_)
            refine rl_dr (cx_U ts10_2) (rx_p ts10_2) (fun gb20 => ?_)
            refine rl_dr (cx_U ts10_2) (rx_4 ts10_2 (cx_p t)) (fun gb21 => ?_)
            refine rl_chk (chkl (cx_U ts10_2) gb21) (fun k6 => ?_)
            refine rl_bnd (r_colourAt ts10_2 (rx_p ts10_2) (cx_p t)) ?_
            rintro ⟨y22_1, y22_2⟩ ⟨y22_1r, y22_2r⟩ ⟨uy22_1', ey22_2⟩
            have uy22_1 : Up mu 144 s10_2 s10_2r y22_1 y22_1r := uy22_1'
            have ty22_1 := cx_up ts10_2 uy22_1
            have wG_y22_1 := wg_up uy22_1 wG_s10_2
            obtain rfl : y22_2 = y22_2r := ey22_2
            refine rl_dr (cx_U ty22_1) (rx_c (a := 138) (k := 0) (b := 139) ts10_2 (Or.inr (Or.inl rfl)) rfl (by decide)) (fun gb23 => ?_)
            obtain ⟨j7, hj7, ej7⟩ := rx_dv ts10_2 (cx_p t) is5_1 (by omega) (by omega)
            refine rl_dr (cx_U ty22_1) ej7 (fun gb24 => ?_)
            refine rl_chk (chkc (cx_U ty22_1) gb23 gb24) (fun k8 => ?_)
            refine rl_cpy (κ := 144) (cx_U ty22_1) (by have := cx_q0 ty22_1 (cx_p t); omega) (wg_src 8 wG_y22_1 ix18 (by omega) (by omega) (by omega)) (fun M25 M25r uM25 AM25 => ?_)
            have tM25 := cx_up ty22_1 uM25
            have wG_M25 := wg_up uM25 wG_y22_1
            refine rl_ltI (av_add is10_1 tn_1 (by omega) (by omega)) (fun x26 ix26 => ?_)
            exact rl_inl ⟨rfl, (ti_bd ix26 (by omega) (by omega)), (up_tr (up_tr us10_2 uy22_1) uM25)⟩
        · exact ⟨rfl, (ti_bd tn_0 (by omega) (by omega)), (up_0 mu (κ := 144) _ _)⟩
        · rintro ⟨y9_1, y9_2⟩ ⟨y9_1r, y9_2r⟩ ⟨ey9_1, ly9_1, uy9_2⟩
          obtain rfl : y9_1 = y9_1r := ey9_1
          have ly9_1 : 0 ≤ y9_1.toInt ∧ y9_1.toInt ≤ 8 := ly9_1
          have iy9_1 : TI y9_1 y9_1.toInt := rfl
          have uy9_2 : Up mu 144 s5_2 s5_2r y9_2 y9_2r := uy9_2
          have ty9_2 := cx_up ts5_2 uy9_2
          have wG_y9_2 := wg_up uy9_2 wG_s5_2
          refine rl_ltI (av_add is5_1 tn_1 (by omega) (by omega)) (fun x12 ix12 => ?_)
          exact rl_inl ⟨rfl, (ti_bd ix12 (by omega) (by omega)), (up_tr us5_2 uy9_2)⟩
    · exact ⟨rfl, (ti_bd tn_1 (by omega) (by omega)), (up_0 mu (κ := 144) _ _)⟩
    · rintro ⟨y4_1, y4_2⟩ ⟨y4_1r, y4_2r⟩ ⟨ey4_1, ly4_1, uy4_2⟩
      obtain rfl : y4_1 = y4_1r := ey4_1
      have ly4_1 : 1 ≤ y4_1.toInt ∧ y4_1.toInt ≤ 3 := ly4_1
      have iy4_1 : TI y4_1 y4_1.toInt := rfl
      have uy4_2 : Up mu 144 y1_2 y1_2r y4_2 y4_2r := uy4_2
      have ty4_2 := cx_up ty1_2 uy4_2
      have wG_y4_2 := wg_up uy4_2 wG_y1_2
      exact rl_some (up_tr uy1_2 uy4_2)
theorem r_takeSides {mu : Nat → Nat} {G H : GG} {M N : DD} {p : Nat} {L : List Nat} (t : CX mu G H M N p L) {p0 p0r : Option Nat} {q0 j0 : Nat} (e0 : p0 = some (q0 + j0) ∧ p0r = some (mu (q0 + j0))) (hq0 : q0 ∈ L) (hj0 : j0 = 9 ∨ j0 = 10 ∨ j0 = 11) {p1 : Int32} {p2 : Int32} {p3 : Int32} {a3 : Int} (i3 : TI p3 a3) {p4 : Int32} (h0 : a3 = 8 ∨ a3 = 16) : LKS (FX6_takeSides G M 138 p0 p1 p2 p3 p4) (FX6_takeSides H N (mu 138) p0r p1 p2 p3 p4) (fun y z => Up mu 144 M N y z ∧ WG mu y z 147 0 (2 * a3 + 2) (fun j => j)) := by
  unfold FX6_takeSides
  obtain ⟨rfl, rfl⟩ := e0
  rcases h0 with rfl | rfl
  · refine rl_ltA (fun x1 => ?_)
    refine rl_bnd (Q := fun (y z : Int32) => y = z) ?_ ?_
    · refine rl_if (fun c1 => ?_) (fun c1 => ?_)
      · have dc1 := tl_eq (rfl : TI x1 x1.toInt) tn_0 c1
        exact rl_some rfl
      · refine rl_ltA (fun x37 => ?_)
        refine rl_ltA (fun x38 => ?_)
        refine rl_dr (cx_U t) ⟨rfl, rfl⟩ (fun gb39 => ?_)
        refine rl_chk (chkl (cx_U t) gb39) (fun k2 => ?_)
        refine rl_rd (cx_pl t hq0 hj0 _) (fun x40 => ?_)
        exact rl_some rfl
    · rintro y2 y2r ey2
      obtain rfl : y2 = y2r := ey2
      refine rl_dr (cx_U t) (rx_c (a := 138) (k := 8) (b := 147) t (Or.inr (Or.inl rfl)) rfl (by decide)) (fun gb3 => ?_)
      refine rl_chk (chkl (cx_U t) gb3) (fun k3 => ?_)
      refine rl_w (κ := 144) (cx_U t) (by decide) (fun M4 M4r uM4 AM4 nM4 => ?_)
      have tM4 := cx_up t uM4
      refine rl_ltI (av_add i3 tn_1 (by omega) (by omega)) (fun x5 ix5 => ?_)
      refine rl_dr (cx_U tM4) (rx_c (a := 138) (k := 8) (b := 147) tM4 (Or.inr (Or.inl rfl)) rfl (by decide)) (fun gb6 => ?_)
      refine rl_chk (chkl (cx_U tM4) gb6) (fun k4 => ?_)
      refine rl_w (κ := 144) (cx_U tM4) (by decide) (fun M7 M7r uM7 AM7 nM7 => ?_)
      have tM7 := cx_up tM4 uM7
      have wP147_0_M7 := ag_up uM7 AM4
      have wk_M7 : Ag mu M7 M7r 147 ((8 : Int) + 1).toNat := by rw [← ti_n ix5]; exact AM7
      have kp3 : p3.toInt = _ := i3
      refine rl_bnd (Q := fun (y z : Int32 × DD) => y.1 = z.1 ∧ (0 ≤ y.1.toInt ∧ y.1.toInt ≤ p3.toInt) ∧ Up mu 144 M7 M7r y.2 z.2 ∧ WG mu y.2 z.2 147 (0) (8) (fun j => 1 + j) ∧ WG mu y.2 z.2 147 (0) (8) (fun j => 8 + 2 + j)) (rl_itr (fun (y z : Int32 × DD) => y.1 = z.1 ∧ (0 ≤ y.1.toInt ∧ y.1.toInt ≤ p3.toInt) ∧ Up mu 144 M7 M7r y.2 z.2 ∧ WG mu y.2 z.2 147 (0) (y.1.toInt) (fun j => 1 + j) ∧ WG mu y.2 z.2 147 (0) (y.1.toInt) (fun j => 8 + 2 + j)) _ ?_ _ _ _ ?_) ?_
      · rintro ⟨s9_1, s9_2⟩ ⟨s9_1r, s9_2r⟩ ⟨es9_1, ls9_1, us9_2, va_s9_2, vb_s9_2⟩
        obtain rfl : s9_1 = s9_1r := es9_1
        have ls9_1 : 0 ≤ s9_1.toInt ∧ s9_1.toInt ≤ p3.toInt := ls9_1
        have is9_1 : TI s9_1 s9_1.toInt := rfl
        have us9_2 : Up mu 144 M7 M7r s9_2 s9_2r := us9_2
        have ts9_2 := cx_up tM7 us9_2
        have wP147_0_s9_2 := ag_up us9_2 wP147_0_M7
        have wk_s9_2 := ag_up us9_2 wk_M7
        have va_s9_2 : WG mu s9_2 s9_2r 147 (0) (s9_1.toInt) (fun j => 1 + j) := va_s9_2
        have vb_s9_2 : WG mu s9_2 s9_2r 147 (0) (s9_1.toInt) (fun j => 8 + 2 + j) := vb_s9_2
        refine rl_if (fun c5 => ?_) (fun c5 => ?_)
        · have dc5 := tl_le i3 is9_1 c5
          exact rl_inr ⟨rfl, (ti_bd is9_1 (by omega) (by omega)), us9_2, (wg_sub va_s9_2 (by omega) (by omega)), (wg_sub vb_s9_2 (by omega) (by omega))⟩
        · have dc5 := tl_nle i3 is9_1 c5
          refine rl_ltI (av_add tn_1 is9_1 (by omega) (by omega)) (fun x13 ix13 => ?_)
          refine rl_ltA (fun x14 => ?_)
          refine rl_bnd (Q := fun (y z : Int32) => y = z) ?_ ?_
          · refine rl_if (fun c6 => ?_) (fun c6 => ?_)
            · have dc6 := tl_eq (rfl : TI x14 x14.toInt) tn_0 c6
              exact rl_some rfl
            · refine rl_ltA (fun x32 => ?_)
              refine rl_ltA (fun x33 => ?_)
              refine rl_dr (cx_U ts9_2) ⟨rfl, rfl⟩ (fun gb34 => ?_)
              refine rl_chk (chkl (cx_U ts9_2) gb34) (fun k7 => ?_)
              refine rl_rd (cx_pl ts9_2 hq0 hj0 _) (fun x35 => ?_)
              exact rl_some rfl
          · rintro y15 y15r ey15
            obtain rfl : y15 = y15r := ey15
            refine rl_dr (cx_U ts9_2) (rx_c (a := 138) (k := 8) (b := 147) ts9_2 (Or.inr (Or.inl rfl)) rfl (by decide)) (fun gb16 => ?_)
            refine rl_chk (chkl (cx_U ts9_2) gb16) (fun k8 => ?_)
            refine rl_w (κ := 144) (cx_U ts9_2) (by decide) (fun M17 M17r uM17 AM17 nM17 => ?_)
            have tM17 := cx_up ts9_2 uM17
            have wP147_0_M17 := ag_up uM17 wP147_0_s9_2
            have wk_M17 := ag_up uM17 wk_s9_2
            have wa_M17 := wg_up uM17 va_s9_2
            have wb_M17 := wg_up uM17 vb_s9_2
            refine rl_ltI (av_add i3 tn_2 (by omega) (by omega)) (fun x18 ix18 => ?_)
            refine rl_ltI (av_add ix18 is9_1 (by omega) (by omega)) (fun x19 ix19 => ?_)
            refine rl_ltI (av_and 1 (rfl : TI p4 p4.toInt) (by decide) (by decide)) (fun x20 ix20 => ?_)
            refine rl_bnd (Q := fun (y z : Int32) => y = z) ?_ ?_
            · refine rl_if (fun c9 => ?_) (fun c9 => ?_)
              · have dc9 := tl_eq ix20 tn_0 c9
                exact rl_some rfl
              · refine rl_ltA (fun x26 => ?_)
                refine rl_ltA (fun x27 => ?_)
                refine rl_ltA (fun x28 => ?_)
                refine rl_dr (cx_U tM17) ⟨rfl, rfl⟩ (fun gb29 => ?_)
                refine rl_chk (chkl (cx_U tM17) gb29) (fun k10 => ?_)
                refine rl_rd (cx_pl tM17 hq0 hj0 _) (fun x30 => ?_)
                exact rl_some rfl
            · rintro y21 y21r ey21
              obtain rfl : y21 = y21r := ey21
              refine rl_dr (cx_U tM17) (rx_c (a := 138) (k := 8) (b := 147) tM17 (Or.inr (Or.inl rfl)) rfl (by decide)) (fun gb22 => ?_)
              refine rl_chk (chkl (cx_U tM17) gb22) (fun k11 => ?_)
              refine rl_w (κ := 144) (cx_U tM17) (by decide) (fun M23 M23r uM23 AM23 nM23 => ?_)
              have tM23 := cx_up tM17 uM23
              have wP147_0_M23 := ag_up uM23 wP147_0_M17
              have wk_M23 := ag_up uM23 wk_M17
              have wa_M23 := wg_up uM23 wa_M17
              have wb_M23 := wg_up uM23 wb_M17
              refine rl_ltI (av_add is9_1 tn_1 (by omega) (by omega)) (fun x24 ix24 => ?_)
              exact rl_inl ⟨rfl, (ti_bd ix24 (by omega) (by omega)), (up_tr (up_tr us9_2 uM17) uM23), (wg_ext wa_M23 ix13 (ag_up uM23 AM17) (by (try dsimp only) <;> omega) (by have q : _ = _ := ix24; (try dsimp only) <;> omega)), (wg_ext wb_M23 ix19 (ag_up (up_0 mu (κ := 144) _ _) AM23) (by (try dsimp only) <;> omega) (by have q : _ = _ := ix24; (try dsimp only) <;> omega))⟩
      · exact ⟨rfl, (ti_bd tn_0 (by omega) (by omega)), (up_0 mu (κ := 144) _ _), (wg_0 (by have q : _ = _ := tn_0; (try dsimp only) <;> omega)), (wg_0 (by have q : _ = _ := tn_0; (try dsimp only) <;> omega))⟩
      · rintro ⟨y8_1, y8_2⟩ ⟨y8_1r, y8_2r⟩ ⟨ey8_1, ly8_1, uy8_2, va_y8_2, vb_y8_2⟩
        obtain rfl : y8_1 = y8_1r := ey8_1
        have ly8_1 : 0 ≤ y8_1.toInt ∧ y8_1.toInt ≤ p3.toInt := ly8_1
        have iy8_1 : TI y8_1 y8_1.toInt := rfl
        have uy8_2 : Up mu 144 M7 M7r y8_2 y8_2r := uy8_2
        have ty8_2 := cx_up tM7 uy8_2
        have wP147_0_y8_2 := ag_up uy8_2 wP147_0_M7
        have wk_y8_2 := ag_up uy8_2 wk_M7
        have va_y8_2 : WG mu y8_2 y8_2r 147 (0) (8) (fun j => 1 + j) := va_y8_2
        have vb_y8_2 : WG mu y8_2 y8_2r 147 (0) (8) (fun j => 8 + 2 + j) := vb_y8_2
        exact rl_some ⟨(up_tr (up_tr uM4 uM7) uy8_2), (wg_sd va_y8_2 vb_y8_2 wP147_0_y8_2 wk_y8_2 (by omega))⟩
  · refine rl_ltA (fun x1 => ?_)
    refine rl_bnd (Q := fun (y z : Int32) => y = z) ?_ ?_
    · refine rl_if (fun c1 => ?_) (fun c1 => ?_)
      · have dc1 := tl_eq (rfl : TI x1 x1.toInt) tn_0 c1
        exact rl_some rfl
      · refine rl_ltA (fun x37 => ?_)
        refine rl_ltA (fun x38 => ?_)
        refine rl_dr (cx_U t) ⟨rfl, rfl⟩ (fun gb39 => ?_)
        refine rl_chk (chkl (cx_U t) gb39) (fun k2 => ?_)
        refine rl_rd (cx_pl t hq0 hj0 _) (fun x40 => ?_)
        exact rl_some rfl
    · rintro y2 y2r ey2
      obtain rfl : y2 = y2r := ey2
      refine rl_dr (cx_U t) (rx_c (a := 138) (k := 8) (b := 147) t (Or.inr (Or.inl rfl)) rfl (by decide)) (fun gb3 => ?_)
      refine rl_chk (chkl (cx_U t) gb3) (fun k3 => ?_)
      refine rl_w (κ := 144) (cx_U t) (by decide) (fun M4 M4r uM4 AM4 nM4 => ?_)
      have tM4 := cx_up t uM4
      refine rl_ltI (av_add i3 tn_1 (by omega) (by omega)) (fun x5 ix5 => ?_)
      refine rl_dr (cx_U tM4) (rx_c (a := 138) (k := 8) (b := 147) tM4 (Or.inr (Or.inl rfl)) rfl (by decide)) (fun gb6 => ?_)
      refine rl_chk (chkl (cx_U tM4) gb6) (fun k4 => ?_)
      refine rl_w (κ := 144) (cx_U tM4) (by decide) (fun M7 M7r uM7 AM7 nM7 => ?_)
      have tM7 := cx_up tM4 uM7
      have wP147_0_M7 := ag_up uM7 AM4
      have wk_M7 : Ag mu M7 M7r 147 ((16 : Int) + 1).toNat := by rw [← ti_n ix5]; exact AM7
      have kp3 : p3.toInt = _ := i3
      refine rl_bnd (Q := fun (y z : Int32 × DD) => y.1 = z.1 ∧ (0 ≤ y.1.toInt ∧ y.1.toInt ≤ p3.toInt) ∧ Up mu 144 M7 M7r y.2 z.2 ∧ WG mu y.2 z.2 147 (0) (16) (fun j => 1 + j) ∧ WG mu y.2 z.2 147 (0) (16) (fun j => 16 + 2 + j)) (rl_itr (fun (y z : Int32 × DD) => y.1 = z.1 ∧ (0 ≤ y.1.toInt ∧ y.1.toInt ≤ p3.toInt) ∧ Up mu 144 M7 M7r y.2 z.2 ∧ WG mu y.2 z.2 147 (0) (y.1.toInt) (fun j => 1 + j) ∧ WG mu y.2 z.2 147 (0) (y.1.toInt) (fun j => 16 + 2 + j)) _ ?_ _ _ _ ?_) ?_
      · rintro ⟨s9_1, s9_2⟩ ⟨s9_1r, s9_2r⟩ ⟨es9_1, ls9_1, us9_2, va_s9_2, vb_s9_2⟩
        obtain rfl : s9_1 = s9_1r := es9_1
        have ls9_1 : 0 ≤ s9_1.toInt ∧ s9_1.toInt ≤ p3.toInt := ls9_1
        have is9_1 : TI s9_1 s9_1.toInt := rfl
        have us9_2 : Up mu 144 M7 M7r s9_2 s9_2r := us9_2
        have ts9_2 := cx_up tM7 us9_2
        have wP147_0_s9_2 := ag_up us9_2 wP147_0_M7
        have wk_s9_2 := ag_up us9_2 wk_M7
        have va_s9_2 : WG mu s9_2 s9_2r 147 (0) (s9_1.toInt) (fun j => 1 + j) := va_s9_2
        have vb_s9_2 : WG mu s9_2 s9_2r 147 (0) (s9_1.toInt) (fun j => 16 + 2 + j) := vb_s9_2
        refine rl_if (fun c5 => ?_) (fun c5 => ?_)
        · have dc5 := tl_le i3 is9_1 c5
          exact rl_inr ⟨rfl, (ti_bd is9_1 (by omega) (by omega)), us9_2, (wg_sub va_s9_2 (by omega) (by omega)), (wg_sub vb_s9_2 (by omega) (by omega))⟩
        · have dc5 := tl_nle i3 is9_1 c5
          refine rl_ltI (av_add tn_1 is9_1 (by omega) (by omega)) (fun x13 ix13 => ?_)
          refine rl_ltA (fun x14 => ?_)
          refine rl_bnd (Q := fun (y z : Int32) => y = z) ?_ ?_
          · refine rl_if (fun c6 => ?_) (fun c6 => ?_)
            · have dc6 := tl_eq (rfl : TI x14 x14.toInt) tn_0 c6
              exact rl_some rfl
            · refine rl_ltA (fun x32 => ?_)
              refine rl_ltA (fun x33 => ?_)
              refine rl_dr (cx_U ts9_2) ⟨rfl, rfl⟩ (fun gb34 => ?_)
              refine rl_chk (chkl (cx_U ts9_2) gb34) (fun k7 => ?_)
              refine rl_rd (cx_pl ts9_2 hq0 hj0 _) (fun x35 => ?_)
              exact rl_some rfl
          · rintro y15 y15r ey15
            obtain rfl : y15 = y15r := ey15
            refine rl_dr (cx_U ts9_2) (rx_c (a := 138) (k := 8) (b := 147) ts9_2 (Or.inr (Or.inl rfl)) rfl (by decide)) (fun gb16 => ?_)
            refine rl_chk (chkl (cx_U ts9_2) gb16) (fun k8 => ?_)
            refine rl_w (κ := 144) (cx_U ts9_2) (by decide) (fun M17 M17r uM17 AM17 nM17 => ?_)
            have tM17 := cx_up ts9_2 uM17
            have wP147_0_M17 := ag_up uM17 wP147_0_s9_2
            have wk_M17 := ag_up uM17 wk_s9_2
            have wa_M17 := wg_up uM17 va_s9_2
            have wb_M17 := wg_up uM17 vb_s9_2
            refine rl_ltI (av_add i3 tn_2 (by omega) (by omega)) (fun x18 ix18 => ?_)
            refine rl_ltI (av_add ix18 is9_1 (by omega) (by omega)) (fun x19 ix19 => ?_)
            refine rl_ltI (av_and 1 (rfl : TI p4 p4.toInt) (by decide) (by decide)) (fun x20 ix20 => ?_)
            refine rl_bnd (Q := fun (y z : Int32) => y = z) ?_ ?_
            · refine rl_if (fun c9 => ?_) (fun c9 => ?_)
              · have dc9 := tl_eq ix20 tn_0 c9
                exact rl_some rfl
              · refine rl_ltA (fun x26 => ?_)
                refine rl_ltA (fun x27 => ?_)
                refine rl_ltA (fun x28 => ?_)
                refine rl_dr (cx_U tM17) ⟨rfl, rfl⟩ (fun gb29 => ?_)
                refine rl_chk (chkl (cx_U tM17) gb29) (fun k10 => ?_)
                refine rl_rd (cx_pl tM17 hq0 hj0 _) (fun x30 => ?_)
                exact rl_some rfl
            · rintro y21 y21r ey21
              obtain rfl : y21 = y21r := ey21
              refine rl_dr (cx_U tM17) (rx_c (a := 138) (k := 8) (b := 147) tM17 (Or.inr (Or.inl rfl)) rfl (by decide)) (fun gb22 => ?_)
              refine rl_chk (chkl (cx_U tM17) gb22) (fun k11 => ?_)
              refine rl_w (κ := 144) (cx_U tM17) (by decide) (fun M23 M23r uM23 AM23 nM23 => ?_)
              have tM23 := cx_up tM17 uM23
              have wP147_0_M23 := ag_up uM23 wP147_0_M17
              have wk_M23 := ag_up uM23 wk_M17
              have wa_M23 := wg_up uM23 wa_M17
              have wb_M23 := wg_up uM23 wb_M17
              refine rl_ltI (av_add is9_1 tn_1 (by omega) (by omega)) (fun x24 ix24 => ?_)
              exact rl_inl ⟨rfl, (ti_bd ix24 (by omega) (by omega)), (up_tr (up_tr us9_2 uM17) uM23), (wg_ext wa_M23 ix13 (ag_up uM23 AM17) (by (try dsimp only) <;> omega) (by have q : _ = _ := ix24; (try dsimp only) <;> omega)), (wg_ext wb_M23 ix19 (ag_up (up_0 mu (κ := 144) _ _) AM23) (by (try dsimp only) <;> omega) (by have q : _ = _ := ix24; (try dsimp only) <;> omega))⟩
      · exact ⟨rfl, (ti_bd tn_0 (by omega) (by omega)), (up_0 mu (κ := 144) _ _), (wg_0 (by have q : _ = _ := tn_0; (try dsimp only) <;> omega)), (wg_0 (by have q : _ = _ := tn_0; (try dsimp only) <;> omega))⟩
      · rintro ⟨y8_1, y8_2⟩ ⟨y8_1r, y8_2r⟩ ⟨ey8_1, ly8_1, uy8_2, va_y8_2, vb_y8_2⟩
        obtain rfl : y8_1 = y8_1r := ey8_1
        have ly8_1 : 0 ≤ y8_1.toInt ∧ y8_1.toInt ≤ p3.toInt := ly8_1
        have iy8_1 : TI y8_1 y8_1.toInt := rfl
        have uy8_2 : Up mu 144 M7 M7r y8_2 y8_2r := uy8_2
        have ty8_2 := cx_up tM7 uy8_2
        have wP147_0_y8_2 := ag_up uy8_2 wP147_0_M7
        have wk_y8_2 := ag_up uy8_2 wk_M7
        have va_y8_2 : WG mu y8_2 y8_2r 147 (0) (16) (fun j => 1 + j) := va_y8_2
        have vb_y8_2 : WG mu y8_2 y8_2r 147 (0) (16) (fun j => 16 + 2 + j) := vb_y8_2
        exact rl_some ⟨(up_tr (up_tr uM4 uM7) uy8_2), (wg_sd va_y8_2 vb_y8_2 wP147_0_y8_2 wk_y8_2 (by omega))⟩
theorem r_fillPlane {mu : Nat → Nat} {G H : GG} {M N : DD} {p : Nat} {L : List Nat} (t : CX mu G H M N p L) {p0 : Int32} {a0 : Int} (i0 : TI p0 a0) {p1 : Int32} {a1 : Int} (i1 : TI p1 a1) {p2 : Int32} (h0 : 0 ≤ a0) (h1 : a0 ≤ 320) (h2 : a1 = 8 ∨ a1 = 16) (hA : WG mu M N 147 0 (2 * a1 + 2) (fun j => j)) : LKS (FX6_fillPlane G M 138 p0 p1 p2) (FX6_fillPlane H N (mu 138) p0 p1 p2) (fun y z => Up mu 144 M N y z ∧ WG mu y z 139 0 (a1 * a1) (fun j => a0 + j)) := by
  unfold FX6_fillPlane
  rcases h2 with rfl | rfl
  · refine rl_ltI (av_div i1 tn_2 (by omega) (by omega)) (fun x1 ix1 => ?_)
    refine rl_bnd (Q := fun (y z : Int32 × Int32 × Int32) => y.1 = z.1 ∧ y.2.1 = z.2.1 ∧ y.2.2 = z.2.2 ∧ (1 ≤ y.2.2.toInt ∧ y.2.2.toInt ≤ (8 / 2 + 1))) (rl_itr (fun (y z : Int32 × Int32 × Int32) => y.1 = z.1 ∧ y.2.1 = z.2.1 ∧ y.2.2 = z.2.2 ∧ (1 ≤ y.2.2.toInt ∧ y.2.2.toInt ≤ (8 / 2 + 1))) _ ?_ _ _ _ ?_) ?_
    · rintro ⟨s3_1, s3_2_1, s3_2_2⟩ ⟨s3_1r, s3_2_1r, s3_2_2r⟩ ⟨es3_1, es3_2_1, es3_2_2, ls3_2_2⟩
      obtain rfl : s3_1 = s3_1r := es3_1
      obtain rfl : s3_2_1 = s3_2_1r := es3_2_1
      obtain rfl : s3_2_2 = s3_2_2r := es3_2_2
      have ls3_2_2 : 1 ≤ s3_2_2.toInt ∧ s3_2_2.toInt ≤ (8 / 2 + 1) := ls3_2_2
      have is3_2_2 : TI s3_2_2 s3_2_2.toInt := rfl
      refine rl_if (fun c1 => ?_) (fun c1 => ?_)
      · have dc1 := tl_lt ix1 is3_2_2 c1
        exact rl_inr ⟨rfl, rfl, rfl, (ti_bd is3_2_2 (by omega) (by omega))⟩
      · have dc1 := tl_nlt ix1 is3_2_2 c1
        refine rl_ltI (av_add ix1 is3_2_2 (by omega) (by omega)) (fun x46 ix46 => ?_)
        refine rl_dr (cx_U t) (rx_c (a := 138) (k := 8) (b := 147) t (Or.inr (Or.inl rfl)) rfl (by decide)) (fun gb47 => ?_)
        refine rl_chk (chkl (cx_U t) gb47) (fun k2 => ?_)
        refine rl_rd (wg_id hA ix46 (by omega) (by omega)) (fun x48 => ?_)
        refine rl_ltI (av_sub ix1 is3_2_2 (by omega) (by omega)) (fun x49 ix49 => ?_)
        refine rl_chk (chkl (cx_U t) gb47) (fun k3 => ?_)
        refine rl_rd (wg_id hA ix49 (by omega) (by omega)) (fun x50 => ?_)
        refine rl_ltA (fun x51 => ?_)
        refine rl_ltA (fun x52 => ?_)
        refine rl_ltA (fun x53 => ?_)
        refine rl_ltI (av_add i1 tn_1 (by omega) (by omega)) (fun x54 ix54 => ?_)
        refine rl_ltI (av_add ix54 ix1 (by omega) (by omega)) (fun x55 ix55 => ?_)
        refine rl_ltI (av_add ix55 is3_2_2 (by omega) (by omega)) (fun x56 ix56 => ?_)
        refine rl_chk (chkl (cx_U t) gb47) (fun k4 => ?_)
        refine rl_rd (wg_id hA ix56 (by omega) (by omega)) (fun x57 => ?_)
        refine rl_ltI (av_add i1 tn_1 (by omega) (by omega)) (fun x58 ix58 => ?_)
        refine rl_ltI (av_add ix58 ix1 (by omega) (by omega)) (fun x59 ix59 => ?_)
        refine rl_ltI (av_sub ix59 is3_2_2 (by omega) (by omega)) (fun x60 ix60 => ?_)
        refine rl_chk (chkl (cx_U t) gb47) (fun k5 => ?_)
        refine rl_rd (wg_id hA ix60 (by omega) (by omega)) (fun x61 => ?_)
        refine rl_ltA (fun x62 => ?_)
        refine rl_ltA (fun x63 => ?_)
        refine rl_ltA (fun x64 => ?_)
        refine rl_ltI (av_add is3_2_2 tn_1 (by omega) (by omega)) (fun x65 ix65 => ?_)
        exact rl_inl ⟨rfl, rfl, rfl, (ti_bd ix65 (by omega) (by omega))⟩
    · exact ⟨rfl, rfl, rfl, (ti_bd tn_1 (by omega) (by omega))⟩
    · rintro ⟨y2_1, y2_2_1, y2_2_2⟩ ⟨y2_1r, y2_2_1r, y2_2_2r⟩ ⟨ey2_1, ey2_2_1, ey2_2_2, ly2_2_2⟩
      obtain rfl : y2_1 = y2_1r := ey2_1
      obtain rfl : y2_2_1 = y2_2_1r := ey2_2_1
      obtain rfl : y2_2_2 = y2_2_2r := ey2_2_2
      have ly2_2_2 : 1 ≤ y2_2_2.toInt ∧ y2_2_2.toInt ≤ (8 / 2 + 1) := ly2_2_2
      have iy2_2_2 : TI y2_2_2 y2_2_2.toInt := rfl
      refine rl_ltA (fun x5 => ?_)
      refine rl_ltA (fun x6 => ?_)
      refine rl_ltA (fun x7 => ?_)
      refine rl_ltA (fun x8 => ?_)
      refine rl_ltA (fun x9 => ?_)
      refine rl_ltA (fun x10 => ?_)
      refine rl_dr (cx_U t) (rx_c (a := 138) (k := 8) (b := 147) t (Or.inr (Or.inl rfl)) rfl (by decide)) (fun gb11 => ?_)
      refine rl_chk (chkl (cx_U t) gb11) (fun k6 => ?_)
      refine rl_rd (wg_id hA i1 (by omega) (by omega)) (fun x12 => ?_)
      refine rl_ltI (av_mul tn_2 i1 (by omega) (by omega)) (fun x13 ix13 => ?_)
      refine rl_ltI (av_add ix13 tn_1 (by omega) (by omega)) (fun x14 ix14 => ?_)
      refine rl_chk (chkl (cx_U t) gb11) (fun k7 => ?_)
      refine rl_rd (wg_id hA ix14 (by omega) (by omega)) (fun x15 => ?_)
      refine rl_ltA (fun x16 => ?_)
      refine rl_ltA (fun x17 => ?_)
      refine rl_bnd (Q := fun (y z : Int32 × DD) => y.1 = z.1 ∧ (0 ≤ y.1.toInt ∧ y.1.toInt ≤ (8 * 8)) ∧ Up mu 144 M N y.2 z.2 ∧ WG mu y.2 z.2 139 (0) (8 * 8) (fun j => a0 + j)) (rl_itr (fun (y z : Int32 × DD) => y.1 = z.1 ∧ (0 ≤ y.1.toInt ∧ y.1.toInt ≤ (8 * 8)) ∧ Up mu 144 M N y.2 z.2 ∧ WG mu y.2 z.2 139 (0) (y.1.toInt) (fun j => a0 + j)) _ ?_ _ _ _ ?_) ?_
      · rintro ⟨s19_1, s19_2⟩ ⟨s19_1r, s19_2r⟩ ⟨es19_1, ls19_1, us19_2, vG_s19_2⟩
        obtain rfl : s19_1 = s19_1r := es19_1
        have ls19_1 : 0 ≤ s19_1.toInt ∧ s19_1.toInt ≤ (8 * 8) := ls19_1
        have is19_1 : TI s19_1 s19_1.toInt := rfl
        have us19_2 : Up mu 144 M N s19_2 s19_2r := us19_2
        have ts19_2 := cx_up t us19_2
        have wA_s19_2 := wg_up us19_2 hA
        have vG_s19_2 : WG mu s19_2 s19_2r 139 (0) (s19_1.toInt) (fun j => a0 + j) := vG_s19_2
        refine rl_ltI (av_mul i1 i1 (by omega) (by omega)) (fun x22 ix22 => ?_)
        refine rl_if (fun c8 => ?_) (fun c8 => ?_)
        · have dc8 := tl_le ix22 is19_1 c8
          exact rl_inr ⟨rfl, (ti_bd is19_1 (by omega) (by omega)), us19_2, (wg_sub vG_s19_2 (by omega) (by omega))⟩
        · have dc8 := tl_nle ix22 is19_1 c8
          refine rl_chk (fun h => h) (fun k9 => ?_)
          refine rl_ltI (av_mod is19_1 i1 (by omega) (by omega)) (fun x24 ix24 => ?_)
          refine rl_ltI (av_sub ix24 ix1 (by omega) (by omega)) (fun x25 ix25 => ?_)
          refine rl_ltI (av_add ix25 tn_1 (by omega) (by omega)) (fun x26 ix26 => ?_)
          refine rl_chk (fun h => h) (fun k10 => ?_)
          refine rl_ltI (av_div is19_1 i1 (by omega) (by omega)) (fun x27 ix27 => ?_)
          refine rl_ltI (av_sub ix27 ix1 (by omega) (by omega)) (fun x28 ix28 => ?_)
          refine rl_ltI (av_add ix28 tn_1 (by omega) (by omega)) (fun x29 ix29 => ?_)
          refine rl_ltA (fun x30 => ?_)
          refine rl_ltA (fun x31 => ?_)
          refine rl_ltA (fun x32 => ?_)
          refine rl_ltA (fun x33 => ?_)
          refine rl_ltA (fun x34 => ?_)
          refine rl_ltA (fun x35 => ?_)
          refine rl_ltI (av_add i0 is19_1 (by omega) (by omega)) (fun x36 ix36 => ?_)
          refine rl_bnd (Q := fun (y z : Int32) => y = z ∧ (0 ≤ y.toInt ∧ y.toInt ≤ 255)) ?_ ?_
          · refine rl_if (fun c11 => ?_) (fun c11 => ?_)
            · have dc11 := tl_le tn_0 (rfl : TI x35 x35.toInt) c11
              refine rl_bnd (Q := fun (y z : Int32) => y = z ∧ (0 ≤ y.toInt ∧ y.toInt ≤ 255)) ?_ ?_
              · refine rl_if (fun c12 => ?_) (fun c12 => ?_)
                · have dc12 := tl_le (rfl : TI x35 x35.toInt) tn_255 c12
                  exact rl_some ⟨rfl, (ti_bd (rfl : TI x35 x35.toInt) (by omega) (by omega))⟩
                · have dc12 := tl_nle (rfl : TI x35 x35.toInt) tn_255 c12
                  exact rl_some ⟨rfl, (ti_bd tn_255 (by omega) (by omega))⟩
              · rintro y42 y42r ⟨ey42, ly42⟩
                obtain rfl : y42 = y42r := ey42
                have ly42 : 0 ≤ y42.toInt ∧ y42.toInt ≤ 255 := ly42
                have iy42 : TI y42 y42.toInt := rfl
                exact rl_some ⟨rfl, (ti_bd iy42 (by omega) (by omega))⟩
            · have dc11 := tl_nle tn_0 (rfl : TI x35 x35.toInt) c11
              exact rl_some ⟨rfl, (ti_bd tn_0 (by omega) (by omega))⟩
          · rintro y37 y37r ⟨ey37, ly37⟩
            obtain rfl : y37 = y37r := ey37
            have ly37 : 0 ≤ y37.toInt ∧ y37.toInt ≤ 255 := ly37
            have iy37 : TI y37 y37.toInt := rfl
            refine rl_dr (cx_U ts19_2) (rx_c (a := 138) (k := 0) (b := 139) ts19_2 (Or.inr (Or.inl rfl)) rfl (by decide)) (fun gb38 => ?_)
            refine rl_chk (chkl (cx_U ts19_2) gb38) (fun k13 => ?_)
            refine rl_w (κ := 144) (cx_U ts19_2) (by decide) (fun M39 M39r uM39 AM39 nM39 => ?_)
            have tM39 := cx_up ts19_2 uM39
            have wA_M39 := wg_up uM39 wA_s19_2
            have wG_M39 := wg_up uM39 vG_s19_2
            refine rl_ltI (av_add is19_1 tn_1 (by omega) (by omega)) (fun x40 ix40 => ?_)
            exact rl_inl ⟨rfl, (ti_bd ix40 (by omega) (by omega)), (up_tr us19_2 uM39), (wg_ext wG_M39 ix36 (ag_up (up_0 mu (κ := 144) _ _) AM39) (by (try dsimp only) <;> omega) (by have q : _ = _ := ix40; (try dsimp only) <;> omega))⟩
      · exact ⟨rfl, (ti_bd tn_0 (by omega) (by omega)), (up_0 mu (κ := 144) _ _), (wg_0 (by have q : _ = _ := tn_0; (try dsimp only) <;> omega))⟩
      · rintro ⟨y18_1, y18_2⟩ ⟨y18_1r, y18_2r⟩ ⟨ey18_1, ly18_1, uy18_2, vG_y18_2⟩
        obtain rfl : y18_1 = y18_1r := ey18_1
        have ly18_1 : 0 ≤ y18_1.toInt ∧ y18_1.toInt ≤ (8 * 8) := ly18_1
        have iy18_1 : TI y18_1 y18_1.toInt := rfl
        have uy18_2 : Up mu 144 M N y18_2 y18_2r := uy18_2
        have ty18_2 := cx_up t uy18_2
        have wA_y18_2 := wg_up uy18_2 hA
        have vG_y18_2 : WG mu y18_2 y18_2r 139 (0) (8 * 8) (fun j => a0 + j) := vG_y18_2
        exact rl_some ⟨uy18_2, vG_y18_2⟩
  · refine rl_ltI (av_div i1 tn_2 (by omega) (by omega)) (fun x1 ix1 => ?_)
    refine rl_bnd (Q := fun (y z : Int32 × Int32 × Int32) => y.1 = z.1 ∧ y.2.1 = z.2.1 ∧ y.2.2 = z.2.2 ∧ (1 ≤ y.2.2.toInt ∧ y.2.2.toInt ≤ (16 / 2 + 1))) (rl_itr (fun (y z : Int32 × Int32 × Int32) => y.1 = z.1 ∧ y.2.1 = z.2.1 ∧ y.2.2 = z.2.2 ∧ (1 ≤ y.2.2.toInt ∧ y.2.2.toInt ≤ (16 / 2 + 1))) _ ?_ _ _ _ ?_) ?_
    · rintro ⟨s3_1, s3_2_1, s3_2_2⟩ ⟨s3_1r, s3_2_1r, s3_2_2r⟩ ⟨es3_1, es3_2_1, es3_2_2, ls3_2_2⟩
      obtain rfl : s3_1 = s3_1r := es3_1
      obtain rfl : s3_2_1 = s3_2_1r := es3_2_1
      obtain rfl : s3_2_2 = s3_2_2r := es3_2_2
      have ls3_2_2 : 1 ≤ s3_2_2.toInt ∧ s3_2_2.toInt ≤ (16 / 2 + 1) := ls3_2_2
      have is3_2_2 : TI s3_2_2 s3_2_2.toInt := rfl
      refine rl_if (fun c1 => ?_) (fun c1 => ?_)
      · have dc1 := tl_lt ix1 is3_2_2 c1
        exact rl_inr ⟨rfl, rfl, rfl, (ti_bd is3_2_2 (by omega) (by omega))⟩
      · have dc1 := tl_nlt ix1 is3_2_2 c1
        refine rl_ltI (av_add ix1 is3_2_2 (by omega) (by omega)) (fun x46 ix46 => ?_)
        refine rl_dr (cx_U t) (rx_c (a := 138) (k := 8) (b := 147) t (Or.inr (Or.inl rfl)) rfl (by decide)) (fun gb47 => ?_)
        refine rl_chk (chkl (cx_U t) gb47) (fun k2 => ?_)
        refine rl_rd (wg_id hA ix46 (by omega) (by omega)) (fun x48 => ?_)
        refine rl_ltI (av_sub ix1 is3_2_2 (by omega) (by omega)) (fun x49 ix49 => ?_)
        refine rl_chk (chkl (cx_U t) gb47) (fun k3 => ?_)
        refine rl_rd (wg_id hA ix49 (by omega) (by omega)) (fun x50 => ?_)
        refine rl_ltA (fun x51 => ?_)
        refine rl_ltA (fun x52 => ?_)
        refine rl_ltA (fun x53 => ?_)
        refine rl_ltI (av_add i1 tn_1 (by omega) (by omega)) (fun x54 ix54 => ?_)
        refine rl_ltI (av_add ix54 ix1 (by omega) (by omega)) (fun x55 ix55 => ?_)
        refine rl_ltI (av_add ix55 is3_2_2 (by omega) (by omega)) (fun x56 ix56 => ?_)
        refine rl_chk (chkl (cx_U t) gb47) (fun k4 => ?_)
        refine rl_rd (wg_id hA ix56 (by omega) (by omega)) (fun x57 => ?_)
        refine rl_ltI (av_add i1 tn_1 (by omega) (by omega)) (fun x58 ix58 => ?_)
        refine rl_ltI (av_add ix58 ix1 (by omega) (by omega)) (fun x59 ix59 => ?_)
        refine rl_ltI (av_sub ix59 is3_2_2 (by omega) (by omega)) (fun x60 ix60 => ?_)
        refine rl_chk (chkl (cx_U t) gb47) (fun k5 => ?_)
        refine rl_rd (wg_id hA ix60 (by omega) (by omega)) (fun x61 => ?_)
        refine rl_ltA (fun x62 => ?_)
        refine rl_ltA (fun x63 => ?_)
        refine rl_ltA (fun x64 => ?_)
        refine rl_ltI (av_add is3_2_2 tn_1 (by omega) (by omega)) (fun x65 ix65 => ?_)
        exact rl_inl ⟨rfl, rfl, rfl, (ti_bd ix65 (by omega) (by omega))⟩
    · exact ⟨rfl, rfl, rfl, (ti_bd tn_1 (by omega) (by omega))⟩
    · rintro ⟨y2_1, y2_2_1, y2_2_2⟩ ⟨y2_1r, y2_2_1r, y2_2_2r⟩ ⟨ey2_1, ey2_2_1, ey2_2_2, ly2_2_2⟩
      obtain rfl : y2_1 = y2_1r := ey2_1
      obtain rfl : y2_2_1 = y2_2_1r := ey2_2_1
      obtain rfl : y2_2_2 = y2_2_2r := ey2_2_2
      have ly2_2_2 : 1 ≤ y2_2_2.toInt ∧ y2_2_2.toInt ≤ (16 / 2 + 1) := ly2_2_2
      have iy2_2_2 : TI y2_2_2 y2_2_2.toInt := rfl
      refine rl_ltA (fun x5 => ?_)
      refine rl_ltA (fun x6 => ?_)
      refine rl_ltA (fun x7 => ?_)
      refine rl_ltA (fun x8 => ?_)
      refine rl_ltA (fun x9 => ?_)
      refine rl_ltA (fun x10 => ?_)
      refine rl_dr (cx_U t) (rx_c (a := 138) (k := 8) (b := 147) t (Or.inr (Or.inl rfl)) rfl (by decide)) (fun gb11 => ?_)
      refine rl_chk (chkl (cx_U t) gb11) (fun k6 => ?_)
      refine rl_rd (wg_id hA i1 (by omega) (by omega)) (fun x12 => ?_)
      refine rl_ltI (av_mul tn_2 i1 (by omega) (by omega)) (fun x13 ix13 => ?_)
      refine rl_ltI (av_add ix13 tn_1 (by omega) (by omega)) (fun x14 ix14 => ?_)
      refine rl_chk (chkl (cx_U t) gb11) (fun k7 => ?_)
      refine rl_rd (wg_id hA ix14 (by omega) (by omega)) (fun x15 => ?_)
      refine rl_ltA (fun x16 => ?_)
      refine rl_ltA (fun x17 => ?_)
      refine rl_bnd (Q := fun (y z : Int32 × DD) => y.1 = z.1 ∧ (0 ≤ y.1.toInt ∧ y.1.toInt ≤ (16 * 16)) ∧ Up mu 144 M N y.2 z.2 ∧ WG mu y.2 z.2 139 (0) (16 * 16) (fun j => a0 + j)) (rl_itr (fun (y z : Int32 × DD) => y.1 = z.1 ∧ (0 ≤ y.1.toInt ∧ y.1.toInt ≤ (16 * 16)) ∧ Up mu 144 M N y.2 z.2 ∧ WG mu y.2 z.2 139 (0) (y.1.toInt) (fun j => a0 + j)) _ ?_ _ _ _ ?_) ?_
      · rintro ⟨s19_1, s19_2⟩ ⟨s19_1r, s19_2r⟩ ⟨es19_1, ls19_1, us19_2, vG_s19_2⟩
        obtain rfl : s19_1 = s19_1r := es19_1
        have ls19_1 : 0 ≤ s19_1.toInt ∧ s19_1.toInt ≤ (16 * 16) := ls19_1
        have is19_1 : TI s19_1 s19_1.toInt := rfl
        have us19_2 : Up mu 144 M N s19_2 s19_2r := us19_2
        have ts19_2 := cx_up t us19_2
        have wA_s19_2 := wg_up us19_2 hA
        have vG_s19_2 : WG mu s19_2 s19_2r 139 (0) (s19_1.toInt) (fun j => a0 + j) := vG_s19_2
        refine rl_ltI (av_mul i1 i1 (by omega) (by omega)) (fun x22 ix22 => ?_)
        refine rl_if (fun c8 => ?_) (fun c8 => ?_)
        · have dc8 := tl_le ix22 is19_1 c8
          exact rl_inr ⟨rfl, (ti_bd is19_1 (by omega) (by omega)), us19_2, (wg_sub vG_s19_2 (by omega) (by omega))⟩
        · have dc8 := tl_nle ix22 is19_1 c8
          refine rl_chk (fun h => h) (fun k9 => ?_)
          refine rl_ltI (av_mod is19_1 i1 (by omega) (by omega)) (fun x24 ix24 => ?_)
          refine rl_ltI (av_sub ix24 ix1 (by omega) (by omega)) (fun x25 ix25 => ?_)
          refine rl_ltI (av_add ix25 tn_1 (by omega) (by omega)) (fun x26 ix26 => ?_)
          refine rl_chk (fun h => h) (fun k10 => ?_)
          refine rl_ltI (av_div is19_1 i1 (by omega) (by omega)) (fun x27 ix27 => ?_)
          refine rl_ltI (av_sub ix27 ix1 (by omega) (by omega)) (fun x28 ix28 => ?_)
          refine rl_ltI (av_add ix28 tn_1 (by omega) (by omega)) (fun x29 ix29 => ?_)
          refine rl_ltA (fun x30 => ?_)
          refine rl_ltA (fun x31 => ?_)
          refine rl_ltA (fun x32 => ?_)
          refine rl_ltA (fun x33 => ?_)
          refine rl_ltA (fun x34 => ?_)
          refine rl_ltA (fun x35 => ?_)
          refine rl_ltI (av_add i0 is19_1 (by omega) (by omega)) (fun x36 ix36 => ?_)
          refine rl_bnd (Q := fun (y z : Int32) => y = z ∧ (0 ≤ y.toInt ∧ y.toInt ≤ 255)) ?_ ?_
          · refine rl_if (fun c11 => ?_) (fun c11 => ?_)
            · have dc11 := tl_le tn_0 (rfl : TI x35 x35.toInt) c11
              refine rl_bnd (Q := fun (y z : Int32) => y = z ∧ (0 ≤ y.toInt ∧ y.toInt ≤ 255)) ?_ ?_
              · refine rl_if (fun c12 => ?_) (fun c12 => ?_)
                · have dc12 := tl_le (rfl : TI x35 x35.toInt) tn_255 c12
                  exact rl_some ⟨rfl, (ti_bd (rfl : TI x35 x35.toInt) (by omega) (by omega))⟩
                · have dc12 := tl_nle (rfl : TI x35 x35.toInt) tn_255 c12
                  exact rl_some ⟨rfl, (ti_bd tn_255 (by omega) (by omega))⟩
              · rintro y42 y42r ⟨ey42, ly42⟩
                obtain rfl : y42 = y42r := ey42
                have ly42 : 0 ≤ y42.toInt ∧ y42.toInt ≤ 255 := ly42
                have iy42 : TI y42 y42.toInt := rfl
                exact rl_some ⟨rfl, (ti_bd iy42 (by omega) (by omega))⟩
            · have dc11 := tl_nle tn_0 (rfl : TI x35 x35.toInt) c11
              exact rl_some ⟨rfl, (ti_bd tn_0 (by omega) (by omega))⟩
          · rintro y37 y37r ⟨ey37, ly37⟩
            obtain rfl : y37 = y37r := ey37
            have ly37 : 0 ≤ y37.toInt ∧ y37.toInt ≤ 255 := ly37
            have iy37 : TI y37 y37.toInt := rfl
            refine rl_dr (cx_U ts19_2) (rx_c (a := 138) (k := 0) (b := 139) ts19_2 (Or.inr (Or.inl rfl)) rfl (by decide)) (fun gb38 => ?_)
            refine rl_chk (chkl (cx_U ts19_2) gb38) (fun k13 => ?_)
            refine rl_w (κ := 144) (cx_U ts19_2) (by decide) (fun M39 M39r uM39 AM39 nM39 => ?_)
            have tM39 := cx_up ts19_2 uM39
            have wA_M39 := wg_up uM39 wA_s19_2
            have wG_M39 := wg_up uM39 vG_s19_2
            refine rl_ltI (av_add is19_1 tn_1 (by omega) (by omega)) (fun x40 ix40 => ?_)
            exact rl_inl ⟨rfl, (ti_bd ix40 (by omega) (by omega)), (up_tr us19_2 uM39), (wg_ext wG_M39 ix36 (ag_up (up_0 mu (κ := 144) _ _) AM39) (by (try dsimp only) <;> omega) (by have q : _ = _ := ix40; (try dsimp only) <;> omega))⟩
      · exact ⟨rfl, (ti_bd tn_0 (by omega) (by omega)), (up_0 mu (κ := 144) _ _), (wg_0 (by have q : _ = _ := tn_0; (try dsimp only) <;> omega))⟩
      · rintro ⟨y18_1, y18_2⟩ ⟨y18_1r, y18_2r⟩ ⟨ey18_1, ly18_1, uy18_2, vG_y18_2⟩
        obtain rfl : y18_1 = y18_1r := ey18_1
        have ly18_1 : 0 ≤ y18_1.toInt ∧ y18_1.toInt ≤ (16 * 16) := ly18_1
        have iy18_1 : TI y18_1 y18_1.toInt := rfl
        have uy18_2 : Up mu 144 M N y18_2 y18_2r := uy18_2
        have ty18_2 := cx_up t uy18_2
        have wA_y18_2 := wg_up uy18_2 hA
        have vG_y18_2 : WG mu y18_2 y18_2r 139 (0) (16 * 16) (fun j => a0 + j) := vG_y18_2
        exact rl_some ⟨uy18_2, vG_y18_2⟩
theorem r_predictSixteen {mu : Nat → Nat} {G H : GG} {M N : DD} {p : Nat} {L : List Nat} (t : CX mu G H M N p L) {p0 p0r : Option Nat} (e0 : p0 = some 125 ∧ p0r = some (mu 125)) {p1 : Int32} {p2 : Int32} {p3 : Int32} : LKS (FX6_predictSixteen G M 138 p0 p1 p2 p3) (FX6_predictSixteen H N (mu 138) p0r p1 p2 p3) (fun y z => Up mu 144 M N y z ∧ WG mu y z 139 0 256 (fun j => j)) := by
  unfold FX6_predictSixteen
  obtain ⟨rfl, rfl⟩ := e0
  refine rl_dr (cx_U t) ⟨rfl, rfl⟩ (fun gb2 => ?_)
  refine rl_dr (cx_U t) (rx_p t) (fun gb3 => ?_)
  refine rl_dr (cx_U t) (rx_4 t (cx_p t)) (fun gb4 => ?_)
  refine rl_chk (chkl (cx_U t) gb4) (fun k1 => ?_)
  refine rl_bnd (r_lumaAt t (rx_p t) (cx_p t)) ?_
  rintro ⟨y5_1, y5_2⟩ ⟨y5_1r, y5_2r⟩ ⟨uy5_1', ey5_2⟩
  have uy5_1 : Up mu 144 M N y5_1 y5_1r := uy5_1'
  have ty5_1 := cx_up t uy5_1
  obtain rfl : y5_2 = y5_2r := ey5_2
  refine rl_dr (cx_U ty5_1) (rx_p ty5_1) (fun gb6 => ?_)
  refine rl_rd (cx_q (j := 0) (k := 1) ty5_1 (cx_p t) rfl) (fun x7 => ?_)
  refine rl_ltA (fun x8 => ?_)
  refine rl_bnd (r_takeSides ty5_1 (rx_d0 t (cx_p t)) (cx_p t) (by omega : 9 = 9 ∨ 9 = 10 ∨ 9 = 11) tn_16 (by omega)) ?_
  rintro y9 y9r ⟨uy9', vA_y9⟩
  have uy9 : Up mu 144 y5_1 y5_1r y9 y9r := uy9'
  have ty9 := cx_up ty5_1 uy9
  refine rl_if (fun c2 => ?_) (fun c2 => ?_)
  · have dc2 := tl_eq (rfl : TI p2 p2.toInt) tn_3 c2
    refine rl_bnd (r_fillPlane ty9 tn_0 tn_16 (by omega) (by omega) (by omega) vA_y9) ?_
    rintro y64 y64r ⟨uy64', vG_y64⟩
    have uy64 : Up mu 144 y9 y9r y64 y64r := uy64'
    have ty64 := cx_up ty9 uy64
    have wA_y64 := wg_up uy64 vA_y9
    exact rl_some ⟨(up_tr (up_tr uy5_1 uy9) uy64), (wg_cs vG_y64 (by omega) (by omega) (fun j h1 h2 => by (try dsimp only) <;> omega))⟩
  · have dc2 := tl_ne (rfl : TI p2 p2.toInt) tn_3 c2
    refine rl_ltI (av_and 1 (rfl : TI p3 p3.toInt) (by decide) (by decide)) (fun x11 ix11 => ?_)
    refine rl_bnd (Q := fun (y z : Int32) => y = z ∧ (0 ≤ y.toInt ∧ y.toInt ≤ 1)) ?_ ?_
    · refine rl_if (fun c3 => ?_) (fun c3 => ?_)
      · have dc3 := tl_eq ix11 tn_0 c3
        exact rl_some ⟨rfl, (ti_bd tn_0 (by omega) (by omega))⟩
      · have dc3 := tl_ne ix11 tn_0 c3
        exact rl_some ⟨rfl, (ti_bd tn_1 (by omega) (by omega))⟩
    · rintro y12 y12r ⟨ey12, ly12⟩
      obtain rfl : y12 = y12r := ey12
      have ly12 : 0 ≤ y12.toInt ∧ y12.toInt ≤ 1 := ly12
      have iy12 : TI y12 y12.toInt := rfl
      refine rl_ltA (fun x13 => ?_)
      refine rl_bnd (Q := fun (y z : Int32) => y = z ∧ (0 ≤ y.toInt ∧ y.toInt ≤ 1)) ?_ ?_
      · refine rl_if (fun c4 => ?_) (fun c4 => ?_)
        · have dc4 := tl_eq (rfl : TI x13 x13.toInt) tn_0 c4
          exact rl_some ⟨rfl, (ti_bd tn_0 (by omega) (by omega))⟩
        · have dc4 := tl_ne (rfl : TI x13 x13.toInt) tn_0 c4
          exact rl_some ⟨rfl, (ti_bd tn_1 (by omega) (by omega))⟩
      · rintro y14 y14r ⟨ey14, ly14⟩
        obtain rfl : y14 = y14r := ey14
        have ly14 : 0 ≤ y14.toInt ∧ y14.toInt ≤ 1 := ly14
        have iy14 : TI y14 y14.toInt := rfl
        refine rl_bnd (r_sumAround ty9 tn_1 tn_16 (by omega) (by omega) (by omega) (wg_sub vA_y9 (by omega) (by omega))) ?_
        rintro ⟨y15_1, y15_2⟩ ⟨y15_1r, y15_2r⟩ ⟨uy15_1', ey15_2⟩
        have uy15_1 : Up mu 144 y9 y9r y15_1 y15_1r := uy15_1'
        have ty15_1 := cx_up ty9 uy15_1
        have wA_y15_1 := wg_up uy15_1 vA_y9
        obtain rfl : y15_2 = y15_2r := ey15_2
        refine rl_bnd (r_sumAround ty15_1 tn_18 tn_16 (by omega) (by omega) (by omega) (wg_sub wA_y15_1 (by omega) (by omega))) ?_
        rintro ⟨y16_1, y16_2⟩ ⟨y16_1r, y16_2r⟩ ⟨uy16_1', ey16_2⟩
        have uy16_1 : Up mu 144 y15_1 y15_1r y16_1 y16_1r := uy16_1'
        have ty16_1 := cx_up ty15_1 uy16_1
        have wA_y16_1 := wg_up uy16_1 wA_y15_1
        obtain rfl : y16_2 = y16_2r := ey16_2
        refine rl_ltA (fun x17 => ?_)
        refine rl_bnd (Q := fun (y z : Int32) => y = z) ?_ ?_
        · refine rl_if (fun c5 => ?_) (fun c5 => ?_)
          · have dc5 := tl_eq iy12 tn_0 c5
            refine rl_bnd (Q := fun (y z : Int32) => y = z) ?_ ?_
            · refine rl_if (fun c6 => ?_) (fun c6 => ?_)
              · have dc6 := tl_eq iy14 tn_0 c6
                exact rl_some rfl
              · have dc6 := tl_ne iy14 tn_0 c6
                refine rl_bnd (Q := fun (y z : Int32) => y = z) ?_ ?_
                · refine rl_if (fun c7 => ?_) (fun c7 => ?_)
                  · have dc7 := tl_eq iy12 tn_0 c7
                    refine rl_ltA (fun x54 => ?_)
                    refine rl_ltA (fun x55 => ?_)
                    exact rl_some rfl
                  · have dc7 := tl_ne iy12 tn_0 c7
                    exfalso
                    omega
                · rintro y52 y52r ey52
                  obtain rfl : y52 = y52r := ey52
                  exact rl_some rfl
            · rintro y50 y50r ey50
              obtain rfl : y50 = y50r := ey50
              exact rl_some rfl
          · have dc5 := tl_ne iy12 tn_0 c5
            refine rl_bnd (Q := fun (y z : Int32) => y = z) ?_ ?_
            · refine rl_if (fun c8 => ?_) (fun c8 => ?_)
              · have dc8 := tl_eq iy12 tn_0 c8
                exfalso
                omega
              · have dc8 := tl_ne iy12 tn_0 c8
                refine rl_bnd (Q := fun (y z : Int32) => y = z) ?_ ?_
                · refine rl_if (fun c9 => ?_) (fun c9 => ?_)
                  · have dc9 := tl_eq iy14 tn_0 c9
                    refine rl_ltA (fun x46 => ?_)
                    refine rl_ltA (fun x47 => ?_)
                    exact rl_some rfl
                  · have dc9 := tl_ne iy14 tn_0 c9
                    refine rl_ltA (fun x48 => ?_)
                    refine rl_ltA (fun x49 => ?_)
                    exact rl_some rfl
                · rintro y44 y44r ey44
                  obtain rfl : y44 = y44r := ey44
                  exact rl_some rfl
            · rintro y40 y40r ey40
              obtain rfl : y40 = y40r := ey40
              exact rl_some rfl
        · rintro y18 y18r ey18
          obtain rfl : y18 = y18r := ey18
          refine rl_bnd (Q := fun (y z : Int32 × DD) => y.1 = z.1 ∧ (0 ≤ y.1.toInt ∧ y.1.toInt ≤ 256) ∧ Up mu 144 y16_1 y16_1r y.2 z.2 ∧ WG mu y.2 z.2 139 (0) (256) (fun j => j)) (rl_itr (fun (y z : Int32 × DD) => y.1 = z.1 ∧ (0 ≤ y.1.toInt ∧ y.1.toInt ≤ 256) ∧ Up mu 144 y16_1 y16_1r y.2 z.2 ∧ WG mu y.2 z.2 139 (0) (y.1.toInt) (fun j => j)) _ ?_ _ _ _ ?_) ?_
          · rintro ⟨s20_1, s20_2⟩ ⟨s20_1r, s20_2r⟩ ⟨es20_1, ls20_1, us20_2, vH_s20_2⟩
            obtain rfl : s20_1 = s20_1r := es20_1
            have ls20_1 : 0 ≤ s20_1.toInt ∧ s20_1.toInt ≤ 256 := ls20_1
            have is20_1 : TI s20_1 s20_1.toInt := rfl
            have us20_2 : Up mu 144 y16_1 y16_1r s20_2 s20_2r := us20_2
            have ts20_2 := cx_up ty16_1 us20_2
            have wA_s20_2 := wg_up us20_2 wA_y16_1
            have vH_s20_2 : WG mu s20_2 s20_2r 139 (0) (s20_1.toInt) (fun j => j) := vH_s20_2
            refine rl_if (fun c10 => ?_) (fun c10 => ?_)
            · have dc10 := tl_le tn_256 is20_1 c10
              exact rl_inr ⟨rfl, (ti_bd is20_1 (by omega) (by omega)), us20_2, (wg_sub vH_s20_2 (by omega) (by omega))⟩
            · have dc10 := tl_nle tn_256 is20_1 c10
              refine rl_bnd (Q := fun (y z : Int32) => y = z) ?_ ?_
              · refine rl_if (fun c11 => ?_) (fun c11 => ?_)
                · have dc11 := tl_eq (rfl : TI p2 p2.toInt) tn_0 c11
                  refine rl_ltI (av_mod is20_1 tn_16 (by omega) (by omega)) (fun x35 ix35 => ?_)
                  refine rl_ltI (av_add tn_1 ix35 (by omega) (by omega)) (fun x36 ix36 => ?_)
                  refine rl_dr (cx_U ts20_2) (rx_c (a := 138) (k := 8) (b := 147) ts20_2 (Or.inr (Or.inl rfl)) rfl (by decide)) (fun gb37 => ?_)
                  refine rl_chk (chkl (cx_U ts20_2) gb37) (fun k12 => ?_)
                  refine rl_rd (wg_id wA_s20_2 ix36 (by omega) (by omega)) (fun x38 => ?_)
                  exact rl_some rfl
                · have dc11 := tl_ne (rfl : TI p2 p2.toInt) tn_0 c11
                  refine rl_bnd (Q := fun (y z : Int32) => y = z) ?_ ?_
                  · refine rl_if (fun c13 => ?_) (fun c13 => ?_)
                    · have dc13 := tl_eq (rfl : TI p2 p2.toInt) tn_1 c13
                      refine rl_ltI (av_div is20_1 tn_16 (by omega) (by omega)) (fun x31 ix31 => ?_)
                      refine rl_ltI (av_add tn_18 ix31 (by omega) (by omega)) (fun x32 ix32 => ?_)
                      refine rl_dr (cx_U ts20_2) (rx_c (a := 138) (k := 8) (b := 147) ts20_2 (Or.inr (Or.inl rfl)) rfl (by decide)) (fun gb33 => ?_)
                      refine rl_chk (chkl (cx_U ts20_2) gb33) (fun k14 => ?_)
                      refine rl_rd (wg_id wA_s20_2 ix32 (by omega) (by omega)) (fun x34 => ?_)
                      exact rl_some rfl
                    · have dc13 := tl_ne (rfl : TI p2 p2.toInt) tn_1 c13
                      exact rl_some rfl
                  · rintro y29 y29r ey29
                    obtain rfl : y29 = y29r := ey29
                    exact rl_some rfl
              · rintro y24 y24r ey24
                obtain rfl : y24 = y24r := ey24
                refine rl_dr (cx_U ts20_2) (rx_c (a := 138) (k := 0) (b := 139) ts20_2 (Or.inr (Or.inl rfl)) rfl (by decide)) (fun gb25 => ?_)
                refine rl_chk (chkl (cx_U ts20_2) gb25) (fun k15 => ?_)
                refine rl_w (κ := 144) (cx_U ts20_2) (by decide) (fun M26 M26r uM26 AM26 nM26 => ?_)
                have tM26 := cx_up ts20_2 uM26
                have wA_M26 := wg_up uM26 wA_s20_2
                have wH_M26 := wg_up uM26 vH_s20_2
                refine rl_ltI (av_add is20_1 tn_1 (by omega) (by omega)) (fun x27 ix27 => ?_)
                exact rl_inl ⟨rfl, (ti_bd ix27 (by omega) (by omega)), (up_tr us20_2 uM26), (wg_ext wH_M26 is20_1 (ag_up (up_0 mu (κ := 144) _ _) AM26) (by (try dsimp only) <;> omega) (by have q : _ = _ := ix27; (try dsimp only) <;> omega))⟩
          · exact ⟨rfl, (ti_bd tn_0 (by omega) (by omega)), (up_0 mu (κ := 144) _ _), (wg_0 (by have q : _ = _ := tn_0; (try dsimp only) <;> omega))⟩
          · rintro ⟨y19_1, y19_2⟩ ⟨y19_1r, y19_2r⟩ ⟨ey19_1, ly19_1, uy19_2, vH_y19_2⟩
            obtain rfl : y19_1 = y19_1r := ey19_1
            have ly19_1 : 0 ≤ y19_1.toInt ∧ y19_1.toInt ≤ 256 := ly19_1
            have iy19_1 : TI y19_1 y19_1.toInt := rfl
            have uy19_2 : Up mu 144 y16_1 y16_1r y19_2 y19_2r := uy19_2
            have ty19_2 := cx_up ty16_1 uy19_2
            have wA_y19_2 := wg_up uy19_2 wA_y16_1
            have vH_y19_2 : WG mu y19_2 y19_2r 139 (0) (256) (fun j => j) := vH_y19_2
            exact rl_some ⟨(up_tr (up_tr (up_tr (up_tr uy5_1 uy9) uy15_1) uy16_1) uy19_2), vH_y19_2⟩
theorem r_colourMean {mu : Nat → Nat} {G H : GG} {M N : DD} {p : Nat} {L : List Nat} (t : CX mu G H M N p L) {p0 : Int32} {a0 : Int} (i0 : TI p0 a0) {p1 : Int32} (h0 : 0 ≤ a0) (h1 : a0 ≤ 3) (hA : WG mu M N 147 0 18 (fun j => j)) : LKS (FX6_colourMean G M 138 p0 p1) (FX6_colourMean H N (mu 138) p0 p1) (fun y z => Up mu 144 M N y.1 z.1 ∧ y.2 = z.2) := by
  unfold FX6_colourMean
  refine rl_ltI (av_and 1 (rfl : TI p1 p1.toInt) (by decide) (by decide)) (fun x1 ix1 => ?_)
  refine rl_bnd (Q := fun (y z : Int32) => y = z ∧ (0 ≤ y.toInt ∧ y.toInt ≤ 1)) ?_ ?_
  · refine rl_if (fun c1 => ?_) (fun c1 => ?_)
    · have dc1 := tl_eq ix1 tn_0 c1
      exact rl_some ⟨rfl, (ti_bd tn_0 (by omega) (by omega))⟩
    · have dc1 := tl_ne ix1 tn_0 c1
      exact rl_some ⟨rfl, (ti_bd tn_1 (by omega) (by omega))⟩
  · rintro y2 y2r ⟨ey2, ly2⟩
    obtain rfl : y2 = y2r := ey2
    have ly2 : 0 ≤ y2.toInt ∧ y2.toInt ≤ 1 := ly2
    have iy2 : TI y2 y2.toInt := rfl
    refine rl_ltA (fun x3 => ?_)
    refine rl_bnd (Q := fun (y z : Int32) => y = z ∧ (0 ≤ y.toInt ∧ y.toInt ≤ 1)) ?_ ?_
    · refine rl_if (fun c2 => ?_) (fun c2 => ?_)
      · have dc2 := tl_eq (rfl : TI x3 x3.toInt) tn_0 c2
        exact rl_some ⟨rfl, (ti_bd tn_0 (by omega) (by omega))⟩
      · have dc2 := tl_ne (rfl : TI x3 x3.toInt) tn_0 c2
        exact rl_some ⟨rfl, (ti_bd tn_1 (by omega) (by omega))⟩
    · rintro y4 y4r ⟨ey4, ly4⟩
      obtain rfl : y4 = y4r := ey4
      have ly4 : 0 ≤ y4.toInt ∧ y4.toInt ≤ 1 := ly4
      have iy4 : TI y4 y4.toInt := rfl
      refine rl_ltI (av_mod i0 tn_2 (by omega) (by omega)) (fun x5 ix5 => ?_)
      refine rl_ltI (av_mul ix5 tn_4 (by omega) (by omega)) (fun x6 ix6 => ?_)
      refine rl_ltI (av_add tn_1 ix6 (by omega) (by omega)) (fun x7 ix7 => ?_)
      refine rl_bnd (r_sumAround t ix7 tn_4 (by omega) (by omega) (by omega) (wg_sub hA (by omega) (by omega))) ?_
      rintro ⟨y8_1, y8_2⟩ ⟨y8_1r, y8_2r⟩ ⟨uy8_1', ey8_2⟩
      have uy8_1 : Up mu 144 M N y8_1 y8_1r := uy8_1'
      have ty8_1 := cx_up t uy8_1
      have wA_y8_1 := wg_up uy8_1 hA
      obtain rfl : y8_2 = y8_2r := ey8_2
      refine rl_ltI (av_div i0 tn_2 (by omega) (by omega)) (fun x9 ix9 => ?_)
      refine rl_ltI (av_mul ix9 tn_4 (by omega) (by omega)) (fun x10 ix10 => ?_)
      refine rl_ltI (av_add tn_10 ix10 (by omega) (by omega)) (fun x11 ix11 => ?_)
      refine rl_bnd (r_sumAround ty8_1 ix11 tn_4 (by omega) (by omega) (by omega) (wg_sub wA_y8_1 (by omega) (by omega))) ?_
      rintro ⟨y12_1, y12_2⟩ ⟨y12_1r, y12_2r⟩ ⟨uy12_1', ey12_2⟩
      have uy12_1 : Up mu 144 y8_1 y8_1r y12_1 y12_1r := uy12_1'
      have ty12_1 := cx_up ty8_1 uy12_1
      have wA_y12_1 := wg_up uy12_1 wA_y8_1
      obtain rfl : y12_2 = y12_2r := ey12_2
      refine rl_if (fun c3 => ?_) (fun c3 => ?_)
      · have dc3 := tl_eq iy2 tn_0 c3
        refine rl_if (fun c4 => ?_) (fun c4 => ?_)
        · have dc4 := tl_eq iy4 tn_0 c4
          exact rl_some ⟨(up_tr uy8_1 uy12_1), rfl⟩
        · have dc4 := tl_ne iy4 tn_0 c4
          refine rl_if (fun c5 => ?_) (fun c5 => ?_)
          · have dc5 := tl_eq i0 tn_1 c5
            refine rl_bnd (Q := fun (y z : Int32) => y = z) ?_ ?_
            · refine rl_if (fun c6 => ?_) (fun c6 => ?_)
              · have dc6 := tl_eq iy4 tn_0 c6
                exfalso
                omega
              · have dc6 := tl_ne iy4 tn_0 c6
                exact rl_some rfl
            · rintro y61 y61r ey61
              obtain rfl : y61 = y61r := ey61
              refine rl_ltA (fun x62 => ?_)
              refine rl_ltA (fun x63 => ?_)
              exact rl_some ⟨(up_tr uy8_1 uy12_1), rfl⟩
          · have dc5 := tl_ne i0 tn_1 c5
            refine rl_if (fun c7 => ?_) (fun c7 => ?_)
            · have dc7 := tl_eq i0 tn_2 c7
              refine rl_bnd (Q := fun (y z : Int32) => y = z) ?_ ?_
              · refine rl_if (fun c8 => ?_) (fun c8 => ?_)
                · have dc8 := tl_eq iy2 tn_0 c8
                  exact rl_some rfl
                · have dc8 := tl_ne iy2 tn_0 c8
                  exfalso
                  omega
              · rintro y57 y57r ey57
                obtain rfl : y57 = y57r := ey57
                refine rl_ltA (fun x58 => ?_)
                refine rl_ltA (fun x59 => ?_)
                exact rl_some ⟨(up_tr uy8_1 uy12_1), rfl⟩
            · have dc7 := tl_ne i0 tn_2 c7
              refine rl_bnd (Q := fun (y z : Int32) => y = z) ?_ ?_
              · refine rl_if (fun c9 => ?_) (fun c9 => ?_)
                · have dc9 := tl_eq iy2 tn_0 c9
                  refine rl_bnd (Q := fun (y z : Int32) => y = z) ?_ ?_
                  · refine rl_if (fun c10 => ?_) (fun c10 => ?_)
                    · have dc10 := tl_eq iy2 tn_0 c10
                      exact rl_some rfl
                    · have dc10 := tl_ne iy2 tn_0 c10
                      exfalso
                      omega
                  · rintro y44 y44r ey44
                    obtain rfl : y44 = y44r := ey44
                    refine rl_ltA (fun x45 => ?_)
                    refine rl_ltA (fun x46 => ?_)
                    exact rl_some rfl
                · have dc9 := tl_ne iy2 tn_0 c9
                  exfalso
                  omega
              · rintro y42 y42r ey42
                obtain rfl : y42 = y42r := ey42
                exact rl_some ⟨(up_tr uy8_1 uy12_1), rfl⟩
      · have dc3 := tl_ne iy2 tn_0 c3
        refine rl_if (fun c11 => ?_) (fun c11 => ?_)
        · have dc11 := tl_eq i0 tn_1 c11
          refine rl_bnd (Q := fun (y z : Int32) => y = z) ?_ ?_
          · refine rl_if (fun c12 => ?_) (fun c12 => ?_)
            · have dc12 := tl_eq iy4 tn_0 c12
              exact rl_some rfl
            · have dc12 := tl_ne iy4 tn_0 c12
              exact rl_some rfl
          · rintro y35 y35r ey35
            obtain rfl : y35 = y35r := ey35
            refine rl_ltA (fun x36 => ?_)
            refine rl_ltA (fun x37 => ?_)
            exact rl_some ⟨(up_tr uy8_1 uy12_1), rfl⟩
        · have dc11 := tl_ne i0 tn_1 c11
          refine rl_if (fun c13 => ?_) (fun c13 => ?_)
          · have dc13 := tl_eq i0 tn_2 c13
            refine rl_bnd (Q := fun (y z : Int32) => y = z) ?_ ?_
            · refine rl_if (fun c14 => ?_) (fun c14 => ?_)
              · have dc14 := tl_eq iy2 tn_0 c14
                exfalso
                omega
              · have dc14 := tl_ne iy2 tn_0 c14
                exact rl_some rfl
            · rintro y31 y31r ey31
              obtain rfl : y31 = y31r := ey31
              refine rl_ltA (fun x32 => ?_)
              refine rl_ltA (fun x33 => ?_)
              exact rl_some ⟨(up_tr uy8_1 uy12_1), rfl⟩
          · have dc13 := tl_ne i0 tn_2 c13
            refine rl_bnd (Q := fun (y z : Int32) => y = z) ?_ ?_
            · refine rl_if (fun c15 => ?_) (fun c15 => ?_)
              · have dc15 := tl_eq iy2 tn_0 c15
                exfalso
                omega
              · have dc15 := tl_ne iy2 tn_0 c15
                refine rl_bnd (Q := fun (y z : Int32) => y = z) ?_ ?_
                · refine rl_if (fun c16 => ?_) (fun c16 => ?_)
                  · have dc16 := tl_eq iy4 tn_0 c16
                    refine rl_bnd (Q := fun (y z : Int32) => y = z) ?_ ?_
                    · refine rl_if (fun c17 => ?_) (fun c17 => ?_)
                      · have dc17 := tl_eq iy2 tn_0 c17
                        exfalso
                        omega
                      · have dc17 := tl_ne iy2 tn_0 c17
                        exact rl_some rfl
                    · rintro y24 y24r ey24
                      obtain rfl : y24 = y24r := ey24
                      refine rl_ltA (fun x25 => ?_)
                      refine rl_ltA (fun x26 => ?_)
                      exact rl_some rfl
                  · have dc16 := tl_ne iy4 tn_0 c16
                    refine rl_ltA (fun x28 => ?_)
                    refine rl_ltA (fun x29 => ?_)
                    refine rl_ltA (fun x30 => ?_)
                    exact rl_some rfl
                · rintro y22 y22r ey22
                  obtain rfl : y22 = y22r := ey22
                  exact rl_some rfl
            · rintro y16 y16r ey16
              obtain rfl : y16 = y16r := ey16
              exact rl_some ⟨(up_tr uy8_1 uy12_1), rfl⟩
theorem r_predictColoursI {mu : Nat → Nat} {G H : GG} {M N : DD} {p : Nat} {L : List Nat} (t : CX mu G H M N p L) {p0 p0r : Option Nat} (e0 : p0 = some 125 ∧ p0r = some (mu 125)) {p1 : Int32} {p2 : Int32} {p3 : Int32} : LKS (FX6_predictColours_ G M 138 p0 p1 p2 p3) (FX6_predictColours_ H N (mu 138) p0r p1 p2 p3) (fun y z => Up mu 144 M N y z ∧ WG mu y z 139 256 384 (fun j => j)) := by
  unfold FX6_predictColours_
  obtain ⟨rfl, rfl⟩ := e0
  refine rl_bnd (Q := fun (y z : Int32 × DD) => y.1 = z.1 ∧ (1 ≤ y.1.toInt ∧ y.1.toInt ≤ 3) ∧ Up mu 144 M N y.2 z.2 ∧ WG mu y.2 z.2 139 (256) (384) (fun j => j)) (rl_itr (fun (y z : Int32 × DD) => y.1 = z.1 ∧ (1 ≤ y.1.toInt ∧ y.1.toInt ≤ 3) ∧ Up mu 144 M N y.2 z.2 ∧ WG mu y.2 z.2 139 (256) (192 + 64 * y.1.toInt) (fun j => j)) _ ?_ _ _ _ ?_) ?_
  · rintro ⟨s2_1, s2_2⟩ ⟨s2_1r, s2_2r⟩ ⟨es2_1, ls2_1, us2_2, vO_s2_2⟩
    obtain rfl : s2_1 = s2_1r := es2_1
    have ls2_1 : 1 ≤ s2_1.toInt ∧ s2_1.toInt ≤ 3 := ls2_1
    have is2_1 : TI s2_1 s2_1.toInt := rfl
    have us2_2 : Up mu 144 M N s2_2 s2_2r := us2_2
    have ts2_2 := cx_up t us2_2
    have vO_s2_2 : WG mu s2_2 s2_2r 139 (256) (192 + 64 * s2_1.toInt) (fun j => j) := vO_s2_2
    refine rl_if (fun c1 => ?_) (fun c1 => ?_)
    · have dc1 := tl_le tn_3 is2_1 c1
      exact rl_inr ⟨rfl, (ti_bd is2_1 (by omega) (by omega)), us2_2, (wg_sub vO_s2_2 (by omega) (by omega))⟩
    · have dc1 := tl_nle tn_3 is2_1 c1
      refine rl_ltI (av_mul tn_64 is2_1 (by omega) (by omega)) (fun x6 ix6 => ?_)
      refine rl_ltI (av_add tn_192 ix6 (by omega) (by omega)) (fun x7 ix7 => ?_)
      have kx7 : x7.toInt = _ := ix7
      refine rl_dr (cx_U ts2_2) ⟨rfl, rfl⟩ (fun gb8 => ?_)
      refine rl_dr (cx_U ts2_2) (rx_p ts2_2) (fun gb9 => ?_)
      refine rl_dr (cx_U ts2_2) (rx_4 ts2_2 (cx_p t)) (fun gb10 => ?_)
      refine rl_chk (chkl (cx_U ts2_2) gb10) (fun k2 => ?_)
      refine rl_bnd (r_colourAt ts2_2 (rx_p ts2_2) (cx_p t)) ?_
      rintro ⟨y11_1, y11_2⟩ ⟨y11_1r, y11_2r⟩ ⟨uy11_1', ey11_2⟩
      have uy11_1 : Up mu 144 s2_2 s2_2r y11_1 y11_1r := uy11_1'
      have ty11_1 := cx_up ts2_2 uy11_1
      have wO_y11_1 := wg_up uy11_1 vO_s2_2
      obtain rfl : y11_2 = y11_2r := ey11_2
      refine rl_dr (cx_U ty11_1) (rx_p ty11_1) (fun gb12 => ?_)
      refine rl_rd (cx_q (j := 0) (k := 1) ty11_1 (cx_p t) rfl) (fun x13 => ?_)
      refine rl_ltA (fun x14 => ?_)
      obtain ⟨j3, hj3, ej3⟩ := rx_dv ts2_2 (cx_p t) is2_1 (by omega) (by omega)
      refine rl_bnd (r_takeSides ty11_1 ej3 (cx_p t) hj3 tn_8 (by omega)) ?_
      rintro y15 y15r ⟨uy15', vA_y15⟩
      have uy15 : Up mu 144 y11_1 y11_1r y15 y15r := uy15'
      have ty15 := cx_up ty11_1 uy15
      have wO_y15 := wg_up uy15 wO_y11_1
      refine rl_bnd (Q := fun (y z : DD) => Up mu 144 y15 y15r y z ∧ WG mu y z 139 0 64 (fun j => x7.toInt + j)) ?_ ?_
      · refine rl_if (fun c4 => ?_) (fun c4 => ?_)
        · have dc4 := tl_eq (rfl : TI p2 p2.toInt) tn_3 c4
          refine rl_bnd (r_fillPlane ty15 ix7 tn_8 (by omega) (by omega) (by omega) vA_y15) ?_
          rintro y67 y67r ⟨uy67', vI_y67'⟩
          have uy67 : Up mu 144 y15 y15r y67 y67r := uy67'
          have ty67 := cx_up ty15 uy67
          have wO_y67 := wg_up uy67 wO_y15
          have wA_y67 := wg_up uy67 vA_y15
          have vI_y67 : WG mu y67 y67r 139 0 64 (fun j => x7.toInt + j) := wg_cs vI_y67' (by omega) (by omega) (fun j h1 h2 => by (try dsimp only) <;> omega)
          exact rl_some ⟨uy67, vI_y67⟩
        · refine rl_bnd (Q := fun (y z : Int32 × DD) => y.1 = z.1 ∧ (0 ≤ y.1.toInt ∧ y.1.toInt ≤ 64) ∧ Up mu 144 y15 y15r y.2 z.2 ∧ WG mu y.2 z.2 139 (0) (64) (fun j => x7.toInt + j)) (rl_itr (fun (y z : Int32 × DD) => y.1 = z.1 ∧ (0 ≤ y.1.toInt ∧ y.1.toInt ≤ 64) ∧ Up mu 144 y15 y15r y.2 z.2 ∧ WG mu y.2 z.2 139 (0) (y.1.toInt) (fun j => x7.toInt + j)) _ ?_ _ _ _ ?_) ?_
          · rintro ⟨s20_1, s20_2⟩ ⟨s20_1r, s20_2r⟩ ⟨es20_1, ls20_1, us20_2, vI_s20_2⟩
            obtain rfl : s20_1 = s20_1r := es20_1
            have ls20_1 : 0 ≤ s20_1.toInt ∧ s20_1.toInt ≤ 64 := ls20_1
            have is20_1 : TI s20_1 s20_1.toInt := rfl
            have us20_2 : Up mu 144 y15 y15r s20_2 s20_2r := us20_2
            have ts20_2 := cx_up ty15 us20_2
            have wO_s20_2 := wg_up us20_2 wO_y15
            have wA_s20_2 := wg_up us20_2 vA_y15
            have vI_s20_2 : WG mu s20_2 s20_2r 139 (0) (s20_1.toInt) (fun j => x7.toInt + j) := vI_s20_2
            refine rl_if (fun c5 => ?_) (fun c5 => ?_)
            · have dc5 := tl_le tn_64 is20_1 c5
              exact rl_inr ⟨rfl, (ti_bd is20_1 (by omega) (by omega)), us20_2, (wg_sub vI_s20_2 (by omega) (by omega))⟩
            · have dc5 := tl_nle tn_64 is20_1 c5
              refine rl_ltI (av_mod is20_1 tn_8 (by omega) (by omega)) (fun x51 ix51 => ?_)
              refine rl_ltI (av_div is20_1 tn_8 (by omega) (by omega)) (fun x52 ix52 => ?_)
              refine rl_ltI (av_add ix7 is20_1 (by omega) (by omega)) (fun x53 ix53 => ?_)
              refine rl_bnd (Q := fun (y z : Int32) => y = z) ?_ ?_
              · refine rl_if (fun c6 => ?_) (fun c6 => ?_)
                · have dc6 := tl_eq (rfl : TI p2 p2.toInt) tn_1 c6
                  refine rl_ltI (av_add tn_10 ix52 (by omega) (by omega)) (fun x64 ix64 => ?_)
                  refine rl_dr (cx_U ts20_2) (rx_c (a := 138) (k := 8) (b := 147) ts20_2 (Or.inr (Or.inl rfl)) rfl (by decide)) (fun gb65 => ?_)
                  refine rl_chk (chkl (cx_U ts20_2) gb65) (fun k7 => ?_)
                  refine rl_rd (wg_id wA_s20_2 ix64 (by omega) (by omega)) (fun x66 => ?_)
                  exact rl_some rfl
                · refine rl_bnd (Q := fun (y z : Int32) => y = z) ?_ ?_
                  · refine rl_if (fun c8 => ?_) (fun c8 => ?_)
                    · have dc8 := tl_eq (rfl : TI p2 p2.toInt) tn_2 c8
                      refine rl_ltI (av_add tn_1 ix51 (by omega) (by omega)) (fun x61 ix61 => ?_)
                      refine rl_dr (cx_U ts20_2) (rx_c (a := 138) (k := 8) (b := 147) ts20_2 (Or.inr (Or.inl rfl)) rfl (by decide)) (fun gb62 => ?_)
                      refine rl_chk (chkl (cx_U ts20_2) gb62) (fun k9 => ?_)
                      refine rl_rd (wg_id wA_s20_2 ix61 (by omega) (by omega)) (fun x63 => ?_)
                      exact rl_some rfl
                    · exact rl_some rfl
                  · rintro y59 y59r ey59
                    obtain rfl : y59 = y59r := ey59
                    exact rl_some rfl
              · rintro y54 y54r ey54
                obtain rfl : y54 = y54r := ey54
                refine rl_dr (cx_U ts20_2) (rx_c (a := 138) (k := 0) (b := 139) ts20_2 (Or.inr (Or.inl rfl)) rfl (by decide)) (fun gb55 => ?_)
                refine rl_chk (chkl (cx_U ts20_2) gb55) (fun k10 => ?_)
                refine rl_w (κ := 144) (cx_U ts20_2) (by decide) (fun M56 M56r uM56 AM56 nM56 => ?_)
                have tM56 := cx_up ts20_2 uM56
                have wO_M56 := wg_up uM56 wO_s20_2
                have wA_M56 := wg_up uM56 wA_s20_2
                have wI_M56 := wg_up uM56 vI_s20_2
                refine rl_ltI (av_add is20_1 tn_1 (by omega) (by omega)) (fun x57 ix57 => ?_)
                exact rl_inl ⟨rfl, (ti_bd ix57 (by omega) (by omega)), (up_tr us20_2 uM56), (wg_ext wI_M56 ix53 (ag_up (up_0 mu (κ := 144) _ _) AM56) (by (try dsimp only) <;> omega) (by have q : _ = _ := ix57; (try dsimp only) <;> omega))⟩
          · exact ⟨rfl, (ti_bd tn_0 (by omega) (by omega)), (up_0 mu (κ := 144) _ _), (wg_0 (by have q : _ = _ := tn_0; (try dsimp only) <;> omega))⟩
          · rintro ⟨y19_1, y19_2⟩ ⟨y19_1r, y19_2r⟩ ⟨ey19_1, ly19_1, uy19_2, vI_y19_2⟩
            obtain rfl : y19_1 = y19_1r := ey19_1
            have ly19_1 : 0 ≤ y19_1.toInt ∧ y19_1.toInt ≤ 64 := ly19_1
            have iy19_1 : TI y19_1 y19_1.toInt := rfl
            have uy19_2 : Up mu 144 y15 y15r y19_2 y19_2r := uy19_2
            have ty19_2 := cx_up ty15 uy19_2
            have wO_y19_2 := wg_up uy19_2 wO_y15
            have wA_y19_2 := wg_up uy19_2 vA_y15
            have vI_y19_2 : WG mu y19_2 y19_2r 139 (0) (64) (fun j => x7.toInt + j) := vI_y19_2
            refine rl_bnd (Q := fun (y z : Int32 × DD) => y.1 = z.1 ∧ (0 ≤ y.1.toInt ∧ y.1.toInt ≤ 4) ∧ Up mu 144 y19_2 y19_2r y.2 z.2) (rl_itr (fun (y z : Int32 × DD) => y.1 = z.1 ∧ (0 ≤ y.1.toInt ∧ y.1.toInt ≤ 4) ∧ Up mu 144 y19_2 y19_2r y.2 z.2) _ ?_ _ _ _ ?_) ?_
            · rintro ⟨s23_1, s23_2⟩ ⟨s23_1r, s23_2r⟩ ⟨es23_1, ls23_1, us23_2⟩
              obtain rfl : s23_1 = s23_1r := es23_1
              have ls23_1 : 0 ≤ s23_1.toInt ∧ s23_1.toInt ≤ 4 := ls23_1
              have is23_1 : TI s23_1 s23_1.toInt := rfl
              have us23_2 : Up mu 144 y19_2 y19_2r s23_2 s23_2r := us23_2
              have ts23_2 := cx_up ty19_2 us23_2
              have wO_s23_2 := wg_up us23_2 wO_y19_2
              have wA_s23_2 := wg_up us23_2 wA_y19_2
              have wI_s23_2 := wg_up us23_2 vI_y19_2
              refine rl_if (fun c11 => ?_) (fun c11 => ?_)
              · have dc11 := tl_le tn_4 is23_1 c11
                exact rl_inr ⟨rfl, (ti_bd is23_1 (by omega) (by omega)), us23_2⟩
              · have dc11 := tl_nle tn_4 is23_1 c11
                refine rl_if (fun c12 => ?_) (fun c12 => ?_)
                · have dc12 := tl_eq (rfl : TI p2 p2.toInt) tn_0 c12
                  refine rl_bnd (r_colourMean ts23_2 is23_1 (by omega) (by omega) wA_s23_2) ?_
                  rintro ⟨y28_1, y28_2⟩ ⟨y28_1r, y28_2r⟩ ⟨uy28_1', ey28_2⟩
                  have uy28_1 : Up mu 144 s23_2 s23_2r y28_1 y28_1r := uy28_1'
                  have ty28_1 := cx_up ts23_2 uy28_1
                  have wO_y28_1 := wg_up uy28_1 wO_s23_2
                  have wA_y28_1 := wg_up uy28_1 wA_s23_2
                  have wI_y28_1 := wg_up uy28_1 wI_s23_2
                  obtain rfl : y28_2 = y28_2r := ey28_2
                  refine rl_bnd (Q := fun (y z : Int32 × DD) => y.1 = z.1 ∧ (0 ≤ y.1.toInt ∧ y.1.toInt ≤ 16) ∧ Up mu 144 y28_1 y28_1r y.2 z.2) (rl_itr (fun (y z : Int32 × DD) => y.1 = z.1 ∧ (0 ≤ y.1.toInt ∧ y.1.toInt ≤ 16) ∧ Up mu 144 y28_1 y28_1r y.2 z.2) _ ?_ _ _ _ ?_) ?_
                  · rintro ⟨s30_1, s30_2⟩ ⟨s30_1r, s30_2r⟩ ⟨es30_1, ls30_1, us30_2⟩
                    obtain rfl : s30_1 = s30_1r := es30_1
                    have ls30_1 : 0 ≤ s30_1.toInt ∧ s30_1.toInt ≤ 16 := ls30_1
                    have is30_1 : TI s30_1 s30_1.toInt := rfl
                    have us30_2 : Up mu 144 y28_1 y28_1r s30_2 s30_2r := us30_2
                    have ts30_2 := cx_up ty28_1 us30_2
                    have wO_s30_2 := wg_up us30_2 wO_y28_1
                    have wA_s30_2 := wg_up us30_2 wA_y28_1
                    have wI_s30_2 := wg_up us30_2 wI_y28_1
                    refine rl_if (fun c13 => ?_) (fun c13 => ?_)
                    · have dc13 := tl_le tn_16 is30_1 c13
                      exact rl_inr ⟨rfl, (ti_bd is30_1 (by omega) (by omega)), us30_2⟩
                    · have dc13 := tl_nle tn_16 is30_1 c13
                      refine rl_ltI (av_div is23_1 tn_2 (by omega) (by omega)) (fun x35 ix35 => ?_)
                      refine rl_ltI (av_mul ix35 tn_4 (by omega) (by omega)) (fun x36 ix36 => ?_)
                      refine rl_ltI (av_div is30_1 tn_4 (by omega) (by omega)) (fun x37 ix37 => ?_)
                      refine rl_ltI (av_add ix36 ix37 (by omega) (by omega)) (fun x38 ix38 => ?_)
                      refine rl_ltI (av_mul ix38 tn_8 (by omega) (by omega)) (fun x39 ix39 => ?_)
                      refine rl_ltI (av_add ix7 ix39 (by omega) (by omega)) (fun x40 ix40 => ?_)
                      refine rl_ltI (av_mod is23_1 tn_2 (by omega) (by omega)) (fun x41 ix41 => ?_)
                      refine rl_ltI (av_mul ix41 tn_4 (by omega) (by omega)) (fun x42 ix42 => ?_)
                      refine rl_ltI (av_add ix40 ix42 (by omega) (by omega)) (fun x43 ix43 => ?_)
                      refine rl_ltI (av_mod is30_1 tn_4 (by omega) (by omega)) (fun x44 ix44 => ?_)
                      refine rl_ltI (av_add ix43 ix44 (by omega) (by omega)) (fun x45 ix45 => ?_)
                      refine rl_dr (cx_U ts30_2) (rx_c (a := 138) (k := 0) (b := 139) ts30_2 (Or.inr (Or.inl rfl)) rfl (by decide)) (fun gb46 => ?_)
                      refine rl_chk (chkl (cx_U ts30_2) gb46) (fun k14 => ?_)
                      refine rl_w (κ := 144) (cx_U ts30_2) (by decide) (fun M47 M47r uM47 AM47 nM47 => ?_)
                      have tM47 := cx_up ts30_2 uM47
                      have wO_M47 := wg_up uM47 wO_s30_2
                      have wA_M47 := wg_up uM47 wA_s30_2
                      have wI_M47 := wg_up uM47 wI_s30_2
                      refine rl_ltI (av_add is30_1 tn_1 (by omega) (by omega)) (fun x48 ix48 => ?_)
                      exact rl_inl ⟨rfl, (ti_bd ix48 (by omega) (by omega)), (up_tr us30_2 uM47)⟩
                  · exact ⟨rfl, (ti_bd tn_0 (by omega) (by omega)), (up_0 mu (κ := 144) _ _)⟩
                  · rintro ⟨y29_1, y29_2⟩ ⟨y29_1r, y29_2r⟩ ⟨ey29_1, ly29_1, uy29_2⟩
                    obtain rfl : y29_1 = y29_1r := ey29_1
                    have ly29_1 : 0 ≤ y29_1.toInt ∧ y29_1.toInt ≤ 16 := ly29_1
                    have iy29_1 : TI y29_1 y29_1.toInt := rfl
                    have uy29_2 : Up mu 144 y28_1 y28_1r y29_2 y29_2r := uy29_2
                    have ty29_2 := cx_up ty28_1 uy29_2
                    have wO_y29_2 := wg_up uy29_2 wO_y28_1
                    have wA_y29_2 := wg_up uy29_2 wA_y28_1
                    have wI_y29_2 := wg_up uy29_2 wI_y28_1
                    refine rl_ltI (av_add is23_1 tn_1 (by omega) (by omega)) (fun x32 ix32 => ?_)
                    exact rl_inl ⟨rfl, (ti_bd ix32 (by omega) (by omega)), (up_tr (up_tr us23_2 uy28_1) uy29_2)⟩
                · exact rl_inr ⟨rfl, (ti_bd is23_1 (by omega) (by omega)), us23_2⟩
            · exact ⟨rfl, (ti_bd tn_0 (by omega) (by omega)), (up_0 mu (κ := 144) _ _)⟩
            · rintro ⟨y22_1, y22_2⟩ ⟨y22_1r, y22_2r⟩ ⟨ey22_1, ly22_1, uy22_2⟩
              obtain rfl : y22_1 = y22_1r := ey22_1
              have ly22_1 : 0 ≤ y22_1.toInt ∧ y22_1.toInt ≤ 4 := ly22_1
              have iy22_1 : TI y22_1 y22_1.toInt := rfl
              have uy22_2 : Up mu 144 y19_2 y19_2r y22_2 y22_2r := uy22_2
              have ty22_2 := cx_up ty19_2 uy22_2
              have wO_y22_2 := wg_up uy22_2 wO_y19_2
              have wA_y22_2 := wg_up uy22_2 wA_y19_2
              have wI_y22_2 := wg_up uy22_2 vI_y19_2
              exact rl_some ⟨(up_tr uy19_2 uy22_2), wI_y22_2⟩
      · rintro y16 y16r ⟨uy16, wI_y16⟩
        have uy16 : Up mu 144 y15 y15r y16 y16r := uy16
        have ty16 := cx_up ty15 uy16
        have wO_y16 := wg_up uy16 wO_y15
        have wA_y16 := wg_up uy16 vA_y15
        have wI_y16 : WG mu y16 y16r 139 0 64 (fun j => x7.toInt + j) := wI_y16
        refine rl_ltI (av_add is2_1 tn_1 (by omega) (by omega)) (fun x17 ix17 => ?_)
        exact rl_inl ⟨rfl, (ti_bd ix17 (by omega) (by omega)), (up_tr (up_tr (up_tr us2_2 uy11_1) uy15) uy16), (by have q : _ = _ := ix7; exact wg_app wO_y16 wI_y16 (by (try dsimp only) <;> omega) (by have q2 : _ = _ := ix17; (try dsimp only) <;> omega))⟩
  · exact ⟨rfl, (ti_bd tn_1 (by omega) (by omega)), (up_0 mu (κ := 144) _ _), (wg_0 (by have q : _ = _ := tn_1; (try dsimp only) <;> omega))⟩
  · rintro ⟨y1_1, y1_2⟩ ⟨y1_1r, y1_2r⟩ ⟨ey1_1, ly1_1, uy1_2, vO_y1_2⟩
    obtain rfl : y1_1 = y1_1r := ey1_1
    have ly1_1 : 1 ≤ y1_1.toInt ∧ y1_1.toInt ≤ 3 := ly1_1
    have iy1_1 : TI y1_1 y1_1.toInt := rfl
    have uy1_2 : Up mu 144 M N y1_2 y1_2r := uy1_2
    have ty1_2 := cx_up t uy1_2
    have vO_y1_2 : WG mu y1_2 y1_2r 139 (256) (384) (fun j => j) := vO_y1_2
    exact rl_some ⟨uy1_2, vO_y1_2⟩
theorem r_takeMotion {mu : Nat → Nat} {G H : GG} {M N : DD} {p : Nat} {L : List Nat} (t : CX mu G H M N p L) {p0 p0r : Option Nat} {q0 : Nat} (e0 : p0 = some q0 ∧ p0r = some (mu q0)) (hq0 : q0 ∈ L) {p1 : Int32} : LKS (FX6_takeMotion G M 138 p0 p1) (FX6_takeMotion H N (mu 138) p0r p1) (fun y z => Up mu 216 M N y z ∧ WG mu y z 144 0 6 (fun j => j)) := by
  unfold FX6_takeMotion
  obtain ⟨rfl, rfl⟩ := e0
  refine rl_bnd (Q := fun (y z : Int32 × DD) => y.1 = z.1 ∧ (0 ≤ y.1.toInt ∧ y.1.toInt ≤ 2) ∧ Up mu 216 M N y.2 z.2 ∧ WG mu y.2 z.2 144 (0) (2) (fun j => 3 * j) ∧ WG mu y.2 z.2 144 (0) (2) (fun j => 3 * j + 1) ∧ WG mu y.2 z.2 144 (0) (2) (fun j => 3 * j + 2)) (rl_itr (fun (y z : Int32 × DD) => y.1 = z.1 ∧ (0 ≤ y.1.toInt ∧ y.1.toInt ≤ 2) ∧ Up mu 216 M N y.2 z.2 ∧ WG mu y.2 z.2 144 (0) (y.1.toInt) (fun j => 3 * j) ∧ WG mu y.2 z.2 144 (0) (y.1.toInt) (fun j => 3 * j + 1) ∧ WG mu y.2 z.2 144 (0) (y.1.toInt) (fun j => 3 * j + 2)) _ ?_ _ _ _ ?_) ?_
  · rintro ⟨s2_1, s2_2⟩ ⟨s2_1r, s2_2r⟩ ⟨es2_1, ls2_1, us2_2, va_s2_2, vb_s2_2, vd_s2_2⟩
    obtain rfl : s2_1 = s2_1r := es2_1
    have ls2_1 : 0 ≤ s2_1.toInt ∧ s2_1.toInt ≤ 2 := ls2_1
    have is2_1 : TI s2_1 s2_1.toInt := rfl
    have us2_2 : Up mu 216 M N s2_2 s2_2r := us2_2
    have ts2_2 := cx_up t us2_2
    have va_s2_2 : WG mu s2_2 s2_2r 144 (0) (s2_1.toInt) (fun j => 3 * j) := va_s2_2
    have vb_s2_2 : WG mu s2_2 s2_2r 144 (0) (s2_1.toInt) (fun j => 3 * j + 1) := vb_s2_2
    have vd_s2_2 : WG mu s2_2 s2_2r 144 (0) (s2_1.toInt) (fun j => 3 * j + 2) := vd_s2_2
    refine rl_if (fun c1 => ?_) (fun c1 => ?_)
    · have dc1 := tl_le tn_2 is2_1 c1
      exact rl_inr ⟨rfl, (ti_bd is2_1 (by omega) (by omega)), us2_2, (wg_sub va_s2_2 (by omega) (by omega)), (wg_sub vb_s2_2 (by omega) (by omega)), (wg_sub vd_s2_2 (by omega) (by omega))⟩
    · have dc1 := tl_nle tn_2 is2_1 c1
      refine rl_bnd (r_at ts2_2) ?_
      rintro ⟨y6_1, y6_2⟩ ⟨y6_1r, y6_2r⟩ ⟨uy6_1', ey6_2⟩
      have uy6_1 : Up mu 216 s2_2 s2_2r y6_1 y6_1r := (up_wk uy6_1')
      have ty6_1 := cx_up ts2_2 uy6_1
      have wa_y6_1 := wg_up uy6_1 va_s2_2
      have wb_y6_1 := wg_up uy6_1 vb_s2_2
      have wd_y6_1 := wg_up uy6_1 vd_s2_2
      obtain rfl : y6_2 = y6_2r := ey6_2
      refine rl_ltI (av_mul tn_3 is2_1 (by omega) (by omega)) (fun x7 ix7 => ?_)
      refine rl_dr (cx_U ty6_1) ⟨rfl, rfl⟩ (fun gb8 => ?_)
      refine rl_dr (cx_U ty6_1) (rx_5 ty6_1 hq0) (fun gb9 => ?_)
      refine rl_chk (chkl (cx_U ty6_1) gb9) (fun k2 => ?_)
      refine rl_rd (cx_qj (j := 6) ty6_1 hq0 (by decide) _) (fun x10 => ?_)
      refine rl_dr (cx_U ty6_1) (rx_c (a := 138) (k := 5) (b := 144) ty6_1 (Or.inr (Or.inl rfl)) rfl (by decide)) (fun gb11 => ?_)
      refine rl_chk (chkl (cx_U ty6_1) gb11) (fun k3 => ?_)
      refine rl_w (κ := 216) (cx_U ty6_1) (by decide) (fun M12 M12r uM12 AM12 nM12 => ?_)
      have tM12 := cx_up ty6_1 uM12
      have wa_M12 := wg_up uM12 wa_y6_1
      have wb_M12 := wg_up uM12 wb_y6_1
      have wd_M12 := wg_up uM12 wd_y6_1
      refine rl_ltI (av_mul tn_3 is2_1 (by omega) (by omega)) (fun x13 ix13 => ?_)
      refine rl_ltI (av_add ix13 tn_1 (by omega) (by omega)) (fun x14 ix14 => ?_)
      refine rl_ltA (fun x15 => ?_)
      refine rl_dr (cx_U tM12) (rx_7 tM12 hq0) (fun gb16 => ?_)
      refine rl_chk (chkl (cx_U tM12) gb16) (fun k4 => ?_)
      refine rl_rd (cx_qj (j := 8) tM12 hq0 (by decide) _) (fun x17 => ?_)
      refine rl_dr (cx_U tM12) (rx_c (a := 138) (k := 5) (b := 144) tM12 (Or.inr (Or.inl rfl)) rfl (by decide)) (fun gb18 => ?_)
      refine rl_chk (chkl (cx_U tM12) gb18) (fun k5 => ?_)
      refine rl_w (κ := 216) (cx_U tM12) (by decide) (fun M19 M19r uM19 AM19 nM19 => ?_)
      have tM19 := cx_up tM12 uM19
      have wa_M19 := wg_up uM19 wa_M12
      have wb_M19 := wg_up uM19 wb_M12
      have wd_M19 := wg_up uM19 wd_M12
      refine rl_ltI (av_mul tn_3 is2_1 (by omega) (by omega)) (fun x20 ix20 => ?_)
      refine rl_ltI (av_add ix20 tn_2 (by omega) (by omega)) (fun x21 ix21 => ?_)
      refine rl_ltA (fun x22 => ?_)
      refine rl_ltA (fun x23 => ?_)
      refine rl_dr (cx_U tM19) (rx_7 tM19 hq0) (fun gb24 => ?_)
      refine rl_chk (chkl (cx_U tM19) gb24) (fun k6 => ?_)
      refine rl_rd (cx_qj (j := 8) tM19 hq0 (by decide) _) (fun x25 => ?_)
      refine rl_dr (cx_U tM19) (rx_c (a := 138) (k := 5) (b := 144) tM19 (Or.inr (Or.inl rfl)) rfl (by decide)) (fun gb26 => ?_)
      refine rl_chk (chkl (cx_U tM19) gb26) (fun k7 => ?_)
      refine rl_w (κ := 216) (cx_U tM19) (by decide) (fun M27 M27r uM27 AM27 nM27 => ?_)
      have tM27 := cx_up tM19 uM27
      have wa_M27 := wg_up uM27 wa_M19
      have wb_M27 := wg_up uM27 wb_M19
      have wd_M27 := wg_up uM27 wd_M19
      refine rl_ltI (av_add is2_1 tn_1 (by omega) (by omega)) (fun x28 ix28 => ?_)
      exact rl_inl ⟨rfl, (ti_bd ix28 (by omega) (by omega)), (up_tr (up_tr (up_tr (up_tr us2_2 uy6_1) uM12) uM19) uM27), (wg_ext wa_M27 ix7 (ag_up (up_tr uM19 uM27) AM12) (by (try dsimp only) <;> omega) (by have q : _ = _ := ix28; (try dsimp only) <;> omega)), (wg_ext wb_M27 ix14 (ag_up uM27 AM19) (by (try dsimp only) <;> omega) (by have q : _ = _ := ix28; (try dsimp only) <;> omega)), (wg_ext wd_M27 ix21 (ag_up (up_0 mu (κ := 216) _ _) AM27) (by (try dsimp only) <;> omega) (by have q : _ = _ := ix28; (try dsimp only) <;> omega))⟩
  · exact ⟨rfl, (ti_bd tn_0 (by omega) (by omega)), (up_0 mu (κ := 216) _ _), (wg_0 (by have q : _ = _ := tn_0; (try dsimp only) <;> omega)), (wg_0 (by have q : _ = _ := tn_0; (try dsimp only) <;> omega)), (wg_0 (by have q : _ = _ := tn_0; (try dsimp only) <;> omega))⟩
  · rintro ⟨y1_1, y1_2⟩ ⟨y1_1r, y1_2r⟩ ⟨ey1_1, ly1_1, uy1_2, va_y1_2, vb_y1_2, vd_y1_2⟩
    obtain rfl : y1_1 = y1_1r := ey1_1
    have ly1_1 : 0 ≤ y1_1.toInt ∧ y1_1.toInt ≤ 2 := ly1_1
    have iy1_1 : TI y1_1 y1_1.toInt := rfl
    have uy1_2 : Up mu 216 M N y1_2 y1_2r := uy1_2
    have ty1_2 := cx_up t uy1_2
    have va_y1_2 : WG mu y1_2 y1_2r 144 (0) (2) (fun j => 3 * j) := va_y1_2
    have vb_y1_2 : WG mu y1_2 y1_2r 144 (0) (2) (fun j => 3 * j + 1) := vb_y1_2
    have vd_y1_2 : WG mu y1_2 y1_2r 144 (0) (2) (fun j => 3 * j + 2) := vd_y1_2
    exact rl_some ⟨uy1_2, (wg_6 va_y1_2 vb_y1_2 vd_y1_2)⟩
theorem r_movesAlike {mu : Nat → Nat} {G H : GG} {M N : DD} {p : Nat} {L : List Nat} (t : CX mu G H M N p L) {q : Nat} (hq : q ∈ L) {p0 : Int32} {p1 : Int32} : LKS (FX4_movesAlike G M q p0 p1) (FX4_movesAlike H N (mu q) p0 p1) (fun y z => Up mu 144 M N y.1 z.1 ∧ y.2 = z.2) := by
  unfold FX4_movesAlike
  refine rl_bnd (Q := SM (fun (y z : ( Int32 × DD )) => y.1 = z.1 ∧ (0 ≤ y.1.toInt ∧ y.1.toInt ≤ 2) ∧ Up mu 144 M N y.2 z.2) (fun (y z : ( DD × Int32 )) => Up mu 144 M N y.1 z.1 ∧ y.2 = z.2)) (rl_itr (fun (y z : Int32 × DD) => y.1 = z.1 ∧ (0 ≤ y.1.toInt ∧ y.1.toInt ≤ 2) ∧ Up mu 144 M N y.2 z.2) _ ?_ _ _ _ ?_) ?_
  · rintro ⟨s2_1, s2_2⟩ ⟨s2_1r, s2_2r⟩ ⟨es2_1, ls2_1, us2_2⟩
    obtain rfl : s2_1 = s2_1r := es2_1
    have ls2_1 : 0 ≤ s2_1.toInt ∧ s2_1.toInt ≤ 2 := ls2_1
    have is2_1 : TI s2_1 s2_1.toInt := rfl
    have us2_2 : Up mu 144 M N s2_2 s2_2r := us2_2
    have ts2_2 := cx_up t us2_2
    refine rl_if (fun c1 => ?_) (fun c1 => ?_)
    · have dc1 := tl_le tn_2 is2_1 c1
      exact rl_inr (sm_l ⟨rfl, (ti_bd is2_1 (by omega) (by omega)), us2_2⟩)
    · have dc1 := tl_nle tn_2 is2_1 c1
      refine rl_bnd (r_at ts2_2) ?_
      rintro ⟨y6_1, y6_2⟩ ⟨y6_1r, y6_2r⟩ ⟨uy6_1', ey6_2⟩
      have uy6_1 : Up mu 144 s2_2 s2_2r y6_1 y6_1r := uy6_1'
      have ty6_1 := cx_up ts2_2 uy6_1
      obtain rfl : y6_2 = y6_2r := ey6_2
      refine rl_bnd (r_at ty6_1) ?_
      rintro ⟨y7_1, y7_2⟩ ⟨y7_1r, y7_2r⟩ ⟨uy7_1', ey7_2⟩
      have uy7_1 : Up mu 144 y6_1 y6_1r y7_1 y7_1r := uy7_1'
      have ty7_1 := cx_up ty6_1 uy7_1
      obtain rfl : y7_2 = y7_2r := ey7_2
      refine rl_dr (cx_U ty7_1) (rx_5 ty7_1 hq) (fun gb8 => ?_)
      refine rl_chk (chkl (cx_U ty7_1) gb8) (fun k2 => ?_)
      refine rl_rd (cx_qj (j := 6) ty7_1 hq (by decide) _) (fun x9 => ?_)
      refine rl_chk (chkl (cx_U ty7_1) gb8) (fun k3 => ?_)
      refine rl_rd (cx_qj (j := 6) ty7_1 hq (by decide) _) (fun x10 => ?_)
      refine rl_if (fun c4 => ?_) (fun c4 => ?_)
      · have dc4 := tl_eq (rfl : TI x9 x9.toInt) (rfl : TI x10 x10.toInt) c4
        refine rl_ltA (fun x12 => ?_)
        refine rl_dr (cx_U ty7_1) (rx_7 ty7_1 hq) (fun gb13 => ?_)
        refine rl_chk (chkl (cx_U ty7_1) gb13) (fun k5 => ?_)
        refine rl_rd (cx_qj (j := 8) ty7_1 hq (by decide) _) (fun x14 => ?_)
        refine rl_ltA (fun x15 => ?_)
        refine rl_chk (chkl (cx_U ty7_1) gb13) (fun k6 => ?_)
        refine rl_rd (cx_qj (j := 8) ty7_1 hq (by decide) _) (fun x16 => ?_)
        refine rl_if (fun c7 => ?_) (fun c7 => ?_)
        · have dc7 := tl_eq (rfl : TI x14 x14.toInt) (rfl : TI x16 x16.toInt) c7
          refine rl_ltA (fun x18 => ?_)
          refine rl_ltA (fun x19 => ?_)
          refine rl_chk (chkl (cx_U ty7_1) gb13) (fun k8 => ?_)
          refine rl_rd (cx_qj (j := 8) ty7_1 hq (by decide) _) (fun x20 => ?_)
          refine rl_ltA (fun x21 => ?_)
          refine rl_ltA (fun x22 => ?_)
          refine rl_chk (chkl (cx_U ty7_1) gb13) (fun k9 => ?_)
          refine rl_rd (cx_qj (j := 8) ty7_1 hq (by decide) _) (fun x23 => ?_)
          refine rl_if (fun c10 => ?_) (fun c10 => ?_)
          · have dc10 := tl_eq (rfl : TI x20 x20.toInt) (rfl : TI x23 x23.toInt) c10
            refine rl_ltI (av_add is2_1 tn_1 (by omega) (by omega)) (fun x25 ix25 => ?_)
            exact rl_inl ⟨rfl, (ti_bd ix25 (by omega) (by omega)), (up_tr (up_tr us2_2 uy6_1) uy7_1)⟩
          · refine rl_chk (fun h => h) (fun k11 => ?_)
            exact rl_inr (sm_r ⟨(up_tr (up_tr us2_2 uy6_1) uy7_1), rfl⟩)
        · refine rl_chk (fun h => h) (fun k12 => ?_)
          exact rl_inr (sm_r ⟨(up_tr (up_tr us2_2 uy6_1) uy7_1), rfl⟩)
      · refine rl_chk (fun h => h) (fun k13 => ?_)
        exact rl_inr (sm_r ⟨(up_tr (up_tr us2_2 uy6_1) uy7_1), rfl⟩)
  · exact ⟨rfl, (ti_bd tn_0 (by omega) (by omega)), (up_0 mu (κ := 144) _ _)⟩
  · intro y1 y1r hyy1
    refine rl_sel hyy1 ?_ (fun a b h => rl_some h)
    rintro ⟨z1k_1, z1k_2⟩ ⟨z1k_1r, z1k_2r⟩ ⟨ez1k_1, lz1k_1, uz1k_2⟩
    obtain rfl : z1k_1 = z1k_1r := ez1k_1
    have lz1k_1 : 0 ≤ z1k_1.toInt ∧ z1k_1.toInt ≤ 2 := lz1k_1
    have iz1k_1 : TI z1k_1 z1k_1.toInt := rfl
    have uz1k_2 : Up mu 144 M N z1k_2 z1k_2r := uz1k_2
    have tz1k_2 := cx_up t uz1k_2
    refine rl_chk (fun h => h) (fun k14 => ?_)
    exact rl_some ⟨uz1k_2, rfl⟩
