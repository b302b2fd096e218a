/-! two runs in lockstep, printed out of the functions' trees -/
theorem r_smooth {mu : Nat → Nat} {G H : GG} {M N : DD} {p : Nat} {L : List Nat} (t : CX mu G H M N p L) {p0 p0r : Option Nat} {q0 j0 : Nat} (e0 : p0 = some (q0 + j0) ∧ p0r = some (mu (q0 + j0))) (hq0 : q0 ∈ L) (hj0 : j0 = 9 ∨ j0 = 10 ∨ j0 = 11) {p1 : Int32} {p2 : Int32} {p3 : Int32} {p4 : Int32} {p5 : Int32} : LKS (FX2_smooth G M p0 p1 p2 p3 p4 p5) (FX2_smooth H N p0r p1 p2 p3 p4 p5) (fun y z => Up mu 144 M N y z) := by
  unfold FX2_smooth
  obtain ⟨rfl, rfl⟩ := e0
  refine rl_dr (cx_U t) ⟨rfl, rfl⟩ (fun gb1 => ?_)
  refine rl_chk (chkl (cx_U t) gb1) (fun k1 => ?_)
  refine rl_rd (cx_pl t hq0 hj0 _) (fun x2 => ?_)
  refine rl_ltA (fun x3 => ?_)
  refine rl_chk (chkl (cx_U t) gb1) (fun k2 => ?_)
  refine rl_rd (cx_pl t hq0 hj0 _) (fun x4 => ?_)
  refine rl_if (fun c3 => ?_) (fun c3 => ?_)
  · have dc3 := tl_eq (rfl : TI p3 p3.toInt) tn_0 c3
    refine rl_ltA (fun x40 => ?_)
    refine rl_ltA (fun x41 => ?_)
    refine rl_ltA (fun x42 => ?_)
    refine rl_ltA (fun x43 => ?_)
    refine rl_ltA (fun x44 => ?_)
    refine rl_chk (chkl (cx_U t) gb1) (fun k4 => ?_)
    refine rl_w (κ := 144) (cx_U t) (by have := cx_q0 t hq0; omega) (fun M45 M45r uM45 AM45 nM45 => ?_)
    have tM45 := cx_up t uM45
    exact rl_some uM45
  · refine rl_ltA (fun x6 => ?_)
    refine rl_ltA (fun x7 => ?_)
    refine rl_chk (chkl (cx_U t) gb1) (fun k5 => ?_)
    refine rl_rd (cx_pl t hq0 hj0 _) (fun x8 => ?_)
    refine rl_ltA (fun x9 => ?_)
    refine rl_ltA (fun x10 => ?_)
    refine rl_chk (chkl (cx_U t) gb1) (fun k6 => ?_)
    refine rl_rd (cx_pl t hq0 hj0 _) (fun x11 => ?_)
    refine rl_ltA (fun x12 => ?_)
    refine rl_ltA (fun x13 => ?_)
    refine rl_ltA (fun x14 => ?_)
    refine rl_ltA (fun x15 => ?_)
    refine rl_ltA (fun x16 => ?_)
    refine rl_ltA (fun x17 => ?_)
    refine rl_ltA (fun x18 => ?_)
    refine rl_ltA (fun x19 => ?_)
    refine rl_ltA (fun x20 => ?_)
    refine rl_chk (chkl (cx_U t) gb1) (fun k7 => ?_)
    refine rl_w (κ := 144) (cx_U t) (by have := cx_q0 t hq0; omega) (fun M21 M21r uM21 AM21 nM21 => ?_)
    have tM21 := cx_up t uM21
    refine rl_ltA (fun x22 => ?_)
    refine rl_ltA (fun x23 => ?_)
    refine rl_ltA (fun x24 => ?_)
    refine rl_ltA (fun x25 => ?_)
    refine rl_ltA (fun x26 => ?_)
    refine rl_ltA (fun x27 => ?_)
    refine rl_chk (chkl (cx_U tM21) gb1) (fun k8 => ?_)
    refine rl_w (κ := 144) (cx_U tM21) (by have := cx_q0 tM21 hq0; omega) (fun M28 M28r uM28 AM28 nM28 => ?_)
    have tM28 := cx_up tM21 uM28
    refine rl_ltA (fun x29 => ?_)
    refine rl_ltA (fun x30 => ?_)
    refine rl_ltA (fun x31 => ?_)
    refine rl_ltA (fun x32 => ?_)
    refine rl_ltA (fun x33 => ?_)
    refine rl_ltA (fun x34 => ?_)
    refine rl_ltA (fun x35 => ?_)
    refine rl_ltA (fun x36 => ?_)
    refine rl_ltA (fun x37 => ?_)
    refine rl_ltA (fun x38 => ?_)
    refine rl_chk (chkl (cx_U tM28) gb1) (fun k9 => ?_)
    refine rl_w (κ := 144) (cx_U tM28) (by have := cx_q0 tM28 hq0; omega) (fun M39 M39r uM39 AM39 nM39 => ?_)
    have tM39 := cx_up tM28 uM39
    exact rl_some (up_tr (up_tr uM21 uM28) uM39)
theorem r_filterLine {mu : Nat → Nat} {G H : GG} {M N : DD} {p : Nat} {L : List Nat} (t : CX mu G H M N p L) {p0 p0r : Option Nat} {q0 j0 : Nat} (e0 : p0 = some (q0 + j0) ∧ p0r = some (mu (q0 + j0))) (hq0 : q0 ∈ L) (hj0 : j0 = 9 ∨ j0 = 10 ∨ j0 = 11) {p1 : Int32} {p2 : Int32} {p3 : Int32} {p4 : Int32} (h2 : Ag mu M N 148 2) (h3 : Ag mu M N 148 3) (h4 : Ag mu M N 148 4) : LKS (FX2_filterLine G M 148 p0 p1 p2 p3 p4) (FX2_filterLine H N (mu 148) p0r p1 p2 p3 p4) (fun y z => Up mu 144 M N y z) := by
  unfold FX2_filterLine
  obtain ⟨rfl, rfl⟩ := e0
  refine rl_ltA (fun x1 => ?_)
  refine rl_dr (cx_U t) ⟨rfl, rfl⟩ (fun gb2 => ?_)
  refine rl_chk (chkl (cx_U t) gb2) (fun k1 => ?_)
  refine rl_rd (cx_pl t hq0 hj0 _) (fun x3 => ?_)
  refine rl_ltA (fun x4 => ?_)
  refine rl_ltA (fun x5 => ?_)
  refine rl_chk (chkl (cx_U t) gb2) (fun k2 => ?_)
  refine rl_rd (cx_pl t hq0 hj0 _) (fun x6 => ?_)
  refine rl_chk (chkl (cx_U t) gb2) (fun k3 => ?_)
  refine rl_rd (cx_pl t hq0 hj0 _) (fun x7 => ?_)
  refine rl_ltA (fun x8 => ?_)
  refine rl_chk (chkl (cx_U t) gb2) (fun k4 => ?_)
  refine rl_rd (cx_pl t hq0 hj0 _) (fun x9 => ?_)
  refine rl_ltA (fun x10 => ?_)
  refine rl_ltA (fun x11 => ?_)
  refine rl_rd h2 (fun x12 => ?_)
  refine rl_if (fun c5 => ?_) (fun c5 => ?_)
  · have dc5 := tl_le (rfl : TI x12 x12.toInt) (rfl : TI x11 x11.toInt) c5
    exact rl_some (up_0 mu (κ := 144) _ _)
  · have dc5 := tl_nle (rfl : TI x12 x12.toInt) (rfl : TI x11 x11.toInt) c5
    refine rl_ltA (fun x14 => ?_)
    refine rl_ltA (fun x15 => ?_)
    refine rl_rd h3 (fun x16 => ?_)
    refine rl_if (fun c6 => ?_) (fun c6 => ?_)
    · have dc6 := tl_le (rfl : TI x16 x16.toInt) (rfl : TI x15 x15.toInt) c6
      exact rl_some (up_0 mu (κ := 144) _ _)
    · have dc6 := tl_nle (rfl : TI x16 x16.toInt) (rfl : TI x15 x15.toInt) c6
      refine rl_ltA (fun x18 => ?_)
      refine rl_ltA (fun x19 => ?_)
      refine rl_rd h3 (fun x20 => ?_)
      refine rl_if (fun c7 => ?_) (fun c7 => ?_)
      · have dc7 := tl_lt (rfl : TI x19 x19.toInt) (rfl : TI x20 x20.toInt) c7
        refine rl_bnd (Q := fun (y z : Int32 × DD) => y.1 = z.1 ∧ (0 ≤ y.1.toInt ∧ y.1.toInt ≤ 1) ∧ Up mu 144 M N y.2 z.2) ?_ ?_
        · refine rl_if (fun c8 => ?_) (fun c8 => ?_)
          · have dc8 := tl_eq (rfl : TI p4 p4.toInt) tn_0 c8
            exact rl_some ⟨rfl, (ti_bd tn_0 (by omega) (by omega)), (up_0 mu (κ := 144) _ _)⟩
          · refine rl_ltA (fun x131 => ?_)
            refine rl_ltA (fun x132 => ?_)
            refine rl_chk (chkl (cx_U t) gb2) (fun k9 => ?_)
            refine rl_rd (cx_pl t hq0 hj0 _) (fun x133 => ?_)
            refine rl_ltA (fun x134 => ?_)
            refine rl_ltA (fun x135 => ?_)
            refine rl_rd h3 (fun x136 => ?_)
            refine rl_bnd (Q := fun (y z : Int32) => y = z ∧ (0 ≤ y.toInt ∧ y.toInt ≤ 1)) ?_ ?_
            · refine rl_if (fun c10 => ?_) (fun c10 => ?_)
              · have dc10 := tl_le (rfl : TI x136 x136.toInt) (rfl : TI x135 x135.toInt) c10
                exact rl_some ⟨rfl, (ti_bd tn_0 (by omega) (by omega))⟩
              · have dc10 := tl_nle (rfl : TI x136 x136.toInt) (rfl : TI x135 x135.toInt) c10
                exact rl_some ⟨rfl, (ti_bd tn_1 (by omega) (by omega))⟩
            · rintro y137 y137r ⟨ey137, ly137⟩
              obtain rfl : y137 = y137r := ey137
              have ly137 : 0 ≤ y137.toInt ∧ y137.toInt ≤ 1 := ly137
              have iy137 : TI y137 y137.toInt := rfl
              exact rl_some ⟨rfl, (ti_bd iy137 (by omega) (by omega)), (up_0 mu (κ := 144) _ _)⟩
        · rintro ⟨y22_1, y22_2⟩ ⟨y22_1r, y22_2r⟩ ⟨ey22_1, ly22_1, uy22_2⟩
          obtain rfl : y22_1 = y22_1r := ey22_1
          have ly22_1 : 0 ≤ y22_1.toInt ∧ y22_1.toInt ≤ 1 := ly22_1
          have iy22_1 : TI y22_1 y22_1.toInt := rfl
          have uy22_2 : Up mu 144 M N y22_2 y22_2r := uy22_2
          have ty22_2 := cx_up t uy22_2
          have wP148_2_y22_2 := ag_up uy22_2 h2
          have wP148_3_y22_2 := ag_up uy22_2 h3
          have wP148_4_y22_2 := ag_up uy22_2 h4
          refine rl_bnd (Q := fun (y z : Int32 × DD) => y.1 = z.1 ∧ (0 ≤ y.1.toInt ∧ y.1.toInt ≤ 1) ∧ Up mu 144 y22_2 y22_2r y.2 z.2) ?_ ?_
          · refine rl_if (fun c11 => ?_) (fun c11 => ?_)
            · have dc11 := tl_eq (rfl : TI p4 p4.toInt) tn_0 c11
              exact rl_some ⟨rfl, (ti_bd tn_0 (by omega) (by omega)), (up_0 mu (κ := 144) _ _)⟩
            · refine rl_ltA (fun x122 => ?_)
              refine rl_ltA (fun x123 => ?_)
              refine rl_chk (chkl (cx_U ty22_2) gb2) (fun k12 => ?_)
              refine rl_rd (cx_pl ty22_2 hq0 hj0 _) (fun x124 => ?_)
              refine rl_ltA (fun x125 => ?_)
              refine rl_ltA (fun x126 => ?_)
              refine rl_rd wP148_3_y22_2 (fun x127 => ?_)
              refine rl_bnd (Q := fun (y z : Int32) => y = z ∧ (0 ≤ y.toInt ∧ y.toInt ≤ 1)) ?_ ?_
              · refine rl_if (fun c13 => ?_) (fun c13 => ?_)
                · have dc13 := tl_le (rfl : TI x127 x127.toInt) (rfl : TI x126 x126.toInt) c13
                  exact rl_some ⟨rfl, (ti_bd tn_0 (by omega) (by omega))⟩
                · have dc13 := tl_nle (rfl : TI x127 x127.toInt) (rfl : TI x126 x126.toInt) c13
                  exact rl_some ⟨rfl, (ti_bd tn_1 (by omega) (by omega))⟩
              · rintro y128 y128r ⟨ey128, ly128⟩
                obtain rfl : y128 = y128r := ey128
                have ly128 : 0 ≤ y128.toInt ∧ y128.toInt ≤ 1 := ly128
                have iy128 : TI y128 y128.toInt := rfl
                exact rl_some ⟨rfl, (ti_bd iy128 (by omega) (by omega)), (up_0 mu (κ := 144) _ _)⟩
          · rintro ⟨y23_1, y23_2⟩ ⟨y23_1r, y23_2r⟩ ⟨ey23_1, ly23_1, uy23_2⟩
            obtain rfl : y23_1 = y23_1r := ey23_1
            have ly23_1 : 0 ≤ y23_1.toInt ∧ y23_1.toInt ≤ 1 := ly23_1
            have iy23_1 : TI y23_1 y23_1.toInt := rfl
            have uy23_2 : Up mu 144 y22_2 y22_2r y23_2 y23_2r := uy23_2
            have ty23_2 := cx_up ty22_2 uy23_2
            have wP148_2_y23_2 := ag_up uy23_2 wP148_2_y22_2
            have wP148_3_y23_2 := ag_up uy23_2 wP148_3_y22_2
            have wP148_4_y23_2 := ag_up uy23_2 wP148_4_y22_2
            refine rl_if (fun c14 => ?_) (fun c14 => ?_)
            · have dc14 := tl_eq (rfl : TI p3 p3.toInt) tn_4 c14
              refine rl_ltA (fun x102 => ?_)
              refine rl_ltA (fun x103 => ?_)
              refine rl_rd wP148_2_y23_2 (fun x104 => ?_)
              refine rl_ltA (fun x105 => ?_)
              refine rl_ltA (fun x106 => ?_)
              refine rl_bnd (Q := fun (y z : Int32) => y = z ∧ (0 ≤ y.toInt ∧ y.toInt ≤ 1)) ?_ ?_
              · refine rl_if (fun c15 => ?_) (fun c15 => ?_)
                · have dc15 := tl_le (rfl : TI x106 x106.toInt) (rfl : TI x103 x103.toInt) c15
                  exact rl_some ⟨rfl, (ti_bd tn_0 (by omega) (by omega))⟩
                · have dc15 := tl_nle (rfl : TI x106 x106.toInt) (rfl : TI x103 x103.toInt) c15
                  exact rl_some ⟨rfl, (ti_bd tn_1 (by omega) (by omega))⟩
              · rintro y107 y107r ⟨ey107, ly107⟩
                obtain rfl : y107 = y107r := ey107
                have ly107 : 0 ≤ y107.toInt ∧ y107.toInt ≤ 1 := ly107
                have iy107 : TI y107 y107.toInt := rfl
                refine rl_ltA (fun x108 => ?_)
                refine rl_ltA (fun x109 => ?_)
                refine rl_bnd (Q := fun (y z : Int32) => y = z ∧ (0 ≤ y.toInt ∧ y.toInt ≤ 1)) ?_ ?_
                · refine rl_if (fun c16 => ?_) (fun c16 => ?_)
                  · have dc16 := tl_eq iy22_1 tn_0 c16
                    exact rl_some ⟨rfl, (ti_bd tn_0 (by omega) (by omega))⟩
                  · refine rl_bnd (Q := fun (y z : Int32) => y = z ∧ (0 ≤ y.toInt ∧ y.toInt ≤ 1)) ?_ ?_
                    · refine rl_if (fun c17 => ?_) (fun c17 => ?_)
                      · have dc17 := tl_eq iy107 tn_0 c17
                        exact rl_some ⟨rfl, (ti_bd tn_0 (by omega) (by omega))⟩
                      · exact rl_some ⟨rfl, (ti_bd tn_1 (by omega) (by omega))⟩
                    · rintro y118 y118r ⟨ey118, ly118⟩
                      obtain rfl : y118 = y118r := ey118
                      have ly118 : 0 ≤ y118.toInt ∧ y118.toInt ≤ 1 := ly118
                      have iy118 : TI y118 y118.toInt := rfl
                      exact rl_some ⟨rfl, (ti_bd iy118 (by omega) (by omega))⟩
                · rintro y110 y110r ⟨ey110, ly110⟩
                  obtain rfl : y110 = y110r := ey110
                  have ly110 : 0 ≤ y110.toInt ∧ y110.toInt ≤ 1 := ly110
                  have iy110 : TI y110 y110.toInt := rfl
                  refine rl_bnd (r_smooth ty23_2 ⟨rfl, rfl⟩ hq0 hj0) ?_
                  rintro y111 y111r uy111'
                  have uy111 : Up mu 144 y23_2 y23_2r y111 y111r := uy111'
                  have ty111 := cx_up ty23_2 uy111
                  have wP148_2_y111 := ag_up uy111 wP148_2_y23_2
                  have wP148_3_y111 := ag_up uy111 wP148_3_y23_2
                  have wP148_4_y111 := ag_up uy111 wP148_4_y23_2
                  refine rl_bnd (Q := fun (y z : Int32) => y = z ∧ (0 ≤ y.toInt ∧ y.toInt ≤ 1)) ?_ ?_
                  · refine rl_if (fun c18 => ?_) (fun c18 => ?_)
                    · have dc18 := tl_eq iy23_1 tn_0 c18
                      exact rl_some ⟨rfl, (ti_bd tn_0 (by omega) (by omega))⟩
                    · refine rl_bnd (Q := fun (y z : Int32) => y = z ∧ (0 ≤ y.toInt ∧ y.toInt ≤ 1)) ?_ ?_
                      · refine rl_if (fun c19 => ?_) (fun c19 => ?_)
                        · have dc19 := tl_eq iy107 tn_0 c19
                          exact rl_some ⟨rfl, (ti_bd tn_0 (by omega) (by omega))⟩
                        · exact rl_some ⟨rfl, (ti_bd tn_1 (by omega) (by omega))⟩
                      · rintro y115 y115r ⟨ey115, ly115⟩
                        obtain rfl : y115 = y115r := ey115
                        have ly115 : 0 ≤ y115.toInt ∧ y115.toInt ≤ 1 := ly115
                        have iy115 : TI y115 y115.toInt := rfl
                        exact rl_some ⟨rfl, (ti_bd iy115 (by omega) (by omega))⟩
                  · rintro y112 y112r ⟨ey112, ly112⟩
                    obtain rfl : y112 = y112r := ey112
                    have ly112 : 0 ≤ y112.toInt ∧ y112.toInt ≤ 1 := ly112
                    have iy112 : TI y112 y112.toInt := rfl
                    refine rl_bnd (r_smooth ty111 ⟨rfl, rfl⟩ hq0 hj0) ?_
                    rintro y113 y113r uy113'
                    have uy113 : Up mu 144 y111 y111r y113 y113r := uy113'
                    have ty113 := cx_up ty111 uy113
                    have wP148_2_y113 := ag_up uy113 wP148_2_y111
                    have wP148_3_y113 := ag_up uy113 wP148_3_y111
                    have wP148_4_y113 := ag_up uy113 wP148_4_y111
                    exact rl_some (up_tr (up_tr (up_tr uy22_2 uy23_2) uy111) uy113)
            · refine rl_rd wP148_4_y23_2 (fun x25 => ?_)
              refine rl_bnd (Q := fun (y z : Int32) => y = z ∧ (0 ≤ y.toInt ∧ y.toInt ≤ 25)) ?_ ?_
              · refine rl_if (fun c20 => ?_) (fun c20 => ?_)
                · have dc20 := tl_le tn_17 (rfl : TI x25 x25.toInt) c20
                  refine rl_rd wP148_4_y23_2 (fun x96 => ?_)
                  refine rl_ltA (fun x97 => ?_)
                  refine rl_ltA (fun x98 => ?_)
                  refine rl_ltA (fun x99 => ?_)
                  refine rl_ltA (fun x100 => ?_)
                  refine rl_chk (fun h => h) (fun _ => ?_)
                  refine rl_ltB (tb_5 _) (fun x101 lx101 => ?_)
                  have ix101 : TI x101 x101.toInt := rfl
                  exact rl_some ⟨rfl, (ti_bd ix101 (by omega) (by omega))⟩
                · have dc20 := tl_nle tn_17 (rfl : TI x25 x25.toInt) c20
                  exact rl_some ⟨rfl, (ti_bd tn_0 (by omega) (by omega))⟩
              · rintro y26 y26r ⟨ey26, ly26⟩
                obtain rfl : y26 = y26r := ey26
                have ly26 : 0 ≤ y26.toInt ∧ y26.toInt ≤ 25 := ly26
                have iy26 : TI y26 y26.toInt := rfl
                refine rl_bnd (Q := fun (y z : Int32) => y = z ∧ (0 ≤ y.toInt ∧ y.toInt ≤ 27)) ?_ ?_
                · refine rl_if (fun c22 => ?_) (fun c22 => ?_)
                  · have dc22 := tl_eq (rfl : TI p4 p4.toInt) tn_0 c22
                    refine rl_ltI (av_add iy26 tn_1 (by omega) (by omega)) (fun x88 ix88 => ?_)
                    exact rl_some ⟨rfl, (ti_bd ix88 (by omega) (by omega))⟩
                  · refine rl_bnd (Q := fun (y z : Int32) => y = z ∧ (0 ≤ y.toInt ∧ y.toInt ≤ 1)) ?_ ?_
                    · refine rl_if (fun c23 => ?_) (fun c23 => ?_)
                      · have dc23 := tl_eq iy22_1 tn_0 c23
                        exact rl_some ⟨rfl, (ti_bd tn_0 (by omega) (by omega))⟩
                      · exact rl_some ⟨rfl, (ti_bd tn_1 (by omega) (by omega))⟩
                    · rintro y89 y89r ⟨ey89, ly89⟩
                      obtain rfl : y89 = y89r := ey89
                      have ly89 : 0 ≤ y89.toInt ∧ y89.toInt ≤ 1 := ly89
                      have iy89 : TI y89 y89.toInt := rfl
                      refine rl_ltI (av_add iy26 iy89 (by omega) (by omega)) (fun x90 ix90 => ?_)
                      refine rl_bnd (Q := fun (y z : Int32) => y = z ∧ (0 ≤ y.toInt ∧ y.toInt ≤ 1)) ?_ ?_
                      · refine rl_if (fun c24 => ?_) (fun c24 => ?_)
                        · have dc24 := tl_eq iy23_1 tn_0 c24
                          exact rl_some ⟨rfl, (ti_bd tn_0 (by omega) (by omega))⟩
                        · exact rl_some ⟨rfl, (ti_bd tn_1 (by omega) (by omega))⟩
                      · rintro y91 y91r ⟨ey91, ly91⟩
                        obtain rfl : y91 = y91r := ey91
                        have ly91 : 0 ≤ y91.toInt ∧ y91.toInt ≤ 1 := ly91
                        have iy91 : TI y91 y91.toInt := rfl
                        refine rl_ltI (av_add ix90 iy91 (by omega) (by omega)) (fun x92 ix92 => ?_)
                        exact rl_some ⟨rfl, (ti_bd ix92 (by omega) (by omega))⟩
                · rintro y27 y27r ⟨ey27, ly27⟩
                  obtain rfl : y27 = y27r := ey27
                  have ly27 : 0 ≤ y27.toInt ∧ y27.toInt ≤ 27 := ly27
                  have iy27 : TI y27 y27.toInt := rfl
                  refine rl_ltA (fun x28 => ?_)
                  refine rl_ltA (fun x29 => ?_)
                  refine rl_ltA (fun x30 => ?_)
                  refine rl_ltA (fun x31 => ?_)
                  refine rl_ltA (fun x32 => ?_)
                  refine rl_ltA (fun x33 => ?_)
                  refine rl_ltI (av_neg iy27 (by omega)) (fun x34 ix34 => ?_)
                  refine rl_bnd (Q := fun (y z : Int32) => y = z ∧ (-27 ≤ y.toInt ∧ y.toInt ≤ 27)) ?_ ?_
                  · refine rl_if (fun c25 => ?_) (fun c25 => ?_)
                    · have dc25 := tl_le ix34 (rfl : TI x33 x33.toInt) c25
                      refine rl_bnd (Q := fun (y z : Int32) => y = z ∧ (-27 ≤ y.toInt ∧ y.toInt ≤ 27)) ?_ ?_
                      · refine rl_if (fun c26 => ?_) (fun c26 => ?_)
                        · have dc26 := tl_le (rfl : TI x33 x33.toInt) iy27 c26
                          exact rl_some ⟨rfl, (ti_bd (rfl : TI x33 x33.toInt) (by omega) (by omega))⟩
                        · have dc26 := tl_nle (rfl : TI x33 x33.toInt) iy27 c26
                          exact rl_some ⟨rfl, (ti_bd iy27 (by omega) (by omega))⟩
                      · rintro y84 y84r ⟨ey84, ly84⟩
                        obtain rfl : y84 = y84r := ey84
                        have ly84 : -27 ≤ y84.toInt ∧ y84.toInt ≤ 27 := ly84
                        have iy84 : TI y84 y84.toInt := rfl
                        exact rl_some ⟨rfl, (ti_bd iy84 (by omega) (by omega))⟩
                    · have dc25 := tl_nle ix34 (rfl : TI x33 x33.toInt) c25
                      refine rl_ltI (av_neg iy27 (by omega)) (fun x86 ix86 => ?_)
                      exact rl_some ⟨rfl, (ti_bd ix86 (by omega) (by omega))⟩
                  · rintro y35 y35r ⟨ey35, ly35⟩
                    obtain rfl : y35 = y35r := ey35
                    have ly35 : -27 ≤ y35.toInt ∧ y35.toInt ≤ 27 := ly35
                    have iy35 : TI y35 y35.toInt := rfl
                    refine rl_ltA (fun x36 => ?_)
                    refine rl_ltA (fun x37 => ?_)
                    refine rl_ltA (fun x38 => ?_)
                    refine rl_bnd (Q := fun (y z : DD) => Up mu 144 y23_2 y23_2r y z) ?_ ?_
                    · refine rl_if (fun c27 => ?_) (fun c27 => ?_)
                      · have dc27 := tl_eq iy22_1 tn_0 c27
                        exact rl_some (up_0 mu (κ := 144) _ _)
                      · refine rl_ltA (fun x66 => ?_)
                        refine rl_ltA (fun x67 => ?_)
                        refine rl_chk (chkl (cx_U ty23_2) gb2) (fun k28 => ?_)
                        refine rl_rd (cx_pl ty23_2 hq0 hj0 _) (fun x68 => ?_)
                        refine rl_ltA (fun x69 => ?_)
                        refine rl_ltA (fun x70 => ?_)
                        refine rl_ltA (fun x71 => ?_)
                        refine rl_ltA (fun x72 => ?_)
                        refine rl_ltA (fun x73 => ?_)
                        refine rl_ltA (fun x74 => ?_)
                        refine rl_ltI (av_neg iy26 (by omega)) (fun x75 ix75 => ?_)
                        refine rl_bnd (Q := fun (y z : Int32) => y = z ∧ (-25 ≤ y.toInt ∧ y.toInt ≤ 25)) ?_ ?_
                        · refine rl_if (fun c29 => ?_) (fun c29 => ?_)
                          · have dc29 := tl_le ix75 (rfl : TI x72 x72.toInt) c29
                            refine rl_bnd (Q := fun (y z : Int32) => y = z ∧ (-25 ≤ y.toInt ∧ y.toInt ≤ 25)) ?_ ?_
                            · refine rl_if (fun c30 => ?_) (fun c30 => ?_)
                              · have dc30 := tl_le (rfl : TI x72 x72.toInt) iy26 c30
                                exact rl_some ⟨rfl, (ti_bd (rfl : TI x72 x72.toInt) (by omega) (by omega))⟩
                              · have dc30 := tl_nle (rfl : TI x72 x72.toInt) iy26 c30
                                exact rl_some ⟨rfl, (ti_bd iy26 (by omega) (by omega))⟩
                            · rintro y80 y80r ⟨ey80, ly80⟩
                              obtain rfl : y80 = y80r := ey80
                              have ly80 : -25 ≤ y80.toInt ∧ y80.toInt ≤ 25 := ly80
                              have iy80 : TI y80 y80.toInt := rfl
                              exact rl_some ⟨rfl, (ti_bd iy80 (by omega) (by omega))⟩
                          · have dc29 := tl_nle ix75 (rfl : TI x72 x72.toInt) c29
                            refine rl_ltI (av_neg iy26 (by omega)) (fun x82 ix82 => ?_)
                            exact rl_some ⟨rfl, (ti_bd ix82 (by omega) (by omega))⟩
                        · rintro y76 y76r ⟨ey76, ly76⟩
                          obtain rfl : y76 = y76r := ey76
                          have ly76 : -25 ≤ y76.toInt ∧ y76.toInt ≤ 25 := ly76
                          have iy76 : TI y76 y76.toInt := rfl
                          refine rl_ltA (fun x77 => ?_)
                          refine rl_chk (chkl (cx_U ty23_2) gb2) (fun k31 => ?_)
                          refine rl_w (κ := 144) (cx_U ty23_2) (by have := cx_q0 ty23_2 hq0; omega) (fun M78 M78r uM78 AM78 nM78 => ?_)
                          have tM78 := cx_up ty23_2 uM78
                          have wP148_2_M78 := ag_up uM78 wP148_2_y23_2
                          have wP148_3_M78 := ag_up uM78 wP148_3_y23_2
                          have wP148_4_M78 := ag_up uM78 wP148_4_y23_2
                          exact rl_some uM78
                    · rintro y39 y39r uy39
                      have uy39 : Up mu 144 y23_2 y23_2r y39 y39r := uy39
                      have ty39 := cx_up ty23_2 uy39
                      have wP148_2_y39 := ag_up uy39 wP148_2_y23_2
                      have wP148_3_y39 := ag_up uy39 wP148_3_y23_2
                      have wP148_4_y39 := ag_up uy39 wP148_4_y23_2
                      refine rl_bnd (Q := fun (y z : DD) => Up mu 144 y39 y39r y z) ?_ ?_
                      · refine rl_if (fun c32 => ?_) (fun c32 => ?_)
                        · have dc32 := tl_eq iy23_1 tn_0 c32
                          exact rl_some (up_0 mu (κ := 144) _ _)
                        · refine rl_ltA (fun x49 => ?_)
                          refine rl_ltA (fun x50 => ?_)
                          refine rl_chk (chkl (cx_U ty39) gb2) (fun k33 => ?_)
                          refine rl_rd (cx_pl ty39 hq0 hj0 _) (fun x51 => ?_)
                          refine rl_ltA (fun x52 => ?_)
                          refine rl_ltA (fun x53 => ?_)
                          refine rl_ltA (fun x54 => ?_)
                          refine rl_ltA (fun x55 => ?_)
                          refine rl_ltA (fun x56 => ?_)
                          refine rl_ltI (av_neg iy26 (by omega)) (fun x57 ix57 => ?_)
                          refine rl_bnd (Q := fun (y z : Int32) => y = z ∧ (-25 ≤ y.toInt ∧ y.toInt ≤ 25)) ?_ ?_
                          · refine rl_if (fun c34 => ?_) (fun c34 => ?_)
                            · have dc34 := tl_le ix57 (rfl : TI x55 x55.toInt) c34
                              refine rl_bnd (Q := fun (y z : Int32) => y = z ∧ (-25 ≤ y.toInt ∧ y.toInt ≤ 25)) ?_ ?_
                              · refine rl_if (fun c35 => ?_) (fun c35 => ?_)
                                · have dc35 := tl_le (rfl : TI x55 x55.toInt) iy26 c35
                                  exact rl_some ⟨rfl, (ti_bd (rfl : TI x55 x55.toInt) (by omega) (by omega))⟩
                                · have dc35 := tl_nle (rfl : TI x55 x55.toInt) iy26 c35
                                  exact rl_some ⟨rfl, (ti_bd iy26 (by omega) (by omega))⟩
                              · rintro y62 y62r ⟨ey62, ly62⟩
                                obtain rfl : y62 = y62r := ey62
                                have ly62 : -25 ≤ y62.toInt ∧ y62.toInt ≤ 25 := ly62
                                have iy62 : TI y62 y62.toInt := rfl
                                exact rl_some ⟨rfl, (ti_bd iy62 (by omega) (by omega))⟩
                            · have dc34 := tl_nle ix57 (rfl : TI x55 x55.toInt) c34
                              refine rl_ltI (av_neg iy26 (by omega)) (fun x64 ix64 => ?_)
                              exact rl_some ⟨rfl, (ti_bd ix64 (by omega) (by omega))⟩
                          · rintro y58 y58r ⟨ey58, ly58⟩
                            obtain rfl : y58 = y58r := ey58
                            have ly58 : -25 ≤ y58.toInt ∧ y58.toInt ≤ 25 := ly58
                            have iy58 : TI y58 y58.toInt := rfl
                            refine rl_ltA (fun x59 => ?_)
                            refine rl_chk (chkl (cx_U ty39) gb2) (fun k36 => ?_)
                            refine rl_w (κ := 144) (cx_U ty39) (by have := cx_q0 ty39 hq0; omega) (fun M60 M60r uM60 AM60 nM60 => ?_)
                            have tM60 := cx_up ty39 uM60
                            have wP148_2_M60 := ag_up uM60 wP148_2_y39
                            have wP148_3_M60 := ag_up uM60 wP148_3_y39
                            have wP148_4_M60 := ag_up uM60 wP148_4_y39
                            exact rl_some uM60
                      · rintro y40 y40r uy40
                        have uy40 : Up mu 144 y39 y39r y40 y40r := uy40
                        have ty40 := cx_up ty39 uy40
                        have wP148_2_y40 := ag_up uy40 wP148_2_y39
                        have wP148_3_y40 := ag_up uy40 wP148_3_y39
                        have wP148_4_y40 := ag_up uy40 wP148_4_y39
                        refine rl_ltA (fun x41 => ?_)
                        refine rl_ltA (fun x42 => ?_)
                        refine rl_bnd (r_clip ty40) ?_
                        rintro ⟨y43_1, y43_2⟩ ⟨y43_1r, y43_2r⟩ ⟨uy43_1', ey43_2⟩
                        have uy43_1 : Up mu 144 y40 y40r y43_1 y43_1r := uy43_1'
                        have ty43_1 := cx_up ty40 uy43_1
                        have wP148_2_y43_1 := ag_up uy43_1 wP148_2_y40
                        have wP148_3_y43_1 := ag_up uy43_1 wP148_3_y40
                        have wP148_4_y43_1 := ag_up uy43_1 wP148_4_y40
                        obtain rfl : y43_2 = y43_2r := ey43_2
                        refine rl_chk (chkl (cx_U ty43_1) gb2) (fun k37 => ?_)
                        refine rl_w (κ := 144) (cx_U ty43_1) (by have := cx_q0 ty43_1 hq0; omega) (fun M44 M44r uM44 AM44 nM44 => ?_)
                        have tM44 := cx_up ty43_1 uM44
                        have wP148_2_M44 := ag_up uM44 wP148_2_y43_1
                        have wP148_3_M44 := ag_up uM44 wP148_3_y43_1
                        have wP148_4_M44 := ag_up uM44 wP148_4_y43_1
                        refine rl_ltA (fun x45 => ?_)
                        refine rl_bnd (r_clip tM44) ?_
                        rintro ⟨y46_1, y46_2⟩ ⟨y46_1r, y46_2r⟩ ⟨uy46_1', ey46_2⟩
                        have uy46_1 : Up mu 144 M44 M44r y46_1 y46_1r := uy46_1'
                        have ty46_1 := cx_up tM44 uy46_1
                        have wP148_2_y46_1 := ag_up uy46_1 wP148_2_M44
                        have wP148_3_y46_1 := ag_up uy46_1 wP148_3_M44
                        have wP148_4_y46_1 := ag_up uy46_1 wP148_4_M44
                        obtain rfl : y46_2 = y46_2r := ey46_2
                        refine rl_chk (chkl (cx_U ty46_1) gb2) (fun k38 => ?_)
                        refine rl_w (κ := 144) (cx_U ty46_1) (by have := cx_q0 ty46_1 hq0; omega) (fun M47 M47r uM47 AM47 nM47 => ?_)
                        have tM47 := cx_up ty46_1 uM47
                        have wP148_2_M47 := ag_up uM47 wP148_2_y46_1
                        have wP148_3_M47 := ag_up uM47 wP148_3_y46_1
                        have wP148_4_M47 := ag_up uM47 wP148_4_y46_1
                        exact rl_some (up_tr (up_tr (up_tr (up_tr (up_tr (up_tr (up_tr uy22_2 uy23_2) uy39) uy40) uy43_1) uM44) uy46_1) uM47)
      · have dc7 := tl_nlt (rfl : TI x19 x19.toInt) (rfl : TI x20 x20.toInt) c7
        exact rl_some (up_0 mu (κ := 144) _ _)
theorem r_setThresholds {mu : Nat → Nat} {G H : GG} {M N : DD} {p : Nat} {L : List Nat} (t : CX mu G H M N p L) {p0 p0r : Option Nat} (e0 : p0 = some 125 ∧ p0r = some (mu 125)) {p1 : Int32} {p2 : Int32} {p3 : Int32} : LKS (FX2_setThresholds G M 148 p0 p1 p2 p3) (FX2_setThresholds H N (mu 148) p0r p1 p2 p3) (fun y z => Up mu 144 M N y z ∧ Ag mu y z 148 2 ∧ Ag mu y z 148 3 ∧ Ag mu y z 148 4) := by
  unfold FX2_setThresholds
  obtain ⟨rfl, rfl⟩ := e0
  refine rl_dr (cx_U t) ⟨rfl, rfl⟩ (fun gb2 => ?_)
  refine rl_ltE (fun x3 ex3 => ?_)
  refine rl_ltE (fun x4 ex4 => ?_)
  refine rl_dr (cx_U t) (rx_c (a := 125) (k := 6) (b := 129) t (Or.inl rfl) rfl (by decide)) (fun gb5 => ?_)
  refine rl_chk (chkl (cx_U t) gb5) (fun k1 => ?_)
  refine rl_rd (cx_i8 t (by rw [ex4, ex3]) k1 (by decide)) (fun x6 => ?_)
  refine rl_ltE (fun x7 ex7 => ?_)
  refine rl_ltE (fun x8 ex8 => ?_)
  refine rl_chk (chkl (cx_U t) gb5) (fun k2 => ?_)
  refine rl_rd (cx_i8 t (by rw [ex8, ex7]) k2 (by decide)) (fun x9 => ?_)
  refine rl_bnd (Q := fun (y z : Int32 × Int32 × DD) => y.1 = z.1 ∧ y.2.1 = z.2.1 ∧ Up mu 144 M N y.2.2 z.2.2) ?_ ?_
  · refine rl_if (fun c3 => ?_) (fun c3 => ?_)
    · have dc3 := tl_le (rfl : TI p3 p3.toInt) tn_0 c3
      exact rl_some ⟨rfl, rfl, (up_0 mu (κ := 144) _ _)⟩
    · have dc3 := tl_nle (rfl : TI p3 p3.toInt) tn_0 c3
      refine rl_dr (cx_U t) (rx_c (a := 125) (k := 2) (b := 220) t (Or.inl rfl) rfl (by decide)) (fun gb42 => ?_)
      refine rl_chk (chkl (cx_U t) gb42) (fun k4 => ?_)
      refine rl_rd (cx_k (c := 220) (k := 8) t rfl) (fun x43 => ?_)
      refine rl_bnd (r_colourStep t) ?_
      rintro ⟨y44_1, y44_2⟩ ⟨y44_1r, y44_2r⟩ ⟨uy44_1', ey44_2⟩
      have uy44_1 : Up mu 144 M N y44_1 y44_1r := uy44_1'
      have ty44_1 := cx_up t uy44_1
      obtain rfl : y44_2 = y44_2r := ey44_2
      refine rl_dr (cx_U ty44_1) (rx_c (a := 125) (k := 2) (b := 220) ty44_1 (Or.inl rfl) rfl (by decide)) (fun gb45 => ?_)
      refine rl_chk (chkl (cx_U ty44_1) gb45) (fun k5 => ?_)
      refine rl_rd (cx_k (c := 220) (k := 8) ty44_1 rfl) (fun x46 => ?_)
      refine rl_bnd (r_colourStep ty44_1) ?_
      rintro ⟨y47_1, y47_2⟩ ⟨y47_1r, y47_2r⟩ ⟨uy47_1', ey47_2⟩
      have uy47_1 : Up mu 144 y44_1 y44_1r y47_1 y47_1r := uy47_1'
      have ty47_1 := cx_up ty44_1 uy47_1
      obtain rfl : y47_2 = y47_2r := ey47_2
      exact rl_some ⟨rfl, rfl, (up_tr uy44_1 uy47_1)⟩
  · rintro ⟨y10_1, y10_2_1, y10_2_2⟩ ⟨y10_1r, y10_2_1r, y10_2_2r⟩ ⟨ey10_1, ey10_2_1, uy10_2_2⟩
    obtain rfl : y10_1 = y10_1r := ey10_1
    obtain rfl : y10_2_1 = y10_2_1r := ey10_2_1
    have uy10_2_2 : Up mu 144 M N y10_2_2 y10_2_2r := uy10_2_2
    have ty10_2_2 := cx_up t uy10_2_2
    refine rl_ltA (fun x11 => ?_)
    refine rl_ltA (fun x12 => ?_)
    refine rl_ltA (fun x13 => ?_)
    refine rl_ltA (fun x14 => ?_)
    refine rl_ltA (fun x15 => ?_)
    refine rl_dr (cx_U ty10_2_2) (rx_c (a := 125) (k := 10) (b := 133) ty10_2_2 (Or.inl rfl) rfl (by decide)) (fun gb16 => ?_)
    refine rl_chk (chkl (cx_U ty10_2_2) gb16) (fun k6 => ?_)
    refine rl_rd (cx_r ty10_2_2 _ (Or.inr (Or.inr (Or.inr rfl)))) (fun x17 => ?_)
    refine rl_ltA (fun x18 => ?_)
    refine rl_ltA (fun x19 => ?_)
    refine rl_bnd (r_clamp ty10_2_2) ?_
    rintro ⟨y20_1, y20_2⟩ ⟨y20_1r, y20_2r⟩ ⟨uy20_1', ey20_2⟩
    have uy20_1 : Up mu 144 y10_2_2 y10_2_2r y20_1 y20_1r := uy20_1'
    have ty20_1 := cx_up ty10_2_2 uy20_1
    obtain rfl : y20_2 = y20_2r := ey20_2
    refine rl_w (κ := 144) (cx_U ty20_1) (by decide) (fun M21 M21r uM21 AM21 nM21 => ?_)
    have tM21 := cx_up ty20_1 uM21
    refine rl_ltA (fun x22 => ?_)
    refine rl_ltA (fun x23 => ?_)
    refine rl_dr (cx_U tM21) (rx_c (a := 125) (k := 10) (b := 133) tM21 (Or.inl rfl) rfl (by decide)) (fun gb24 => ?_)
    refine rl_chk (chkl (cx_U tM21) gb24) (fun k7 => ?_)
    refine rl_rd (cx_r tM21 _ (Or.inr (Or.inr (Or.inr rfl)))) (fun x25 => ?_)
    refine rl_ltA (fun x26 => ?_)
    refine rl_ltA (fun x27 => ?_)
    refine rl_bnd (r_clamp tM21) ?_
    rintro ⟨y28_1, y28_2⟩ ⟨y28_1r, y28_2r⟩ ⟨uy28_1', ey28_2⟩
    have uy28_1 : Up mu 144 M21 M21r y28_1 y28_1r := uy28_1'
    have ty28_1 := cx_up tM21 uy28_1
    have wP148_4_y28_1 := ag_up uy28_1 AM21
    obtain rfl : y28_2 = y28_2r := ey28_2
    refine rl_rd wP148_4_y28_1 (fun x29 => ?_)
    refine rl_bnd (Q := fun (y z : Int32) => y = z ∧ (0 ≤ y.toInt ∧ y.toInt ≤ 255)) ?_ ?_
    · refine rl_if (fun c8 => ?_) (fun c8 => ?_)
      · have dc8 := tl_le tn_16 (rfl : TI x29 x29.toInt) c8
        refine rl_rd wP148_4_y28_1 (fun x38 => ?_)
        refine rl_ltA (fun x39 => ?_)
        refine rl_chk (fun h => h) (fun _ => ?_)
        refine rl_ltB (tb_3 _) (fun x40 lx40 => ?_)
        have ix40 : TI x40 x40.toInt := rfl
        exact rl_some ⟨rfl, (ti_bd ix40 (by omega) (by omega))⟩
      · have dc8 := tl_nle tn_16 (rfl : TI x29 x29.toInt) c8
        exact rl_some ⟨rfl, (ti_bd tn_0 (by omega) (by omega))⟩
    · rintro y30 y30r ⟨ey30, ly30⟩
      obtain rfl : y30 = y30r := ey30
      have ly30 : 0 ≤ y30.toInt ∧ y30.toInt ≤ 255 := ly30
      have iy30 : TI y30 y30.toInt := rfl
      refine rl_w (κ := 144) (cx_U ty28_1) (by decide) (fun M31 M31r uM31 AM31 nM31 => ?_)
      have tM31 := cx_up ty28_1 uM31
      have wP148_4_M31 := ag_up uM31 wP148_4_y28_1
      refine rl_bnd (Q := fun (y z : Int32) => y = z ∧ (0 ≤ y.toInt ∧ y.toInt ≤ 18)) ?_ ?_
      · refine rl_if (fun c10 => ?_) (fun c10 => ?_)
        · have dc10 := tl_le tn_16 (rfl : TI y28_2 y28_2.toInt) c10
          refine rl_ltA (fun x35 => ?_)
          refine rl_chk (fun h => h) (fun _ => ?_)
          refine rl_ltB (tb_4 _) (fun x36 lx36 => ?_)
          have ix36 : TI x36 x36.toInt := rfl
          exact rl_some ⟨rfl, (ti_bd ix36 (by omega) (by omega))⟩
        · have dc10 := tl_nle tn_16 (rfl : TI y28_2 y28_2.toInt) c10
          exact rl_some ⟨rfl, (ti_bd tn_0 (by omega) (by omega))⟩
      · rintro y32 y32r ⟨ey32, ly32⟩
        obtain rfl : y32 = y32r := ey32
        have ly32 : 0 ≤ y32.toInt ∧ y32.toInt ≤ 18 := ly32
        have iy32 : TI y32 y32.toInt := rfl
        refine rl_w (κ := 144) (cx_U tM31) (by decide) (fun M33 M33r uM33 AM33 nM33 => ?_)
        have tM33 := cx_up tM31 uM33
        have wP148_4_M33 := ag_up uM33 wP148_4_M31
        have wP148_2_M33 := ag_up uM33 AM31
        exact rl_some ⟨(up_tr (up_tr (up_tr (up_tr (up_tr uy10_2_2 uy20_1) uM21) uy28_1) uM31) uM33), wP148_2_M33, AM33, wP148_4_M33⟩
theorem r_filterEdge {mu : Nat → Nat} {G H : GG} {M N : DD} {p : Nat} {L : List Nat} (t : CX mu G H M N p L) {p0 p0r : Option Nat} (e0 : p0 = some 125 ∧ p0r = some (mu 125)) {p1 : Int32} {a1 : Int} (i1 : TI p1 a1) {p2 : Int32} {a2 : Int} (i2 : TI p2 a2) {p3 : Int32} {a3 : Int} (i3 : TI p3 a3) {p4 : Int32} {a4 : Int} (i4 : TI p4 a4) (h0 : 0 ≤ a1) (h1 : a1 ≤ 31) (h2 : a2 = 0 ∨ a2 = 1 ∨ a2 = 2) (h3 : a3 = 0 ∨ a3 = 1) (h4 : 0 ≤ a4) (h5 : a4 ≤ 3) (h6 : a2 ≠ 0 → a4 ≤ 1) (hS : WG mu M N 149 (32 * a1) (32 * a1 + 32) (fun j => j)) : LKS (FX2_filterEdge G M 148 p0 p1 p2 p3 p4) (FX2_filterEdge H N (mu 148) p0r p1 p2 p3 p4) (fun y z => Up mu 144 M N y z) := by
  unfold FX2_filterEdge
  obtain ⟨rfl, rfl⟩ := e0
  rcases h2 with rfl | rfl | rfl
  · rcases h3 with rfl | rfl
    · refine rl_dr (cx_U t) ⟨rfl, rfl⟩ (fun gb2 => ?_)
      refine rl_bnd (Q := fun (y z : Int32) => y = z ∧ (16 ≤ y.toInt ∧ y.toInt ≤ 16)) ?_ ?_
      · refine rl_if (fun c1 => ?_) (fun c1 => ?_)
        · have dc1 := tl_eq i2 tn_0 c1
          exact rl_some ⟨rfl, (ti_bd tn_16 (by omega) (by omega))⟩
        · have dc1 := tl_ne i2 tn_0 c1
          exfalso
          omega
      · rintro y3 y3r ⟨ey3, ly3⟩
        obtain rfl : y3 = y3r := ey3
        have ly3 : 16 ≤ y3.toInt ∧ y3.toInt ≤ 16 := ly3
        have iy3 : TI y3 (16) := ti_c ly3
        refine rl_bnd (Q := fun (y z : Int32) => y = z ∧ (-1 ≤ y.toInt ∧ y.toInt ≤ 31)) ?_ ?_
        · refine rl_if (fun c2 => ?_) (fun c2 => ?_)
          · have dc2 := tl_le i4 tn_0 c2
            refine rl_bnd (Q := fun (y z : Int32) => y = z ∧ (-1 ≤ y.toInt ∧ y.toInt ≤ 30)) ?_ ?_
            · refine rl_if (fun c3 => ?_) (fun c3 => ?_)
              · have dc3 := tl_eq i3 tn_0 c3
                refine rl_ltI (av_sub i1 tn_1 (by omega) (by omega)) (fun x209 ix209 => ?_)
                exact rl_some ⟨rfl, (ti_bd ix209 (by omega) (by omega))⟩
              · have dc3 := tl_ne i3 tn_0 c3
                exfalso
                omega
            · rintro y204 y204r ⟨ey204, ly204⟩
              obtain rfl : y204 = y204r := ey204
              have ly204 : -1 ≤ y204.toInt ∧ y204.toInt ≤ 30 := ly204
              have iy204 : TI y204 y204.toInt := rfl
              exact rl_some ⟨rfl, (ti_bd iy204 (by omega) (by omega))⟩
          · have dc2 := tl_nle i4 tn_0 c2
            exact rl_some ⟨rfl, (ti_bd i1 (by omega) (by omega))⟩
        · rintro y4 y4r ⟨ey4, ly4⟩
          obtain rfl : y4 = y4r := ey4
          have ly4 : -1 ≤ y4.toInt ∧ y4.toInt ≤ 31 := ly4
          have iy4 : TI y4 y4.toInt := rfl
          refine rl_if (fun c4 => ?_) (fun c4 => ?_)
          · have dc4 := tl_eq i4 tn_0 c4
            refine rl_if (fun c5 => ?_) (fun c5 => ?_)
            · have dc5 := tl_eq i3 tn_0 c5
              refine rl_dr (cx_U t) (rx_p t) (fun gb136 => ?_)
              refine rl_rd (cx_q (j := 0) (k := 1) t (cx_p t) rfl) (fun x137 => ?_)
              refine rl_chk (fun h => h) (fun k6 => ?_)
              refine rl_ltA (fun x138 => ?_)
              refine rl_if (fun c7 => ?_) (fun c7 => ?_)
              · have dc7 := tl_eq (rfl : TI x138 x138.toInt) tn_0 c7
                exact rl_some (up_0 mu (κ := 144) _ _)
              · have dc7 := tl_ne (rfl : TI x138 x138.toInt) tn_0 c7
                refine rl_bnd (r_setThresholds t ⟨rfl, rfl⟩) ?_
                rintro y140 y140r ⟨uy140', vP148_2_y140, vP148_3_y140, vP148_4_y140⟩
                have uy140 : Up mu 144 M N y140 y140r := uy140'
                have ty140 := cx_up t uy140
                have wS_y140 := wg_up uy140 hS
                refine rl_rd (cx_q (j := 0) (k := 1) ty140 (cx_p t) rfl) (fun x141 => ?_)
                refine rl_ltA (fun x142 => ?_)
                refine rl_rd (cx_q (j := 0) (k := 1) ty140 (cx_p t) rfl) (fun x143 => ?_)
                refine rl_chk (fun h => h) (fun k8 => ?_)
                refine rl_ltA (fun x144 => ?_)
                refine rl_ltA (fun x145 => ?_)
                refine rl_ltA (fun x146 => ?_)
                refine rl_rd (cx_q (j := 0) (k := 1) ty140 (cx_p t) rfl) (fun x147 => ?_)
                refine rl_chk (fun h => h) (fun k9 => ?_)
                refine rl_ltA (fun x148 => ?_)
                refine rl_ltA (fun x149 => ?_)
                refine rl_ltA (fun x150 => ?_)
                refine rl_ltI (av_mul tn_4 i4 (by omega) (by omega)) (fun x151 ix151 => ?_)
                refine rl_bnd (Q := fun (y z : Int32) => y = z ∧ (1 ≤ y.toInt ∧ y.toInt ≤ 1)) ?_ ?_
                · refine rl_if (fun c10 => ?_) (fun c10 => ?_)
                  · have dc10 := tl_eq i3 tn_0 c10
                    exact rl_some ⟨rfl, (ti_bd tn_1 (by omega) (by omega))⟩
                  · have dc10 := tl_ne i3 tn_0 c10
                    exfalso
                    omega
                · rintro y152 y152r ⟨ey152, ly152⟩
                  obtain rfl : y152 = y152r := ey152
                  have ly152 : 1 ≤ y152.toInt ∧ y152.toInt ≤ 1 := ly152
                  have iy152 : TI y152 (1) := ti_c ly152
                  refine rl_ltI (av_mul ix151 iy152 (by omega) (by omega)) (fun x153 ix153 => ?_)
                  refine rl_ltA (fun x154 => ?_)
                  refine rl_bnd (Q := fun (y z : Int32) => y = z ∧ (1 ≤ y.toInt ∧ y.toInt ≤ 1)) ?_ ?_
                  · refine rl_if (fun c11 => ?_) (fun c11 => ?_)
                    · have dc11 := tl_eq i3 tn_0 c11
                      exact rl_some ⟨rfl, (ti_bd tn_1 (by omega) (by omega))⟩
                    · have dc11 := tl_ne i3 tn_0 c11
                      exfalso
                      omega
                  · rintro y155 y155r ⟨ey155, ly155⟩
                    obtain rfl : y155 = y155r := ey155
                    have ly155 : 1 ≤ y155.toInt ∧ y155.toInt ≤ 1 := ly155
                    have iy155 : TI y155 (1) := ti_c ly155
                    refine rl_bnd (Q := fun (y z : Int32) => y = z) ?_ ?_
                    · refine rl_if (fun c12 => ?_) (fun c12 => ?_)
                      · have dc12 := tl_eq i3 tn_0 c12
                        exact rl_some rfl
                      · have dc12 := tl_ne i3 tn_0 c12
                        exfalso
                        omega
                    · rintro y156 y156r ey156
                      obtain rfl : y156 = y156r := ey156
                      have ky3 : y3.toInt = _ := iy3
                      refine rl_bnd (Q := fun (y z : Int32 × DD) => y.1 = z.1 ∧ (0 ≤ y.1.toInt ∧ y.1.toInt ≤ y3.toInt) ∧ Up mu 144 y140 y140r y.2 z.2) (rl_itr (fun (y z : Int32 × DD) => y.1 = z.1 ∧ (0 ≤ y.1.toInt ∧ y.1.toInt ≤ y3.toInt) ∧ Up mu 144 y140 y140r y.2 z.2) _ ?_ _ _ _ ?_) ?_
                      · rintro ⟨s158_1, s158_2⟩ ⟨s158_1r, s158_2r⟩ ⟨es158_1, ls158_1, us158_2⟩
                        obtain rfl : s158_1 = s158_1r := es158_1
                        have ls158_1 : 0 ≤ s158_1.toInt ∧ s158_1.toInt ≤ y3.toInt := ls158_1
                        have is158_1 : TI s158_1 s158_1.toInt := rfl
                        have us158_2 : Up mu 144 y140 y140r s158_2 s158_2r := us158_2
                        have ts158_2 := cx_up ty140 us158_2
                        have wS_s158_2 := wg_up us158_2 wS_y140
                        have wP148_2_s158_2 := ag_up us158_2 vP148_2_y140
                        have wP148_3_s158_2 := ag_up us158_2 vP148_3_y140
                        have wP148_4_s158_2 := ag_up us158_2 vP148_4_y140
                        refine rl_if (fun c13 => ?_) (fun c13 => ?_)
                        · have dc13 := tl_le iy3 is158_1 c13
                          exact rl_inr ⟨rfl, (ti_bd is158_1 (by omega) (by omega)), us158_2⟩
                        · have dc13 := tl_nle iy3 is158_1 c13
                          refine rl_bnd (Q := fun (y z : Int32) => y = z ∧ (0 ≤ y.toInt ∧ y.toInt ≤ 15)) ?_ ?_
                          · refine rl_if (fun c14 => ?_) (fun c14 => ?_)
                            · have dc14 := tl_eq i2 tn_0 c14
                              exact rl_some ⟨rfl, (ti_bd is158_1 (by omega) (by omega))⟩
                            · have dc14 := tl_ne i2 tn_0 c14
                              exfalso
                              omega
                          · rintro y162 y162r ⟨ey162, ly162⟩
                            obtain rfl : y162 = y162r := ey162
                            have ly162 : 0 ≤ y162.toInt ∧ y162.toInt ≤ 15 := ly162
                            have iy162 : TI y162 y162.toInt := rfl
                            refine rl_bnd (Q := fun (y z : Int32) => y = z ∧ (0 ≤ y.toInt ∧ y.toInt ≤ 0)) ?_ ?_
                            · refine rl_if (fun c15 => ?_) (fun c15 => ?_)
                              · have dc15 := tl_eq i2 tn_0 c15
                                refine rl_ltI (av_mul tn_4 i4 (by omega) (by omega)) (fun x197 ix197 => ?_)
                                exact rl_some ⟨rfl, (ti_bd ix197 (by omega) (by omega))⟩
                              · have dc15 := tl_ne i2 tn_0 c15
                                exfalso
                                omega
                            · rintro y163 y163r ⟨ey163, ly163⟩
                              obtain rfl : y163 = y163r := ey163
                              have ly163 : 0 ≤ y163.toInt ∧ y163.toInt ≤ 0 := ly163
                              have iy163 : TI y163 (0) := ti_c ly163
                              refine rl_bnd (Q := fun (y z : Int32) => y = z ∧ (0 ≤ y.toInt ∧ y.toInt ≤ 0)) ?_ ?_
                              · refine rl_if (fun c16 => ?_) (fun c16 => ?_)
                                · have dc16 := tl_eq i3 tn_0 c16
                                  exact rl_some ⟨rfl, (ti_bd iy163 (by omega) (by omega))⟩
                                · have dc16 := tl_ne i3 tn_0 c16
                                  exfalso
                                  omega
                              · rintro y164 y164r ⟨ey164, ly164⟩
                                obtain rfl : y164 = y164r := ey164
                                have ly164 : 0 ≤ y164.toInt ∧ y164.toInt ≤ 0 := ly164
                                have iy164 : TI y164 (0) := ti_c ly164
                                refine rl_bnd (Q := fun (y z : Int32) => y = z ∧ (0 ≤ y.toInt ∧ y.toInt ≤ 15)) ?_ ?_
                                · refine rl_if (fun c17 => ?_) (fun c17 => ?_)
                                  · have dc17 := tl_eq i3 tn_0 c17
                                    exact rl_some ⟨rfl, (ti_bd iy162 (by omega) (by omega))⟩
                                  · have dc17 := tl_ne i3 tn_0 c17
                                    exfalso
                                    omega
                                · rintro y165 y165r ⟨ey165, ly165⟩
                                  obtain rfl : y165 = y165r := ey165
                                  have ly165 : 0 ≤ y165.toInt ∧ y165.toInt ≤ 15 := ly165
                                  have iy165 : TI y165 y165.toInt := rfl
                                  refine rl_ltI (av_sar 3 iy165 (by decide)) (fun x166 ix166 => ?_)
                                  refine rl_ltI (av_mul ix166 tn_8 (by omega) (by omega)) (fun x167 ix167 => ?_)
                                  refine rl_ltI (av_sar 3 iy164 (by decide)) (fun x168 ix168 => ?_)
                                  refine rl_ltI (av_mul ix168 tn_4 (by omega) (by omega)) (fun x169 ix169 => ?_)
                                  refine rl_ltI (av_add ix167 ix169 (by omega) (by omega)) (fun x170 ix170 => ?_)
                                  refine rl_ltI (av_sar 2 iy165 (by decide)) (fun x171 ix171 => ?_)
                                  refine rl_ltI (av_and 1 ix171 (by decide) (by decide)) (fun x172 ix172 => ?_)
                                  refine rl_ltI (av_mul ix172 tn_2 (by omega) (by omega)) (fun x173 ix173 => ?_)
                                  refine rl_ltI (av_add ix170 ix173 (by omega) (by omega)) (fun x174 ix174 => ?_)
                                  refine rl_ltI (av_sar 2 iy164 (by decide)) (fun x175 ix175 => ?_)
                                  refine rl_ltI (av_and 1 ix175 (by decide) (by decide)) (fun x176 ix176 => ?_)
                                  refine rl_ltI (av_add ix174 ix176 (by omega) (by omega)) (fun x177 ix177 => ?_)
                                  refine rl_ltI (av_mul tn_16 i1 (by omega) (by omega)) (fun x178 ix178 => ?_)
                                  refine rl_ltI (av_add ix178 ix177 (by omega) (by omega)) (fun x179 ix179 => ?_)
                                  refine rl_ltI (av_mul tn_2 ix179 (by omega) (by omega)) (fun x180 ix180 => ?_)
                                  refine rl_ltI (av_add ix180 i3 (by omega) (by omega)) (fun x181 ix181 => ?_)
                                  refine rl_dr (cx_U ts158_2) (rx_c (a := 148) (k := 0) (b := 149) ts158_2 (Or.inr (Or.inr (Or.inl rfl))) rfl (by decide)) (fun gb182 => ?_)
                                  refine rl_chk (chkl (cx_U ts158_2) gb182) (fun k18 => ?_)
                                  refine rl_rd (wg_id wS_s158_2 ix181 (by omega) (by omega)) (fun x183 => ?_)
                                  refine rl_bnd (Q := fun (y z : DD) => Up mu 144 s158_2 s158_2r y z) ?_ ?_
                                  · refine rl_if (fun c19 => ?_) (fun c19 => ?_)
                                    · have dc19 := tl_le (rfl : TI x183 x183.toInt) tn_0 c19
                                      exact rl_some (up_0 mu (κ := 144) _ _)
                                    · have dc19 := tl_nle (rfl : TI x183 x183.toInt) tn_0 c19
                                      refine rl_dr (cx_U ts158_2) (rx_4 ts158_2 (cx_p t)) (fun gb187 => ?_)
                                      refine rl_chk (chkl (cx_U ts158_2) gb187) (fun k20 => ?_)
                                      refine rl_ltA (fun x188 => ?_)
                                      refine rl_ltA (fun x189 => ?_)
                                      refine rl_bnd (Q := fun (y z : Int32) => y = z ∧ (1 ≤ y.toInt ∧ y.toInt ≤ 1)) ?_ ?_
                                      · refine rl_if (fun c21 => ?_) (fun c21 => ?_)
                                        · have dc21 := tl_eq i2 tn_0 c21
                                          exact rl_some ⟨rfl, (ti_bd tn_1 (by omega) (by omega))⟩
                                        · have dc21 := tl_ne i2 tn_0 c21
                                          exfalso
                                          omega
                                      · rintro y190 y190r ⟨ey190, ly190⟩
                                        obtain rfl : y190 = y190r := ey190
                                        have ly190 : 1 ≤ y190.toInt ∧ y190.toInt ≤ 1 := ly190
                                        have iy190 : TI y190 (1) := ti_c ly190
                                        obtain ⟨j22, hj22, ej22⟩ := rx_dv ts158_2 (cx_p t) i2 (by omega) (by omega)
                                        refine rl_bnd (r_filterLine ts158_2 ej22 (cx_p t) hj22 wP148_2_s158_2 wP148_3_s158_2 wP148_4_s158_2) ?_
                                        rintro y191 y191r uy191'
                                        have uy191 : Up mu 144 s158_2 s158_2r y191 y191r := uy191'
                                        have ty191 := cx_up ts158_2 uy191
                                        have wS_y191 := wg_up uy191 wS_s158_2
                                        have wP148_2_y191 := ag_up uy191 wP148_2_s158_2
                                        have wP148_3_y191 := ag_up uy191 wP148_3_s158_2
                                        have wP148_4_y191 := ag_up uy191 wP148_4_s158_2
                                        exact rl_some uy191
                                  · rintro y184 y184r uy184
                                    have uy184 : Up mu 144 s158_2 s158_2r y184 y184r := uy184
                                    have ty184 := cx_up ts158_2 uy184
                                    have wS_y184 := wg_up uy184 wS_s158_2
                                    have wP148_2_y184 := ag_up uy184 wP148_2_s158_2
                                    have wP148_3_y184 := ag_up uy184 wP148_3_s158_2
                                    have wP148_4_y184 := ag_up uy184 wP148_4_s158_2
                                    refine rl_ltI (av_add is158_1 tn_1 (by omega) (by omega)) (fun x185 ix185 => ?_)
                                    exact rl_inl ⟨rfl, (ti_bd ix185 (by omega) (by omega)), (up_tr us158_2 uy184)⟩
                      · exact ⟨rfl, (ti_bd tn_0 (by omega) (by omega)), (up_0 mu (κ := 144) _ _)⟩
                      · rintro ⟨y157_1, y157_2⟩ ⟨y157_1r, y157_2r⟩ ⟨ey157_1, ly157_1, uy157_2⟩
                        obtain rfl : y157_1 = y157_1r := ey157_1
                        have ly157_1 : 0 ≤ y157_1.toInt ∧ y157_1.toInt ≤ y3.toInt := ly157_1
                        have iy157_1 : TI y157_1 y157_1.toInt := rfl
                        have uy157_2 : Up mu 144 y140 y140r y157_2 y157_2r := uy157_2
                        have ty157_2 := cx_up ty140 uy157_2
                        have wS_y157_2 := wg_up uy157_2 wS_y140
                        have wP148_2_y157_2 := ag_up uy157_2 vP148_2_y140
                        have wP148_3_y157_2 := ag_up uy157_2 vP148_3_y140
                        have wP148_4_y157_2 := ag_up uy157_2 vP148_4_y140
                        exact rl_some (up_tr uy140 uy157_2)
            · have dc5 := tl_ne i3 tn_0 c5
              exfalso
              omega
          · have dc4 := tl_ne i4 tn_0 c4
            refine rl_bnd (r_setThresholds t ⟨rfl, rfl⟩) ?_
            rintro y6 y6r ⟨uy6', vP148_2_y6, vP148_3_y6, vP148_4_y6⟩
            have uy6 : Up mu 144 M N y6 y6r := uy6'
            have ty6 := cx_up t uy6
            have wS_y6 := wg_up uy6 hS
            refine rl_dr (cx_U ty6) (rx_p t) (fun gb7 => ?_)
            refine rl_rd (cx_q (j := 0) (k := 1) ty6 (cx_p t) rfl) (fun x8 => ?_)
            refine rl_ltA (fun x9 => ?_)
            refine rl_rd (cx_q (j := 0) (k := 1) ty6 (cx_p t) rfl) (fun x10 => ?_)
            refine rl_chk (fun h => h) (fun k23 => ?_)
            refine rl_ltA (fun x11 => ?_)
            refine rl_ltA (fun x12 => ?_)
            refine rl_ltA (fun x13 => ?_)
            refine rl_rd (cx_q (j := 0) (k := 1) ty6 (cx_p t) rfl) (fun x14 => ?_)
            refine rl_chk (fun h => h) (fun k24 => ?_)
            refine rl_ltA (fun x15 => ?_)
            refine rl_ltA (fun x16 => ?_)
            refine rl_ltA (fun x17 => ?_)
            refine rl_ltI (av_mul tn_4 i4 (by omega) (by omega)) (fun x18 ix18 => ?_)
            refine rl_bnd (Q := fun (y z : Int32) => y = z ∧ (1 ≤ y.toInt ∧ y.toInt ≤ 1)) ?_ ?_
            · refine rl_if (fun c25 => ?_) (fun c25 => ?_)
              · have dc25 := tl_eq i3 tn_0 c25
                exact rl_some ⟨rfl, (ti_bd tn_1 (by omega) (by omega))⟩
              · have dc25 := tl_ne i3 tn_0 c25
                exfalso
                omega
            · rintro y19 y19r ⟨ey19, ly19⟩
              obtain rfl : y19 = y19r := ey19
              have ly19 : 1 ≤ y19.toInt ∧ y19.toInt ≤ 1 := ly19
              have iy19 : TI y19 (1) := ti_c ly19
              refine rl_ltI (av_mul ix18 iy19 (by omega) (by omega)) (fun x20 ix20 => ?_)
              refine rl_ltA (fun x21 => ?_)
              refine rl_bnd (Q := fun (y z : Int32) => y = z ∧ (1 ≤ y.toInt ∧ y.toInt ≤ 1)) ?_ ?_
              · refine rl_if (fun c26 => ?_) (fun c26 => ?_)
                · have dc26 := tl_eq i3 tn_0 c26
                  exact rl_some ⟨rfl, (ti_bd tn_1 (by omega) (by omega))⟩
                · have dc26 := tl_ne i3 tn_0 c26
                  exfalso
                  omega
              · rintro y22 y22r ⟨ey22, ly22⟩
                obtain rfl : y22 = y22r := ey22
                have ly22 : 1 ≤ y22.toInt ∧ y22.toInt ≤ 1 := ly22
                have iy22 : TI y22 (1) := ti_c ly22
                refine rl_bnd (Q := fun (y z : Int32) => y = z) ?_ ?_
                · refine rl_if (fun c27 => ?_) (fun c27 => ?_)
                  · have dc27 := tl_eq i3 tn_0 c27
                    exact rl_some rfl
                  · have dc27 := tl_ne i3 tn_0 c27
                    exfalso
                    omega
                · rintro y23 y23r ey23
                  obtain rfl : y23 = y23r := ey23
                  have ky3 : y3.toInt = _ := iy3
                  refine rl_bnd (Q := fun (y z : Int32 × DD) => y.1 = z.1 ∧ (0 ≤ y.1.toInt ∧ y.1.toInt ≤ y3.toInt) ∧ Up mu 144 y6 y6r y.2 z.2) (rl_itr (fun (y z : Int32 × DD) => y.1 = z.1 ∧ (0 ≤ y.1.toInt ∧ y.1.toInt ≤ y3.toInt) ∧ Up mu 144 y6 y6r y.2 z.2) _ ?_ _ _ _ ?_) ?_
                  · rintro ⟨s25_1, s25_2⟩ ⟨s25_1r, s25_2r⟩ ⟨es25_1, ls25_1, us25_2⟩
                    obtain rfl : s25_1 = s25_1r := es25_1
                    have ls25_1 : 0 ≤ s25_1.toInt ∧ s25_1.toInt ≤ y3.toInt := ls25_1
                    have is25_1 : TI s25_1 s25_1.toInt := rfl
                    have us25_2 : Up mu 144 y6 y6r s25_2 s25_2r := us25_2
                    have ts25_2 := cx_up ty6 us25_2
                    have wS_s25_2 := wg_up us25_2 wS_y6
                    have wP148_2_s25_2 := ag_up us25_2 vP148_2_y6
                    have wP148_3_s25_2 := ag_up us25_2 vP148_3_y6
                    have wP148_4_s25_2 := ag_up us25_2 vP148_4_y6
                    refine rl_if (fun c28 => ?_) (fun c28 => ?_)
                    · have dc28 := tl_le iy3 is25_1 c28
                      exact rl_inr ⟨rfl, (ti_bd is25_1 (by omega) (by omega)), us25_2⟩
                    · have dc28 := tl_nle iy3 is25_1 c28
                      refine rl_bnd (Q := fun (y z : Int32) => y = z ∧ (0 ≤ y.toInt ∧ y.toInt ≤ 15)) ?_ ?_
                      · refine rl_if (fun c29 => ?_) (fun c29 => ?_)
                        · have dc29 := tl_eq i2 tn_0 c29
                          exact rl_some ⟨rfl, (ti_bd is25_1 (by omega) (by omega))⟩
                        · have dc29 := tl_ne i2 tn_0 c29
                          exfalso
                          omega
                      · rintro y29 y29r ⟨ey29, ly29⟩
                        obtain rfl : y29 = y29r := ey29
                        have ly29 : 0 ≤ y29.toInt ∧ y29.toInt ≤ 15 := ly29
                        have iy29 : TI y29 y29.toInt := rfl
                        refine rl_bnd (Q := fun (y z : Int32) => y = z ∧ (4 ≤ y.toInt ∧ y.toInt ≤ 12)) ?_ ?_
                        · refine rl_if (fun c30 => ?_) (fun c30 => ?_)
                          · have dc30 := tl_eq i2 tn_0 c30
                            refine rl_ltI (av_mul tn_4 i4 (by omega) (by omega)) (fun x64 ix64 => ?_)
                            exact rl_some ⟨rfl, (ti_bd ix64 (by omega) (by omega))⟩
                          · have dc30 := tl_ne i2 tn_0 c30
                            exfalso
                            omega
                        · rintro y30 y30r ⟨ey30, ly30⟩
                          obtain rfl : y30 = y30r := ey30
                          have ly30 : 4 ≤ y30.toInt ∧ y30.toInt ≤ 12 := ly30
                          have iy30 : TI y30 y30.toInt := rfl
                          refine rl_bnd (Q := fun (y z : Int32) => y = z ∧ (4 ≤ y.toInt ∧ y.toInt ≤ 12)) ?_ ?_
                          · refine rl_if (fun c31 => ?_) (fun c31 => ?_)
                            · have dc31 := tl_eq i3 tn_0 c31
                              exact rl_some ⟨rfl, (ti_bd iy30 (by omega) (by omega))⟩
                            · have dc31 := tl_ne i3 tn_0 c31
                              exfalso
                              omega
                          · rintro y31 y31r ⟨ey31, ly31⟩
                            obtain rfl : y31 = y31r := ey31
                            have ly31 : 4 ≤ y31.toInt ∧ y31.toInt ≤ 12 := ly31
                            have iy31 : TI y31 y31.toInt := rfl
                            refine rl_bnd (Q := fun (y z : Int32) => y = z ∧ (0 ≤ y.toInt ∧ y.toInt ≤ 15)) ?_ ?_
                            · refine rl_if (fun c32 => ?_) (fun c32 => ?_)
                              · have dc32 := tl_eq i3 tn_0 c32
                                exact rl_some ⟨rfl, (ti_bd iy29 (by omega) (by omega))⟩
                              · have dc32 := tl_ne i3 tn_0 c32
                                exfalso
                                omega
                            · rintro y32 y32r ⟨ey32, ly32⟩
                              obtain rfl : y32 = y32r := ey32
                              have ly32 : 0 ≤ y32.toInt ∧ y32.toInt ≤ 15 := ly32
                              have iy32 : TI y32 y32.toInt := rfl
                              refine rl_ltI (av_sar 3 iy32 (by decide)) (fun x33 ix33 => ?_)
                              refine rl_ltI (av_mul ix33 tn_8 (by omega) (by omega)) (fun x34 ix34 => ?_)
                              refine rl_ltI (av_sar 3 iy31 (by decide)) (fun x35 ix35 => ?_)
                              refine rl_ltI (av_mul ix35 tn_4 (by omega) (by omega)) (fun x36 ix36 => ?_)
                              refine rl_ltI (av_add ix34 ix36 (by omega) (by omega)) (fun x37 ix37 => ?_)
                              refine rl_ltI (av_sar 2 iy32 (by decide)) (fun x38 ix38 => ?_)
                              refine rl_ltI (av_and 1 ix38 (by decide) (by decide)) (fun x39 ix39 => ?_)
                              refine rl_ltI (av_mul ix39 tn_2 (by omega) (by omega)) (fun x40 ix40 => ?_)
                              refine rl_ltI (av_add ix37 ix40 (by omega) (by omega)) (fun x41 ix41 => ?_)
                              refine rl_ltI (av_sar 2 iy31 (by decide)) (fun x42 ix42 => ?_)
                              refine rl_ltI (av_and 1 ix42 (by decide) (by decide)) (fun x43 ix43 => ?_)
                              refine rl_ltI (av_add ix41 ix43 (by omega) (by omega)) (fun x44 ix44 => ?_)
                              refine rl_ltI (av_mul tn_16 i1 (by omega) (by omega)) (fun x45 ix45 => ?_)
                              refine rl_ltI (av_add ix45 ix44 (by omega) (by omega)) (fun x46 ix46 => ?_)
                              refine rl_ltI (av_mul tn_2 ix46 (by omega) (by omega)) (fun x47 ix47 => ?_)
                              refine rl_ltI (av_add ix47 i3 (by omega) (by omega)) (fun x48 ix48 => ?_)
                              refine rl_dr (cx_U ts25_2) (rx_c (a := 148) (k := 0) (b := 149) ts25_2 (Or.inr (Or.inr (Or.inl rfl))) rfl (by decide)) (fun gb49 => ?_)
                              refine rl_chk (chkl (cx_U ts25_2) gb49) (fun k33 => ?_)
                              refine rl_rd (wg_id wS_s25_2 ix48 (by omega) (by omega)) (fun x50 => ?_)
                              refine rl_bnd (Q := fun (y z : DD) => Up mu 144 s25_2 s25_2r y z) ?_ ?_
                              · refine rl_if (fun c34 => ?_) (fun c34 => ?_)
                                · have dc34 := tl_le (rfl : TI x50 x50.toInt) tn_0 c34
                                  exact rl_some (up_0 mu (κ := 144) _ _)
                                · have dc34 := tl_nle (rfl : TI x50 x50.toInt) tn_0 c34
                                  refine rl_dr (cx_U ts25_2) (rx_4 ts25_2 (cx_p t)) (fun gb54 => ?_)
                                  refine rl_chk (chkl (cx_U ts25_2) gb54) (fun k35 => ?_)
                                  refine rl_ltA (fun x55 => ?_)
                                  refine rl_ltA (fun x56 => ?_)
                                  refine rl_bnd (Q := fun (y z : Int32) => y = z ∧ (1 ≤ y.toInt ∧ y.toInt ≤ 1)) ?_ ?_
                                  · refine rl_if (fun c36 => ?_) (fun c36 => ?_)
                                    · have dc36 := tl_eq i2 tn_0 c36
                                      exact rl_some ⟨rfl, (ti_bd tn_1 (by omega) (by omega))⟩
                                    · have dc36 := tl_ne i2 tn_0 c36
                                      exfalso
                                      omega
                                  · rintro y57 y57r ⟨ey57, ly57⟩
                                    obtain rfl : y57 = y57r := ey57
                                    have ly57 : 1 ≤ y57.toInt ∧ y57.toInt ≤ 1 := ly57
                                    have iy57 : TI y57 (1) := ti_c ly57
                                    obtain ⟨j37, hj37, ej37⟩ := rx_dv ts25_2 (cx_p t) i2 (by omega) (by omega)
                                    refine rl_bnd (r_filterLine ts25_2 ej37 (cx_p t) hj37 wP148_2_s25_2 wP148_3_s25_2 wP148_4_s25_2) ?_
                                    rintro y58 y58r uy58'
                                    have uy58 : Up mu 144 s25_2 s25_2r y58 y58r := uy58'
                                    have ty58 := cx_up ts25_2 uy58
                                    have wS_y58 := wg_up uy58 wS_s25_2
                                    have wP148_2_y58 := ag_up uy58 wP148_2_s25_2
                                    have wP148_3_y58 := ag_up uy58 wP148_3_s25_2
                                    have wP148_4_y58 := ag_up uy58 wP148_4_s25_2
                                    exact rl_some uy58
                              · rintro y51 y51r uy51
                                have uy51 : Up mu 144 s25_2 s25_2r y51 y51r := uy51
                                have ty51 := cx_up ts25_2 uy51
                                have wS_y51 := wg_up uy51 wS_s25_2
                                have wP148_2_y51 := ag_up uy51 wP148_2_s25_2
                                have wP148_3_y51 := ag_up uy51 wP148_3_s25_2
                                have wP148_4_y51 := ag_up uy51 wP148_4_s25_2
                                refine rl_ltI (av_add is25_1 tn_1 (by omega) (by omega)) (fun x52 ix52 => ?_)
                                exact rl_inl ⟨rfl, (ti_bd ix52 (by omega) (by omega)), (up_tr us25_2 uy51)⟩
                  · exact ⟨rfl, (ti_bd tn_0 (by omega) (by omega)), (up_0 mu (κ := 144) _ _)⟩
                  · rintro ⟨y24_1, y24_2⟩ ⟨y24_1r, y24_2r⟩ ⟨ey24_1, ly24_1, uy24_2⟩
                    obtain rfl : y24_1 = y24_1r := ey24_1
                    have ly24_1 : 0 ≤ y24_1.toInt ∧ y24_1.toInt ≤ y3.toInt := ly24_1
                    have iy24_1 : TI y24_1 y24_1.toInt := rfl
                    have uy24_2 : Up mu 144 y6 y6r y24_2 y24_2r := uy24_2
                    have ty24_2 := cx_up ty6 uy24_2
                    have wS_y24_2 := wg_up uy24_2 wS_y6
                    have wP148_2_y24_2 := ag_up uy24_2 vP148_2_y6
                    have wP148_3_y24_2 := ag_up uy24_2 vP148_3_y6
                    have wP148_4_y24_2 := ag_up uy24_2 vP148_4_y6
                    exact rl_some (up_tr uy6 uy24_2)
    · refine rl_dr (cx_U t) ⟨rfl, rfl⟩ (fun gb2 => ?_)
      refine rl_bnd (Q := fun (y z : Int32) => y = z ∧ (16 ≤ y.toInt ∧ y.toInt ≤ 16)) ?_ ?_
      · refine rl_if (fun c1 => ?_) (fun c1 => ?_)
        · have dc1 := tl_eq i2 tn_0 c1
          exact rl_some ⟨rfl, (ti_bd tn_16 (by omega) (by omega))⟩
        · have dc1 := tl_ne i2 tn_0 c1
          exfalso
          omega
      · rintro y3 y3r ⟨ey3, ly3⟩
        obtain rfl : y3 = y3r := ey3
        have ly3 : 16 ≤ y3.toInt ∧ y3.toInt ≤ 16 := ly3
        have iy3 : TI y3 (16) := ti_c ly3
        refine rl_bnd (Q := fun (y z : Int32) => y = z) ?_ ?_
        · refine rl_if (fun c2 => ?_) (fun c2 => ?_)
          · have dc2 := tl_le i4 tn_0 c2
            refine rl_bnd (Q := fun (y z : Int32) => y = z) ?_ ?_
            · refine rl_if (fun c3 => ?_) (fun c3 => ?_)
              · have dc3 := tl_eq i3 tn_0 c3
                exfalso
                omega
              · have dc3 := tl_ne i3 tn_0 c3
                refine rl_dr (cx_U t) (rx_p t) (fun gb206 => ?_)
                refine rl_rd (cx_q (j := 0) (k := 1) t (cx_p t) rfl) (fun x207 => ?_)
                refine rl_ltA (fun x208 => ?_)
                exact rl_some rfl
            · rintro y204 y204r ey204
              obtain rfl : y204 = y204r := ey204
              exact rl_some rfl
          · have dc2 := tl_nle i4 tn_0 c2
            exact rl_some rfl
        · rintro y4 y4r ey4
          obtain rfl : y4 = y4r := ey4
          refine rl_if (fun c4 => ?_) (fun c4 => ?_)
          · have dc4 := tl_eq i4 tn_0 c4
            refine rl_if (fun c5 => ?_) (fun c5 => ?_)
            · have dc5 := tl_eq i3 tn_0 c5
              exfalso
              omega
            · have dc5 := tl_ne i3 tn_0 c5
              refine rl_if (fun c6 => ?_) (fun c6 => ?_)
              · have dc6 := tl_le tn_0 (rfl : TI y4 y4.toInt) c6
                refine rl_bnd (r_setThresholds t ⟨rfl, rfl⟩) ?_
                rintro y72 y72r ⟨uy72', vP148_2_y72, vP148_3_y72, vP148_4_y72⟩
                have uy72 : Up mu 144 M N y72 y72r := uy72'
                have ty72 := cx_up t uy72
                have wS_y72 := wg_up uy72 hS
                refine rl_dr (cx_U ty72) (rx_p t) (fun gb73 => ?_)
                refine rl_rd (cx_q (j := 0) (k := 1) ty72 (cx_p t) rfl) (fun x74 => ?_)
                refine rl_ltA (fun x75 => ?_)
                refine rl_rd (cx_q (j := 0) (k := 1) ty72 (cx_p t) rfl) (fun x76 => ?_)
                refine rl_chk (fun h => h) (fun k7 => ?_)
                refine rl_ltA (fun x77 => ?_)
                refine rl_ltA (fun x78 => ?_)
                refine rl_ltA (fun x79 => ?_)
                refine rl_rd (cx_q (j := 0) (k := 1) ty72 (cx_p t) rfl) (fun x80 => ?_)
                refine rl_chk (fun h => h) (fun k8 => ?_)
                refine rl_ltA (fun x81 => ?_)
                refine rl_ltA (fun x82 => ?_)
                refine rl_ltA (fun x83 => ?_)
                refine rl_ltI (av_mul tn_4 i4 (by omega) (by omega)) (fun x84 ix84 => ?_)
                refine rl_bnd (Q := fun (y z : Int32) => y = z) ?_ ?_
                · refine rl_if (fun c9 => ?_) (fun c9 => ?_)
                  · have dc9 := tl_eq i3 tn_0 c9
                    exfalso
                    omega
                  · have dc9 := tl_ne i3 tn_0 c9
                    exact rl_some rfl
                · rintro y85 y85r ey85
                  obtain rfl : y85 = y85r := ey85
                  refine rl_ltA (fun x86 => ?_)
                  refine rl_ltA (fun x87 => ?_)
                  refine rl_bnd (Q := fun (y z : Int32) => y = z) ?_ ?_
                  · refine rl_if (fun c10 => ?_) (fun c10 => ?_)
                    · have dc10 := tl_eq i3 tn_0 c10
                      exfalso
                      omega
                    · have dc10 := tl_ne i3 tn_0 c10
                      exact rl_some rfl
                  · rintro y88 y88r ey88
                    obtain rfl : y88 = y88r := ey88
                    refine rl_bnd (Q := fun (y z : Int32) => y = z ∧ (1 ≤ y.toInt ∧ y.toInt ≤ 1)) ?_ ?_
                    · refine rl_if (fun c11 => ?_) (fun c11 => ?_)
                      · have dc11 := tl_eq i3 tn_0 c11
                        exfalso
                        omega
                      · have dc11 := tl_ne i3 tn_0 c11
                        exact rl_some ⟨rfl, (ti_bd tn_1 (by omega) (by omega))⟩
                    · rintro y89 y89r ⟨ey89, ly89⟩
                      obtain rfl : y89 = y89r := ey89
                      have ly89 : 1 ≤ y89.toInt ∧ y89.toInt ≤ 1 := ly89
                      have iy89 : TI y89 (1) := ti_c ly89
                      have ky3 : y3.toInt = _ := iy3
                      refine rl_bnd (Q := fun (y z : Int32 × DD) => y.1 = z.1 ∧ (0 ≤ y.1.toInt ∧ y.1.toInt ≤ y3.toInt) ∧ Up mu 144 y72 y72r y.2 z.2) (rl_itr (fun (y z : Int32 × DD) => y.1 = z.1 ∧ (0 ≤ y.1.toInt ∧ y.1.toInt ≤ y3.toInt) ∧ Up mu 144 y72 y72r y.2 z.2) _ ?_ _ _ _ ?_) ?_
                      · rintro ⟨s91_1, s91_2⟩ ⟨s91_1r, s91_2r⟩ ⟨es91_1, ls91_1, us91_2⟩
                        obtain rfl : s91_1 = s91_1r := es91_1
                        have ls91_1 : 0 ≤ s91_1.toInt ∧ s91_1.toInt ≤ y3.toInt := ls91_1
                        have is91_1 : TI s91_1 s91_1.toInt := rfl
                        have us91_2 : Up mu 144 y72 y72r s91_2 s91_2r := us91_2
                        have ts91_2 := cx_up ty72 us91_2
                        have wS_s91_2 := wg_up us91_2 wS_y72
                        have wP148_2_s91_2 := ag_up us91_2 vP148_2_y72
                        have wP148_3_s91_2 := ag_up us91_2 vP148_3_y72
                        have wP148_4_s91_2 := ag_up us91_2 vP148_4_y72
                        refine rl_if (fun c12 => ?_) (fun c12 => ?_)
                        · have dc12 := tl_le iy3 is91_1 c12
                          exact rl_inr ⟨rfl, (ti_bd is91_1 (by omega) (by omega)), us91_2⟩
                        · have dc12 := tl_nle iy3 is91_1 c12
                          refine rl_bnd (Q := fun (y z : Int32) => y = z ∧ (0 ≤ y.toInt ∧ y.toInt ≤ 15)) ?_ ?_
                          · refine rl_if (fun c13 => ?_) (fun c13 => ?_)
                            · have dc13 := tl_eq i2 tn_0 c13
                              exact rl_some ⟨rfl, (ti_bd is91_1 (by omega) (by omega))⟩
                            · have dc13 := tl_ne i2 tn_0 c13
                              exfalso
                              omega
                          · rintro y95 y95r ⟨ey95, ly95⟩
                            obtain rfl : y95 = y95r := ey95
                            have ly95 : 0 ≤ y95.toInt ∧ y95.toInt ≤ 15 := ly95
                            have iy95 : TI y95 y95.toInt := rfl
                            refine rl_bnd (Q := fun (y z : Int32) => y = z ∧ (0 ≤ y.toInt ∧ y.toInt ≤ 0)) ?_ ?_
                            · refine rl_if (fun c14 => ?_) (fun c14 => ?_)
                              · have dc14 := tl_eq i2 tn_0 c14
                                refine rl_ltI (av_mul tn_4 i4 (by omega) (by omega)) (fun x130 ix130 => ?_)
                                exact rl_some ⟨rfl, (ti_bd ix130 (by omega) (by omega))⟩
                              · have dc14 := tl_ne i2 tn_0 c14
                                exfalso
                                omega
                            · rintro y96 y96r ⟨ey96, ly96⟩
                              obtain rfl : y96 = y96r := ey96
                              have ly96 : 0 ≤ y96.toInt ∧ y96.toInt ≤ 0 := ly96
                              have iy96 : TI y96 (0) := ti_c ly96
                              refine rl_bnd (Q := fun (y z : Int32) => y = z ∧ (0 ≤ y.toInt ∧ y.toInt ≤ 15)) ?_ ?_
                              · refine rl_if (fun c15 => ?_) (fun c15 => ?_)
                                · have dc15 := tl_eq i3 tn_0 c15
                                  exfalso
                                  omega
                                · have dc15 := tl_ne i3 tn_0 c15
                                  exact rl_some ⟨rfl, (ti_bd iy95 (by omega) (by omega))⟩
                              · rintro y97 y97r ⟨ey97, ly97⟩
                                obtain rfl : y97 = y97r := ey97
                                have ly97 : 0 ≤ y97.toInt ∧ y97.toInt ≤ 15 := ly97
                                have iy97 : TI y97 y97.toInt := rfl
                                refine rl_bnd (Q := fun (y z : Int32) => y = z ∧ (0 ≤ y.toInt ∧ y.toInt ≤ 0)) ?_ ?_
                                · refine rl_if (fun c16 => ?_) (fun c16 => ?_)
                                  · have dc16 := tl_eq i3 tn_0 c16
                                    exfalso
                                    omega
                                  · have dc16 := tl_ne i3 tn_0 c16
                                    exact rl_some ⟨rfl, (ti_bd iy96 (by omega) (by omega))⟩
                                · rintro y98 y98r ⟨ey98, ly98⟩
                                  obtain rfl : y98 = y98r := ey98
                                  have ly98 : 0 ≤ y98.toInt ∧ y98.toInt ≤ 0 := ly98
                                  have iy98 : TI y98 (0) := ti_c ly98
                                  refine rl_ltI (av_sar 3 iy98 (by decide)) (fun x99 ix99 => ?_)
                                  refine rl_ltI (av_mul ix99 tn_8 (by omega) (by omega)) (fun x100 ix100 => ?_)
                                  refine rl_ltI (av_sar 3 iy97 (by decide)) (fun x101 ix101 => ?_)
                                  refine rl_ltI (av_mul ix101 tn_4 (by omega) (by omega)) (fun x102 ix102 => ?_)
                                  refine rl_ltI (av_add ix100 ix102 (by omega) (by omega)) (fun x103 ix103 => ?_)
                                  refine rl_ltI (av_sar 2 iy98 (by decide)) (fun x104 ix104 => ?_)
                                  refine rl_ltI (av_and 1 ix104 (by decide) (by decide)) (fun x105 ix105 => ?_)
                                  refine rl_ltI (av_mul ix105 tn_2 (by omega) (by omega)) (fun x106 ix106 => ?_)
                                  refine rl_ltI (av_add ix103 ix106 (by omega) (by omega)) (fun x107 ix107 => ?_)
                                  refine rl_ltI (av_sar 2 iy97 (by decide)) (fun x108 ix108 => ?_)
                                  refine rl_ltI (av_and 1 ix108 (by decide) (by decide)) (fun x109 ix109 => ?_)
                                  refine rl_ltI (av_add ix107 ix109 (by omega) (by omega)) (fun x110 ix110 => ?_)
                                  refine rl_ltI (av_mul tn_16 i1 (by omega) (by omega)) (fun x111 ix111 => ?_)
                                  refine rl_ltI (av_add ix111 ix110 (by omega) (by omega)) (fun x112 ix112 => ?_)
                                  refine rl_ltI (av_mul tn_2 ix112 (by omega) (by omega)) (fun x113 ix113 => ?_)
                                  refine rl_ltI (av_add ix113 i3 (by omega) (by omega)) (fun x114 ix114 => ?_)
                                  refine rl_dr (cx_U ts91_2) (rx_c (a := 148) (k := 0) (b := 149) ts91_2 (Or.inr (Or.inr (Or.inl rfl))) rfl (by decide)) (fun gb115 => ?_)
                                  refine rl_chk (chkl (cx_U ts91_2) gb115) (fun k17 => ?_)
                                  refine rl_rd (wg_id wS_s91_2 ix114 (by omega) (by omega)) (fun x116 => ?_)
                                  refine rl_bnd (Q := fun (y z : DD) => Up mu 144 s91_2 s91_2r y z) ?_ ?_
                                  · refine rl_if (fun c18 => ?_) (fun c18 => ?_)
                                    · have dc18 := tl_le (rfl : TI x116 x116.toInt) tn_0 c18
                                      exact rl_some (up_0 mu (κ := 144) _ _)
                                    · have dc18 := tl_nle (rfl : TI x116 x116.toInt) tn_0 c18
                                      refine rl_dr (cx_U ts91_2) (rx_4 ts91_2 (cx_p t)) (fun gb120 => ?_)
                                      refine rl_chk (chkl (cx_U ts91_2) gb120) (fun k19 => ?_)
                                      refine rl_ltI (av_mul is91_1 iy89 (by omega) (by omega)) (fun x121 ix121 => ?_)
                                      refine rl_ltA (fun x122 => ?_)
                                      refine rl_bnd (Q := fun (y z : Int32) => y = z ∧ (1 ≤ y.toInt ∧ y.toInt ≤ 1)) ?_ ?_
                                      · refine rl_if (fun c20 => ?_) (fun c20 => ?_)
                                        · have dc20 := tl_eq i2 tn_0 c20
                                          exact rl_some ⟨rfl, (ti_bd tn_1 (by omega) (by omega))⟩
                                        · have dc20 := tl_ne i2 tn_0 c20
                                          exfalso
                                          omega
                                      · rintro y123 y123r ⟨ey123, ly123⟩
                                        obtain rfl : y123 = y123r := ey123
                                        have ly123 : 1 ≤ y123.toInt ∧ y123.toInt ≤ 1 := ly123
                                        have iy123 : TI y123 (1) := ti_c ly123
                                        obtain ⟨j21, hj21, ej21⟩ := rx_dv ts91_2 (cx_p t) i2 (by omega) (by omega)
                                        refine rl_bnd (r_filterLine ts91_2 ej21 (cx_p t) hj21 wP148_2_s91_2 wP148_3_s91_2 wP148_4_s91_2) ?_
                                        rintro y124 y124r uy124'
                                        have uy124 : Up mu 144 s91_2 s91_2r y124 y124r := uy124'
                                        have ty124 := cx_up ts91_2 uy124
                                        have wS_y124 := wg_up uy124 wS_s91_2
                                        have wP148_2_y124 := ag_up uy124 wP148_2_s91_2
                                        have wP148_3_y124 := ag_up uy124 wP148_3_s91_2
                                        have wP148_4_y124 := ag_up uy124 wP148_4_s91_2
                                        exact rl_some uy124
                                  · rintro y117 y117r uy117
                                    have uy117 : Up mu 144 s91_2 s91_2r y117 y117r := uy117
                                    have ty117 := cx_up ts91_2 uy117
                                    have wS_y117 := wg_up uy117 wS_s91_2
                                    have wP148_2_y117 := ag_up uy117 wP148_2_s91_2
                                    have wP148_3_y117 := ag_up uy117 wP148_3_s91_2
                                    have wP148_4_y117 := ag_up uy117 wP148_4_s91_2
                                    refine rl_ltI (av_add is91_1 tn_1 (by omega) (by omega)) (fun x118 ix118 => ?_)
                                    exact rl_inl ⟨rfl, (ti_bd ix118 (by omega) (by omega)), (up_tr us91_2 uy117)⟩
                      · exact ⟨rfl, (ti_bd tn_0 (by omega) (by omega)), (up_0 mu (κ := 144) _ _)⟩
                      · rintro ⟨y90_1, y90_2⟩ ⟨y90_1r, y90_2r⟩ ⟨ey90_1, ly90_1, uy90_2⟩
                        obtain rfl : y90_1 = y90_1r := ey90_1
                        have ly90_1 : 0 ≤ y90_1.toInt ∧ y90_1.toInt ≤ y3.toInt := ly90_1
                        have iy90_1 : TI y90_1 y90_1.toInt := rfl
                        have uy90_2 : Up mu 144 y72 y72r y90_2 y90_2r := uy90_2
                        have ty90_2 := cx_up ty72 uy90_2
                        have wS_y90_2 := wg_up uy90_2 wS_y72
                        have wP148_2_y90_2 := ag_up uy90_2 vP148_2_y72
                        have wP148_3_y90_2 := ag_up uy90_2 vP148_3_y72
                        have wP148_4_y90_2 := ag_up uy90_2 vP148_4_y72
                        exact rl_some (up_tr uy72 uy90_2)
              · have dc6 := tl_nle tn_0 (rfl : TI y4 y4.toInt) c6
                exact rl_some (up_0 mu (κ := 144) _ _)
          · have dc4 := tl_ne i4 tn_0 c4
            refine rl_bnd (r_setThresholds t ⟨rfl, rfl⟩) ?_
            rintro y6 y6r ⟨uy6', vP148_2_y6, vP148_3_y6, vP148_4_y6⟩
            have uy6 : Up mu 144 M N y6 y6r := uy6'
            have ty6 := cx_up t uy6
            have wS_y6 := wg_up uy6 hS
            refine rl_dr (cx_U ty6) (rx_p t) (fun gb7 => ?_)
            refine rl_rd (cx_q (j := 0) (k := 1) ty6 (cx_p t) rfl) (fun x8 => ?_)
            refine rl_ltA (fun x9 => ?_)
            refine rl_rd (cx_q (j := 0) (k := 1) ty6 (cx_p t) rfl) (fun x10 => ?_)
            refine rl_chk (fun h => h) (fun k22 => ?_)
            refine rl_ltA (fun x11 => ?_)
            refine rl_ltA (fun x12 => ?_)
            refine rl_ltA (fun x13 => ?_)
            refine rl_rd (cx_q (j := 0) (k := 1) ty6 (cx_p t) rfl) (fun x14 => ?_)
            refine rl_chk (fun h => h) (fun k23 => ?_)
            refine rl_ltA (fun x15 => ?_)
            refine rl_ltA (fun x16 => ?_)
            refine rl_ltA (fun x17 => ?_)
            refine rl_ltI (av_mul tn_4 i4 (by omega) (by omega)) (fun x18 ix18 => ?_)
            refine rl_bnd (Q := fun (y z : Int32) => y = z) ?_ ?_
            · refine rl_if (fun c24 => ?_) (fun c24 => ?_)
              · have dc24 := tl_eq i3 tn_0 c24
                exfalso
                omega
              · have dc24 := tl_ne i3 tn_0 c24
                exact rl_some rfl
            · rintro y19 y19r ey19
              obtain rfl : y19 = y19r := ey19
              refine rl_ltA (fun x20 => ?_)
              refine rl_ltA (fun x21 => ?_)
              refine rl_bnd (Q := fun (y z : Int32) => y = z) ?_ ?_
              · refine rl_if (fun c25 => ?_) (fun c25 => ?_)
                · have dc25 := tl_eq i3 tn_0 c25
                  exfalso
                  omega
                · have dc25 := tl_ne i3 tn_0 c25
                  exact rl_some rfl
              · rintro y22 y22r ey22
                obtain rfl : y22 = y22r := ey22
                refine rl_bnd (Q := fun (y z : Int32) => y = z ∧ (1 ≤ y.toInt ∧ y.toInt ≤ 1)) ?_ ?_
                · refine rl_if (fun c26 => ?_) (fun c26 => ?_)
                  · have dc26 := tl_eq i3 tn_0 c26
                    exfalso
                    omega
                  · have dc26 := tl_ne i3 tn_0 c26
                    exact rl_some ⟨rfl, (ti_bd tn_1 (by omega) (by omega))⟩
                · rintro y23 y23r ⟨ey23, ly23⟩
                  obtain rfl : y23 = y23r := ey23
                  have ly23 : 1 ≤ y23.toInt ∧ y23.toInt ≤ 1 := ly23
                  have iy23 : TI y23 (1) := ti_c ly23
                  have ky3 : y3.toInt = _ := iy3
                  refine rl_bnd (Q := fun (y z : Int32 × DD) => y.1 = z.1 ∧ (0 ≤ y.1.toInt ∧ y.1.toInt ≤ y3.toInt) ∧ Up mu 144 y6 y6r y.2 z.2) (rl_itr (fun (y z : Int32 × DD) => y.1 = z.1 ∧ (0 ≤ y.1.toInt ∧ y.1.toInt ≤ y3.toInt) ∧ Up mu 144 y6 y6r y.2 z.2) _ ?_ _ _ _ ?_) ?_
                  · rintro ⟨s25_1, s25_2⟩ ⟨s25_1r, s25_2r⟩ ⟨es25_1, ls25_1, us25_2⟩
                    obtain rfl : s25_1 = s25_1r := es25_1
                    have ls25_1 : 0 ≤ s25_1.toInt ∧ s25_1.toInt ≤ y3.toInt := ls25_1
                    have is25_1 : TI s25_1 s25_1.toInt := rfl
                    have us25_2 : Up mu 144 y6 y6r s25_2 s25_2r := us25_2
                    have ts25_2 := cx_up ty6 us25_2
                    have wS_s25_2 := wg_up us25_2 wS_y6
                    have wP148_2_s25_2 := ag_up us25_2 vP148_2_y6
                    have wP148_3_s25_2 := ag_up us25_2 vP148_3_y6
                    have wP148_4_s25_2 := ag_up us25_2 vP148_4_y6
                    refine rl_if (fun c27 => ?_) (fun c27 => ?_)
                    · have dc27 := tl_le iy3 is25_1 c27
                      exact rl_inr ⟨rfl, (ti_bd is25_1 (by omega) (by omega)), us25_2⟩
                    · have dc27 := tl_nle iy3 is25_1 c27
                      refine rl_bnd (Q := fun (y z : Int32) => y = z ∧ (0 ≤ y.toInt ∧ y.toInt ≤ 15)) ?_ ?_
                      · refine rl_if (fun c28 => ?_) (fun c28 => ?_)
                        · have dc28 := tl_eq i2 tn_0 c28
                          exact rl_some ⟨rfl, (ti_bd is25_1 (by omega) (by omega))⟩
                        · have dc28 := tl_ne i2 tn_0 c28
                          exfalso
                          omega
                      · rintro y29 y29r ⟨ey29, ly29⟩
                        obtain rfl : y29 = y29r := ey29
                        have ly29 : 0 ≤ y29.toInt ∧ y29.toInt ≤ 15 := ly29
                        have iy29 : TI y29 y29.toInt := rfl
                        refine rl_bnd (Q := fun (y z : Int32) => y = z ∧ (4 ≤ y.toInt ∧ y.toInt ≤ 12)) ?_ ?_
                        · refine rl_if (fun c29 => ?_) (fun c29 => ?_)
                          · have dc29 := tl_eq i2 tn_0 c29
                            refine rl_ltI (av_mul tn_4 i4 (by omega) (by omega)) (fun x64 ix64 => ?_)
                            exact rl_some ⟨rfl, (ti_bd ix64 (by omega) (by omega))⟩
                          · have dc29 := tl_ne i2 tn_0 c29
                            exfalso
                            omega
                        · rintro y30 y30r ⟨ey30, ly30⟩
                          obtain rfl : y30 = y30r := ey30
                          have ly30 : 4 ≤ y30.toInt ∧ y30.toInt ≤ 12 := ly30
                          have iy30 : TI y30 y30.toInt := rfl
                          refine rl_bnd (Q := fun (y z : Int32) => y = z ∧ (0 ≤ y.toInt ∧ y.toInt ≤ 15)) ?_ ?_
                          · refine rl_if (fun c30 => ?_) (fun c30 => ?_)
                            · have dc30 := tl_eq i3 tn_0 c30
                              exfalso
                              omega
                            · have dc30 := tl_ne i3 tn_0 c30
                              exact rl_some ⟨rfl, (ti_bd iy29 (by omega) (by omega))⟩
                          · rintro y31 y31r ⟨ey31, ly31⟩
                            obtain rfl : y31 = y31r := ey31
                            have ly31 : 0 ≤ y31.toInt ∧ y31.toInt ≤ 15 := ly31
                            have iy31 : TI y31 y31.toInt := rfl
                            refine rl_bnd (Q := fun (y z : Int32) => y = z ∧ (4 ≤ y.toInt ∧ y.toInt ≤ 12)) ?_ ?_
                            · refine rl_if (fun c31 => ?_) (fun c31 => ?_)
                              · have dc31 := tl_eq i3 tn_0 c31
                                exfalso
                                omega
                              · have dc31 := tl_ne i3 tn_0 c31
                                exact rl_some ⟨rfl, (ti_bd iy30 (by omega) (by omega))⟩
                            · rintro y32 y32r ⟨ey32, ly32⟩
                              obtain rfl : y32 = y32r := ey32
                              have ly32 : 4 ≤ y32.toInt ∧ y32.toInt ≤ 12 := ly32
                              have iy32 : TI y32 y32.toInt := rfl
                              refine rl_ltI (av_sar 3 iy32 (by decide)) (fun x33 ix33 => ?_)
                              refine rl_ltI (av_mul ix33 tn_8 (by omega) (by omega)) (fun x34 ix34 => ?_)
                              refine rl_ltI (av_sar 3 iy31 (by decide)) (fun x35 ix35 => ?_)
                              refine rl_ltI (av_mul ix35 tn_4 (by omega) (by omega)) (fun x36 ix36 => ?_)
                              refine rl_ltI (av_add ix34 ix36 (by omega) (by omega)) (fun x37 ix37 => ?_)
                              refine rl_ltI (av_sar 2 iy32 (by decide)) (fun x38 ix38 => ?_)
                              refine rl_ltI (av_and 1 ix38 (by decide) (by decide)) (fun x39 ix39 => ?_)
                              refine rl_ltI (av_mul ix39 tn_2 (by omega) (by omega)) (fun x40 ix40 => ?_)
                              refine rl_ltI (av_add ix37 ix40 (by omega) (by omega)) (fun x41 ix41 => ?_)
                              refine rl_ltI (av_sar 2 iy31 (by decide)) (fun x42 ix42 => ?_)
                              refine rl_ltI (av_and 1 ix42 (by decide) (by decide)) (fun x43 ix43 => ?_)
                              refine rl_ltI (av_add ix41 ix43 (by omega) (by omega)) (fun x44 ix44 => ?_)
                              refine rl_ltI (av_mul tn_16 i1 (by omega) (by omega)) (fun x45 ix45 => ?_)
                              refine rl_ltI (av_add ix45 ix44 (by omega) (by omega)) (fun x46 ix46 => ?_)
                              refine rl_ltI (av_mul tn_2 ix46 (by omega) (by omega)) (fun x47 ix47 => ?_)
                              refine rl_ltI (av_add ix47 i3 (by omega) (by omega)) (fun x48 ix48 => ?_)
                              refine rl_dr (cx_U ts25_2) (rx_c (a := 148) (k := 0) (b := 149) ts25_2 (Or.inr (Or.inr (Or.inl rfl))) rfl (by decide)) (fun gb49 => ?_)
                              refine rl_chk (chkl (cx_U ts25_2) gb49) (fun k32 => ?_)
                              refine rl_rd (wg_id wS_s25_2 ix48 (by omega) (by omega)) (fun x50 => ?_)
                              refine rl_bnd (Q := fun (y z : DD) => Up mu 144 s25_2 s25_2r y z) ?_ ?_
                              · refine rl_if (fun c33 => ?_) (fun c33 => ?_)
                                · have dc33 := tl_le (rfl : TI x50 x50.toInt) tn_0 c33
                                  exact rl_some (up_0 mu (κ := 144) _ _)
                                · have dc33 := tl_nle (rfl : TI x50 x50.toInt) tn_0 c33
                                  refine rl_dr (cx_U ts25_2) (rx_4 ts25_2 (cx_p t)) (fun gb54 => ?_)
                                  refine rl_chk (chkl (cx_U ts25_2) gb54) (fun k34 => ?_)
                                  refine rl_ltI (av_mul is25_1 iy23 (by omega) (by omega)) (fun x55 ix55 => ?_)
                                  refine rl_ltA (fun x56 => ?_)
                                  refine rl_bnd (Q := fun (y z : Int32) => y = z ∧ (1 ≤ y.toInt ∧ y.toInt ≤ 1)) ?_ ?_
                                  · refine rl_if (fun c35 => ?_) (fun c35 => ?_)
                                    · have dc35 := tl_eq i2 tn_0 c35
                                      exact rl_some ⟨rfl, (ti_bd tn_1 (by omega) (by omega))⟩
                                    · have dc35 := tl_ne i2 tn_0 c35
                                      exfalso
                                      omega
                                  · rintro y57 y57r ⟨ey57, ly57⟩
                                    obtain rfl : y57 = y57r := ey57
                                    have ly57 : 1 ≤ y57.toInt ∧ y57.toInt ≤ 1 := ly57
                                    have iy57 : TI y57 (1) := ti_c ly57
                                    obtain ⟨j36, hj36, ej36⟩ := rx_dv ts25_2 (cx_p t) i2 (by omega) (by omega)
                                    refine rl_bnd (r_filterLine ts25_2 ej36 (cx_p t) hj36 wP148_2_s25_2 wP148_3_s25_2 wP148_4_s25_2) ?_
                                    rintro y58 y58r uy58'
                                    have uy58 : Up mu 144 s25_2 s25_2r y58 y58r := uy58'
                                    have ty58 := cx_up ts25_2 uy58
                                    have wS_y58 := wg_up uy58 wS_s25_2
                                    have wP148_2_y58 := ag_up uy58 wP148_2_s25_2
                                    have wP148_3_y58 := ag_up uy58 wP148_3_s25_2
                                    have wP148_4_y58 := ag_up uy58 wP148_4_s25_2
                                    exact rl_some uy58
                              · rintro y51 y51r uy51
                                have uy51 : Up mu 144 s25_2 s25_2r y51 y51r := uy51
                                have ty51 := cx_up ts25_2 uy51
                                have wS_y51 := wg_up uy51 wS_s25_2
                                have wP148_2_y51 := ag_up uy51 wP148_2_s25_2
                                have wP148_3_y51 := ag_up uy51 wP148_3_s25_2
                                have wP148_4_y51 := ag_up uy51 wP148_4_s25_2
                                refine rl_ltI (av_add is25_1 tn_1 (by omega) (by omega)) (fun x52 ix52 => ?_)
                                exact rl_inl ⟨rfl, (ti_bd ix52 (by omega) (by omega)), (up_tr us25_2 uy51)⟩
                  · exact ⟨rfl, (ti_bd tn_0 (by omega) (by omega)), (up_0 mu (κ := 144) _ _)⟩
                  · rintro ⟨y24_1, y24_2⟩ ⟨y24_1r, y24_2r⟩ ⟨ey24_1, ly24_1, uy24_2⟩
                    obtain rfl : y24_1 = y24_1r := ey24_1
                    have ly24_1 : 0 ≤ y24_1.toInt ∧ y24_1.toInt ≤ y3.toInt := ly24_1
                    have iy24_1 : TI y24_1 y24_1.toInt := rfl
                    have uy24_2 : Up mu 144 y6 y6r y24_2 y24_2r := uy24_2
                    have ty24_2 := cx_up ty6 uy24_2
                    have wS_y24_2 := wg_up uy24_2 wS_y6
                    have wP148_2_y24_2 := ag_up uy24_2 vP148_2_y6
                    have wP148_3_y24_2 := ag_up uy24_2 vP148_3_y6
                    have wP148_4_y24_2 := ag_up uy24_2 vP148_4_y6
                    exact rl_some (up_tr uy6 uy24_2)
  · rcases h3 with rfl | rfl
    · refine rl_dr (cx_U t) ⟨rfl, rfl⟩ (fun gb2 => ?_)
      refine rl_bnd (Q := fun (y z : Int32) => y = z ∧ (8 ≤ y.toInt ∧ y.toInt ≤ 8)) ?_ ?_
      · refine rl_if (fun c1 => ?_) (fun c1 => ?_)
        · have dc1 := tl_eq i2 tn_0 c1
          exfalso
          omega
        · have dc1 := tl_ne i2 tn_0 c1
          exact rl_some ⟨rfl, (ti_bd tn_8 (by omega) (by omega))⟩
      · rintro y3 y3r ⟨ey3, ly3⟩
        obtain rfl : y3 = y3r := ey3
        have ly3 : 8 ≤ y3.toInt ∧ y3.toInt ≤ 8 := ly3
        have iy3 : TI y3 (8) := ti_c ly3
        refine rl_bnd (Q := fun (y z : Int32) => y = z ∧ (-1 ≤ y.toInt ∧ y.toInt ≤ 31)) ?_ ?_
        · refine rl_if (fun c2 => ?_) (fun c2 => ?_)
          · have dc2 := tl_le i4 tn_0 c2
            refine rl_bnd (Q := fun (y z : Int32) => y = z ∧ (-1 ≤ y.toInt ∧ y.toInt ≤ 30)) ?_ ?_
            · refine rl_if (fun c3 => ?_) (fun c3 => ?_)
              · have dc3 := tl_eq i3 tn_0 c3
                refine rl_ltI (av_sub i1 tn_1 (by omega) (by omega)) (fun x209 ix209 => ?_)
                exact rl_some ⟨rfl, (ti_bd ix209 (by omega) (by omega))⟩
              · have dc3 := tl_ne i3 tn_0 c3
                exfalso
                omega
            · rintro y204 y204r ⟨ey204, ly204⟩
              obtain rfl : y204 = y204r := ey204
              have ly204 : -1 ≤ y204.toInt ∧ y204.toInt ≤ 30 := ly204
              have iy204 : TI y204 y204.toInt := rfl
              exact rl_some ⟨rfl, (ti_bd iy204 (by omega) (by omega))⟩
          · have dc2 := tl_nle i4 tn_0 c2
            exact rl_some ⟨rfl, (ti_bd i1 (by omega) (by omega))⟩
        · rintro y4 y4r ⟨ey4, ly4⟩
          obtain rfl : y4 = y4r := ey4
          have ly4 : -1 ≤ y4.toInt ∧ y4.toInt ≤ 31 := ly4
          have iy4 : TI y4 y4.toInt := rfl
          refine rl_if (fun c4 => ?_) (fun c4 => ?_)
          · have dc4 := tl_eq i4 tn_0 c4
            refine rl_if (fun c5 => ?_) (fun c5 => ?_)
            · have dc5 := tl_eq i3 tn_0 c5
              refine rl_dr (cx_U t) (rx_p t) (fun gb136 => ?_)
              refine rl_rd (cx_q (j := 0) (k := 1) t (cx_p t) rfl) (fun x137 => ?_)
              refine rl_chk (fun h => h) (fun k6 => ?_)
              refine rl_ltA (fun x138 => ?_)
              refine rl_if (fun c7 => ?_) (fun c7 => ?_)
              · have dc7 := tl_eq (rfl : TI x138 x138.toInt) tn_0 c7
                exact rl_some (up_0 mu (κ := 144) _ _)
              · have dc7 := tl_ne (rfl : TI x138 x138.toInt) tn_0 c7
                refine rl_bnd (r_setThresholds t ⟨rfl, rfl⟩) ?_
                rintro y140 y140r ⟨uy140', vP148_2_y140, vP148_3_y140, vP148_4_y140⟩
                have uy140 : Up mu 144 M N y140 y140r := uy140'
                have ty140 := cx_up t uy140
                have wS_y140 := wg_up uy140 hS
                refine rl_rd (cx_q (j := 0) (k := 1) ty140 (cx_p t) rfl) (fun x141 => ?_)
                refine rl_ltA (fun x142 => ?_)
                refine rl_rd (cx_q (j := 0) (k := 1) ty140 (cx_p t) rfl) (fun x143 => ?_)
                refine rl_chk (fun h => h) (fun k8 => ?_)
                refine rl_ltA (fun x144 => ?_)
                refine rl_ltA (fun x145 => ?_)
                refine rl_ltA (fun x146 => ?_)
                refine rl_rd (cx_q (j := 0) (k := 1) ty140 (cx_p t) rfl) (fun x147 => ?_)
                refine rl_chk (fun h => h) (fun k9 => ?_)
                refine rl_ltA (fun x148 => ?_)
                refine rl_ltA (fun x149 => ?_)
                refine rl_ltA (fun x150 => ?_)
                refine rl_ltI (av_mul tn_4 i4 (by omega) (by omega)) (fun x151 ix151 => ?_)
                refine rl_bnd (Q := fun (y z : Int32) => y = z ∧ (1 ≤ y.toInt ∧ y.toInt ≤ 1)) ?_ ?_
                · refine rl_if (fun c10 => ?_) (fun c10 => ?_)
                  · have dc10 := tl_eq i3 tn_0 c10
                    exact rl_some ⟨rfl, (ti_bd tn_1 (by omega) (by omega))⟩
                  · have dc10 := tl_ne i3 tn_0 c10
                    exfalso
                    omega
                · rintro y152 y152r ⟨ey152, ly152⟩
                  obtain rfl : y152 = y152r := ey152
                  have ly152 : 1 ≤ y152.toInt ∧ y152.toInt ≤ 1 := ly152
                  have iy152 : TI y152 (1) := ti_c ly152
                  refine rl_ltI (av_mul ix151 iy152 (by omega) (by omega)) (fun x153 ix153 => ?_)
                  refine rl_ltA (fun x154 => ?_)
                  refine rl_bnd (Q := fun (y z : Int32) => y = z ∧ (1 ≤ y.toInt ∧ y.toInt ≤ 1)) ?_ ?_
                  · refine rl_if (fun c11 => ?_) (fun c11 => ?_)
                    · have dc11 := tl_eq i3 tn_0 c11
                      exact rl_some ⟨rfl, (ti_bd tn_1 (by omega) (by omega))⟩
                    · have dc11 := tl_ne i3 tn_0 c11
                      exfalso
                      omega
                  · rintro y155 y155r ⟨ey155, ly155⟩
                    obtain rfl : y155 = y155r := ey155
                    have ly155 : 1 ≤ y155.toInt ∧ y155.toInt ≤ 1 := ly155
                    have iy155 : TI y155 (1) := ti_c ly155
                    refine rl_bnd (Q := fun (y z : Int32) => y = z) ?_ ?_
                    · refine rl_if (fun c12 => ?_) (fun c12 => ?_)
                      · have dc12 := tl_eq i3 tn_0 c12
                        exact rl_some rfl
                      · have dc12 := tl_ne i3 tn_0 c12
                        exfalso
                        omega
                    · rintro y156 y156r ey156
                      obtain rfl : y156 = y156r := ey156
                      have ky3 : y3.toInt = _ := iy3
                      refine rl_bnd (Q := fun (y z : Int32 × DD) => y.1 = z.1 ∧ (0 ≤ y.1.toInt ∧ y.1.toInt ≤ y3.toInt) ∧ Up mu 144 y140 y140r y.2 z.2) (rl_itr (fun (y z : Int32 × DD) => y.1 = z.1 ∧ (0 ≤ y.1.toInt ∧ y.1.toInt ≤ y3.toInt) ∧ Up mu 144 y140 y140r y.2 z.2) _ ?_ _ _ _ ?_) ?_
                      · rintro ⟨s158_1, s158_2⟩ ⟨s158_1r, s158_2r⟩ ⟨es158_1, ls158_1, us158_2⟩
                        obtain rfl : s158_1 = s158_1r := es158_1
                        have ls158_1 : 0 ≤ s158_1.toInt ∧ s158_1.toInt ≤ y3.toInt := ls158_1
                        have is158_1 : TI s158_1 s158_1.toInt := rfl
                        have us158_2 : Up mu 144 y140 y140r s158_2 s158_2r := us158_2
                        have ts158_2 := cx_up ty140 us158_2
                        have wS_s158_2 := wg_up us158_2 wS_y140
                        have wP148_2_s158_2 := ag_up us158_2 vP148_2_y140
                        have wP148_3_s158_2 := ag_up us158_2 vP148_3_y140
                        have wP148_4_s158_2 := ag_up us158_2 vP148_4_y140
                        refine rl_if (fun c13 => ?_) (fun c13 => ?_)
                        · have dc13 := tl_le iy3 is158_1 c13
                          exact rl_inr ⟨rfl, (ti_bd is158_1 (by omega) (by omega)), us158_2⟩
                        · have dc13 := tl_nle iy3 is158_1 c13
                          refine rl_bnd (Q := fun (y z : Int32) => y = z ∧ (0 ≤ y.toInt ∧ y.toInt ≤ 14)) ?_ ?_
                          · refine rl_if (fun c14 => ?_) (fun c14 => ?_)
                            · have dc14 := tl_eq i2 tn_0 c14
                              exfalso
                              omega
                            · have dc14 := tl_ne i2 tn_0 c14
                              refine rl_ltI (av_mul tn_2 is158_1 (by omega) (by omega)) (fun x199 ix199 => ?_)
                              exact rl_some ⟨rfl, (ti_bd ix199 (by omega) (by omega))⟩
                          · rintro y162 y162r ⟨ey162, ly162⟩
                            obtain rfl : y162 = y162r := ey162
                            have ly162 : 0 ≤ y162.toInt ∧ y162.toInt ≤ 14 := ly162
                            have iy162 : TI y162 y162.toInt := rfl
                            refine rl_bnd (Q := fun (y z : Int32) => y = z ∧ (0 ≤ y.toInt ∧ y.toInt ≤ 0)) ?_ ?_
                            · refine rl_if (fun c15 => ?_) (fun c15 => ?_)
                              · have dc15 := tl_eq i2 tn_0 c15
                                exfalso
                                omega
                              · have dc15 := tl_ne i2 tn_0 c15
                                refine rl_ltI (av_mul tn_8 i4 (by omega) (by omega)) (fun x196 ix196 => ?_)
                                exact rl_some ⟨rfl, (ti_bd ix196 (by omega) (by omega))⟩
                            · rintro y163 y163r ⟨ey163, ly163⟩
                              obtain rfl : y163 = y163r := ey163
                              have ly163 : 0 ≤ y163.toInt ∧ y163.toInt ≤ 0 := ly163
                              have iy163 : TI y163 (0) := ti_c ly163
                              refine rl_bnd (Q := fun (y z : Int32) => y = z ∧ (0 ≤ y.toInt ∧ y.toInt ≤ 0)) ?_ ?_
                              · refine rl_if (fun c16 => ?_) (fun c16 => ?_)
                                · have dc16 := tl_eq i3 tn_0 c16
                                  exact rl_some ⟨rfl, (ti_bd iy163 (by omega) (by omega))⟩
                                · have dc16 := tl_ne i3 tn_0 c16
                                  exfalso
                                  omega
                              · rintro y164 y164r ⟨ey164, ly164⟩
                                obtain rfl : y164 = y164r := ey164
                                have ly164 : 0 ≤ y164.toInt ∧ y164.toInt ≤ 0 := ly164
                                have iy164 : TI y164 (0) := ti_c ly164
                                refine rl_bnd (Q := fun (y z : Int32) => y = z ∧ (0 ≤ y.toInt ∧ y.toInt ≤ 14)) ?_ ?_
                                · refine rl_if (fun c17 => ?_) (fun c17 => ?_)
                                  · have dc17 := tl_eq i3 tn_0 c17
                                    exact rl_some ⟨rfl, (ti_bd iy162 (by omega) (by omega))⟩
                                  · have dc17 := tl_ne i3 tn_0 c17
                                    exfalso
                                    omega
                                · rintro y165 y165r ⟨ey165, ly165⟩
                                  obtain rfl : y165 = y165r := ey165
                                  have ly165 : 0 ≤ y165.toInt ∧ y165.toInt ≤ 14 := ly165
                                  have iy165 : TI y165 y165.toInt := rfl
                                  refine rl_ltI (av_sar 3 iy165 (by decide)) (fun x166 ix166 => ?_)
                                  refine rl_ltI (av_mul ix166 tn_8 (by omega) (by omega)) (fun x167 ix167 => ?_)
                                  refine rl_ltI (av_sar 3 iy164 (by decide)) (fun x168 ix168 => ?_)
                                  refine rl_ltI (av_mul ix168 tn_4 (by omega) (by omega)) (fun x169 ix169 => ?_)
                                  refine rl_ltI (av_add ix167 ix169 (by omega) (by omega)) (fun x170 ix170 => ?_)
                                  refine rl_ltI (av_sar 2 iy165 (by decide)) (fun x171 ix171 => ?_)
                                  refine rl_ltI (av_and 1 ix171 (by decide) (by decide)) (fun x172 ix172 => ?_)
                                  refine rl_ltI (av_mul ix172 tn_2 (by omega) (by omega)) (fun x173 ix173 => ?_)
                                  refine rl_ltI (av_add ix170 ix173 (by omega) (by omega)) (fun x174 ix174 => ?_)
                                  refine rl_ltI (av_sar 2 iy164 (by decide)) (fun x175 ix175 => ?_)
                                  refine rl_ltI (av_and 1 ix175 (by decide) (by decide)) (fun x176 ix176 => ?_)
                                  refine rl_ltI (av_add ix174 ix176 (by omega) (by omega)) (fun x177 ix177 => ?_)
                                  refine rl_ltI (av_mul tn_16 i1 (by omega) (by omega)) (fun x178 ix178 => ?_)
                                  refine rl_ltI (av_add ix178 ix177 (by omega) (by omega)) (fun x179 ix179 => ?_)
                                  refine rl_ltI (av_mul tn_2 ix179 (by omega) (by omega)) (fun x180 ix180 => ?_)
                                  refine rl_ltI (av_add ix180 i3 (by omega) (by omega)) (fun x181 ix181 => ?_)
                                  refine rl_dr (cx_U ts158_2) (rx_c (a := 148) (k := 0) (b := 149) ts158_2 (Or.inr (Or.inr (Or.inl rfl))) rfl (by decide)) (fun gb182 => ?_)
                                  refine rl_chk (chkl (cx_U ts158_2) gb182) (fun k18 => ?_)
                                  refine rl_rd (wg_id wS_s158_2 ix181 (by omega) (by omega)) (fun x183 => ?_)
                                  refine rl_bnd (Q := fun (y z : DD) => Up mu 144 s158_2 s158_2r y z) ?_ ?_
                                  · refine rl_if (fun c19 => ?_) (fun c19 => ?_)
                                    · have dc19 := tl_le (rfl : TI x183 x183.toInt) tn_0 c19
                                      exact rl_some (up_0 mu (κ := 144) _ _)
                                    · have dc19 := tl_nle (rfl : TI x183 x183.toInt) tn_0 c19
                                      refine rl_dr (cx_U ts158_2) (rx_4 ts158_2 (cx_p t)) (fun gb187 => ?_)
                                      refine rl_chk (chkl (cx_U ts158_2) gb187) (fun k20 => ?_)
                                      refine rl_ltA (fun x188 => ?_)
                                      refine rl_ltA (fun x189 => ?_)
                                      refine rl_bnd (Q := fun (y z : Int32) => y = z ∧ (0 ≤ y.toInt ∧ y.toInt ≤ 0)) ?_ ?_
                                      · refine rl_if (fun c21 => ?_) (fun c21 => ?_)
                                        · have dc21 := tl_eq i2 tn_0 c21
                                          exfalso
                                          omega
                                        · have dc21 := tl_ne i2 tn_0 c21
                                          exact rl_some ⟨rfl, (ti_bd tn_0 (by omega) (by omega))⟩
                                      · rintro y190 y190r ⟨ey190, ly190⟩
                                        obtain rfl : y190 = y190r := ey190
                                        have ly190 : 0 ≤ y190.toInt ∧ y190.toInt ≤ 0 := ly190
                                        have iy190 : TI y190 (0) := ti_c ly190
                                        obtain ⟨j22, hj22, ej22⟩ := rx_dv ts158_2 (cx_p t) i2 (by omega) (by omega)
                                        refine rl_bnd (r_filterLine ts158_2 ej22 (cx_p t) hj22 wP148_2_s158_2 wP148_3_s158_2 wP148_4_s158_2) ?_
                                        rintro y191 y191r uy191'
                                        have uy191 : Up mu 144 s158_2 s158_2r y191 y191r := uy191'
                                        have ty191 := cx_up ts158_2 uy191
                                        have wS_y191 := wg_up uy191 wS_s158_2
                                        have wP148_2_y191 := ag_up uy191 wP148_2_s158_2
                                        have wP148_3_y191 := ag_up uy191 wP148_3_s158_2
                                        have wP148_4_y191 := ag_up uy191 wP148_4_s158_2
                                        exact rl_some uy191
                                  · rintro y184 y184r uy184
                                    have uy184 : Up mu 144 s158_2 s158_2r y184 y184r := uy184
                                    have ty184 := cx_up ts158_2 uy184
                                    have wS_y184 := wg_up uy184 wS_s158_2
                                    have wP148_2_y184 := ag_up uy184 wP148_2_s158_2
                                    have wP148_3_y184 := ag_up uy184 wP148_3_s158_2
                                    have wP148_4_y184 := ag_up uy184 wP148_4_s158_2
                                    refine rl_ltI (av_add is158_1 tn_1 (by omega) (by omega)) (fun x185 ix185 => ?_)
                                    exact rl_inl ⟨rfl, (ti_bd ix185 (by omega) (by omega)), (up_tr us158_2 uy184)⟩
                      · exact ⟨rfl, (ti_bd tn_0 (by omega) (by omega)), (up_0 mu (κ := 144) _ _)⟩
                      · rintro ⟨y157_1, y157_2⟩ ⟨y157_1r, y157_2r⟩ ⟨ey157_1, ly157_1, uy157_2⟩
                        obtain rfl : y157_1 = y157_1r := ey157_1
                        have ly157_1 : 0 ≤ y157_1.toInt ∧ y157_1.toInt ≤ y3.toInt := ly157_1
                        have iy157_1 : TI y157_1 y157_1.toInt := rfl
                        have uy157_2 : Up mu 144 y140 y140r y157_2 y157_2r := uy157_2
                        have ty157_2 := cx_up ty140 uy157_2
                        have wS_y157_2 := wg_up uy157_2 wS_y140
                        have wP148_2_y157_2 := ag_up uy157_2 vP148_2_y140
                        have wP148_3_y157_2 := ag_up uy157_2 vP148_3_y140
                        have wP148_4_y157_2 := ag_up uy157_2 vP148_4_y140
                        exact rl_some (up_tr uy140 uy157_2)
            · have dc5 := tl_ne i3 tn_0 c5
              exfalso
              omega
          · have dc4 := tl_ne i4 tn_0 c4
            refine rl_bnd (r_setThresholds t ⟨rfl, rfl⟩) ?_
            rintro y6 y6r ⟨uy6', vP148_2_y6, vP148_3_y6, vP148_4_y6⟩
            have uy6 : Up mu 144 M N y6 y6r := uy6'
            have ty6 := cx_up t uy6
            have wS_y6 := wg_up uy6 hS
            refine rl_dr (cx_U ty6) (rx_p t) (fun gb7 => ?_)
            refine rl_rd (cx_q (j := 0) (k := 1) ty6 (cx_p t) rfl) (fun x8 => ?_)
            refine rl_ltA (fun x9 => ?_)
            refine rl_rd (cx_q (j := 0) (k := 1) ty6 (cx_p t) rfl) (fun x10 => ?_)
            refine rl_chk (fun h => h) (fun k23 => ?_)
            refine rl_ltA (fun x11 => ?_)
            refine rl_ltA (fun x12 => ?_)
            refine rl_ltA (fun x13 => ?_)
            refine rl_rd (cx_q (j := 0) (k := 1) ty6 (cx_p t) rfl) (fun x14 => ?_)
            refine rl_chk (fun h => h) (fun k24 => ?_)
            refine rl_ltA (fun x15 => ?_)
            refine rl_ltA (fun x16 => ?_)
            refine rl_ltA (fun x17 => ?_)
            refine rl_ltI (av_mul tn_4 i4 (by omega) (by omega)) (fun x18 ix18 => ?_)
            refine rl_bnd (Q := fun (y z : Int32) => y = z ∧ (1 ≤ y.toInt ∧ y.toInt ≤ 1)) ?_ ?_
            · refine rl_if (fun c25 => ?_) (fun c25 => ?_)
              · have dc25 := tl_eq i3 tn_0 c25
                exact rl_some ⟨rfl, (ti_bd tn_1 (by omega) (by omega))⟩
              · have dc25 := tl_ne i3 tn_0 c25
                exfalso
                omega
            · rintro y19 y19r ⟨ey19, ly19⟩
              obtain rfl : y19 = y19r := ey19
              have ly19 : 1 ≤ y19.toInt ∧ y19.toInt ≤ 1 := ly19
              have iy19 : TI y19 (1) := ti_c ly19
              refine rl_ltI (av_mul ix18 iy19 (by omega) (by omega)) (fun x20 ix20 => ?_)
              refine rl_ltA (fun x21 => ?_)
              refine rl_bnd (Q := fun (y z : Int32) => y = z ∧ (1 ≤ y.toInt ∧ y.toInt ≤ 1)) ?_ ?_
              · refine rl_if (fun c26 => ?_) (fun c26 => ?_)
                · have dc26 := tl_eq i3 tn_0 c26
                  exact rl_some ⟨rfl, (ti_bd tn_1 (by omega) (by omega))⟩
                · have dc26 := tl_ne i3 tn_0 c26
                  exfalso
                  omega
              · rintro y22 y22r ⟨ey22, ly22⟩
                obtain rfl : y22 = y22r := ey22
                have ly22 : 1 ≤ y22.toInt ∧ y22.toInt ≤ 1 := ly22
                have iy22 : TI y22 (1) := ti_c ly22
                refine rl_bnd (Q := fun (y z : Int32) => y = z) ?_ ?_
                · refine rl_if (fun c27 => ?_) (fun c27 => ?_)
                  · have dc27 := tl_eq i3 tn_0 c27
                    exact rl_some rfl
                  · have dc27 := tl_ne i3 tn_0 c27
                    exfalso
                    omega
                · rintro y23 y23r ey23
                  obtain rfl : y23 = y23r := ey23
                  have ky3 : y3.toInt = _ := iy3
                  refine rl_bnd (Q := fun (y z : Int32 × DD) => y.1 = z.1 ∧ (0 ≤ y.1.toInt ∧ y.1.toInt ≤ y3.toInt) ∧ Up mu 144 y6 y6r y.2 z.2) (rl_itr (fun (y z : Int32 × DD) => y.1 = z.1 ∧ (0 ≤ y.1.toInt ∧ y.1.toInt ≤ y3.toInt) ∧ Up mu 144 y6 y6r y.2 z.2) _ ?_ _ _ _ ?_) ?_
                  · rintro ⟨s25_1, s25_2⟩ ⟨s25_1r, s25_2r⟩ ⟨es25_1, ls25_1, us25_2⟩
                    obtain rfl : s25_1 = s25_1r := es25_1
                    have ls25_1 : 0 ≤ s25_1.toInt ∧ s25_1.toInt ≤ y3.toInt := ls25_1
                    have is25_1 : TI s25_1 s25_1.toInt := rfl
                    have us25_2 : Up mu 144 y6 y6r s25_2 s25_2r := us25_2
                    have ts25_2 := cx_up ty6 us25_2
                    have wS_s25_2 := wg_up us25_2 wS_y6
                    have wP148_2_s25_2 := ag_up us25_2 vP148_2_y6
                    have wP148_3_s25_2 := ag_up us25_2 vP148_3_y6
                    have wP148_4_s25_2 := ag_up us25_2 vP148_4_y6
                    refine rl_if (fun c28 => ?_) (fun c28 => ?_)
                    · have dc28 := tl_le iy3 is25_1 c28
                      exact rl_inr ⟨rfl, (ti_bd is25_1 (by omega) (by omega)), us25_2⟩
                    · have dc28 := tl_nle iy3 is25_1 c28
                      refine rl_bnd (Q := fun (y z : Int32) => y = z ∧ (0 ≤ y.toInt ∧ y.toInt ≤ 14)) ?_ ?_
                      · refine rl_if (fun c29 => ?_) (fun c29 => ?_)
                        · have dc29 := tl_eq i2 tn_0 c29
                          exfalso
                          omega
                        · have dc29 := tl_ne i2 tn_0 c29
                          refine rl_ltI (av_mul tn_2 is25_1 (by omega) (by omega)) (fun x66 ix66 => ?_)
                          exact rl_some ⟨rfl, (ti_bd ix66 (by omega) (by omega))⟩
                      · rintro y29 y29r ⟨ey29, ly29⟩
                        obtain rfl : y29 = y29r := ey29
                        have ly29 : 0 ≤ y29.toInt ∧ y29.toInt ≤ 14 := ly29
                        have iy29 : TI y29 y29.toInt := rfl
                        refine rl_bnd (Q := fun (y z : Int32) => y = z ∧ (8 ≤ y.toInt ∧ y.toInt ≤ 8)) ?_ ?_
                        · refine rl_if (fun c30 => ?_) (fun c30 => ?_)
                          · have dc30 := tl_eq i2 tn_0 c30
                            exfalso
                            omega
                          · have dc30 := tl_ne i2 tn_0 c30
                            refine rl_ltI (av_mul tn_8 i4 (by omega) (by omega)) (fun x63 ix63 => ?_)
                            exact rl_some ⟨rfl, (ti_bd ix63 (by omega) (by omega))⟩
                        · rintro y30 y30r ⟨ey30, ly30⟩
                          obtain rfl : y30 = y30r := ey30
                          have ly30 : 8 ≤ y30.toInt ∧ y30.toInt ≤ 8 := ly30
                          have iy30 : TI y30 (8) := ti_c ly30
                          refine rl_bnd (Q := fun (y z : Int32) => y = z ∧ (8 ≤ y.toInt ∧ y.toInt ≤ 8)) ?_ ?_
                          · refine rl_if (fun c31 => ?_) (fun c31 => ?_)
                            · have dc31 := tl_eq i3 tn_0 c31
                              exact rl_some ⟨rfl, (ti_bd iy30 (by omega) (by omega))⟩
                            · have dc31 := tl_ne i3 tn_0 c31
                              exfalso
                              omega
                          · rintro y31 y31r ⟨ey31, ly31⟩
                            obtain rfl : y31 = y31r := ey31
                            have ly31 : 8 ≤ y31.toInt ∧ y31.toInt ≤ 8 := ly31
                            have iy31 : TI y31 (8) := ti_c ly31
                            refine rl_bnd (Q := fun (y z : Int32) => y = z ∧ (0 ≤ y.toInt ∧ y.toInt ≤ 14)) ?_ ?_
                            · refine rl_if (fun c32 => ?_) (fun c32 => ?_)
                              · have dc32 := tl_eq i3 tn_0 c32
                                exact rl_some ⟨rfl, (ti_bd iy29 (by omega) (by omega))⟩
                              · have dc32 := tl_ne i3 tn_0 c32
                                exfalso
                                omega
                            · rintro y32 y32r ⟨ey32, ly32⟩
                              obtain rfl : y32 = y32r := ey32
                              have ly32 : 0 ≤ y32.toInt ∧ y32.toInt ≤ 14 := ly32
                              have iy32 : TI y32 y32.toInt := rfl
                              refine rl_ltI (av_sar 3 iy32 (by decide)) (fun x33 ix33 => ?_)
                              refine rl_ltI (av_mul ix33 tn_8 (by omega) (by omega)) (fun x34 ix34 => ?_)
                              refine rl_ltI (av_sar 3 iy31 (by decide)) (fun x35 ix35 => ?_)
                              refine rl_ltI (av_mul ix35 tn_4 (by omega) (by omega)) (fun x36 ix36 => ?_)
                              refine rl_ltI (av_add ix34 ix36 (by omega) (by omega)) (fun x37 ix37 => ?_)
                              refine rl_ltI (av_sar 2 iy32 (by decide)) (fun x38 ix38 => ?_)
                              refine rl_ltI (av_and 1 ix38 (by decide) (by decide)) (fun x39 ix39 => ?_)
                              refine rl_ltI (av_mul ix39 tn_2 (by omega) (by omega)) (fun x40 ix40 => ?_)
                              refine rl_ltI (av_add ix37 ix40 (by omega) (by omega)) (fun x41 ix41 => ?_)
                              refine rl_ltI (av_sar 2 iy31 (by decide)) (fun x42 ix42 => ?_)
                              refine rl_ltI (av_and 1 ix42 (by decide) (by decide)) (fun x43 ix43 => ?_)
                              refine rl_ltI (av_add ix41 ix43 (by omega) (by omega)) (fun x44 ix44 => ?_)
                              refine rl_ltI (av_mul tn_16 i1 (by omega) (by omega)) (fun x45 ix45 => ?_)
                              refine rl_ltI (av_add ix45 ix44 (by omega) (by omega)) (fun x46 ix46 => ?_)
                              refine rl_ltI (av_mul tn_2 ix46 (by omega) (by omega)) (fun x47 ix47 => ?_)
                              refine rl_ltI (av_add ix47 i3 (by omega) (by omega)) (fun x48 ix48 => ?_)
                              refine rl_dr (cx_U ts25_2) (rx_c (a := 148) (k := 0) (b := 149) ts25_2 (Or.inr (Or.inr (Or.inl rfl))) rfl (by decide)) (fun gb49 => ?_)
                              refine rl_chk (chkl (cx_U ts25_2) gb49) (fun k33 => ?_)
                              refine rl_rd (wg_id wS_s25_2 ix48 (by omega) (by omega)) (fun x50 => ?_)
                              refine rl_bnd (Q := fun (y z : DD) => Up mu 144 s25_2 s25_2r y z) ?_ ?_
                              · refine rl_if (fun c34 => ?_) (fun c34 => ?_)
                                · have dc34 := tl_le (rfl : TI x50 x50.toInt) tn_0 c34
                                  exact rl_some (up_0 mu (κ := 144) _ _)
                                · have dc34 := tl_nle (rfl : TI x50 x50.toInt) tn_0 c34
                                  refine rl_dr (cx_U ts25_2) (rx_4 ts25_2 (cx_p t)) (fun gb54 => ?_)
                                  refine rl_chk (chkl (cx_U ts25_2) gb54) (fun k35 => ?_)
                                  refine rl_ltA (fun x55 => ?_)
                                  refine rl_ltA (fun x56 => ?_)
                                  refine rl_bnd (Q := fun (y z : Int32) => y = z ∧ (0 ≤ y.toInt ∧ y.toInt ≤ 0)) ?_ ?_
                                  · refine rl_if (fun c36 => ?_) (fun c36 => ?_)
                                    · have dc36 := tl_eq i2 tn_0 c36
                                      exfalso
                                      omega
                                    · have dc36 := tl_ne i2 tn_0 c36
                                      exact rl_some ⟨rfl, (ti_bd tn_0 (by omega) (by omega))⟩
                                  · rintro y57 y57r ⟨ey57, ly57⟩
                                    obtain rfl : y57 = y57r := ey57
                                    have ly57 : 0 ≤ y57.toInt ∧ y57.toInt ≤ 0 := ly57
                                    have iy57 : TI y57 (0) := ti_c ly57
                                    obtain ⟨j37, hj37, ej37⟩ := rx_dv ts25_2 (cx_p t) i2 (by omega) (by omega)
                                    refine rl_bnd (r_filterLine ts25_2 ej37 (cx_p t) hj37 wP148_2_s25_2 wP148_3_s25_2 wP148_4_s25_2) ?_
                                    rintro y58 y58r uy58'
                                    have uy58 : Up mu 144 s25_2 s25_2r y58 y58r := uy58'
                                    have ty58 := cx_up ts25_2 uy58
                                    have wS_y58 := wg_up uy58 wS_s25_2
                                    have wP148_2_y58 := ag_up uy58 wP148_2_s25_2
                                    have wP148_3_y58 := ag_up uy58 wP148_3_s25_2
                                    have wP148_4_y58 := ag_up uy58 wP148_4_s25_2
                                    exact rl_some uy58
                              · rintro y51 y51r uy51
                                have uy51 : Up mu 144 s25_2 s25_2r y51 y51r := uy51
                                have ty51 := cx_up ts25_2 uy51
                                have wS_y51 := wg_up uy51 wS_s25_2
                                have wP148_2_y51 := ag_up uy51 wP148_2_s25_2
                                have wP148_3_y51 := ag_up uy51 wP148_3_s25_2
                                have wP148_4_y51 := ag_up uy51 wP148_4_s25_2
                                refine rl_ltI (av_add is25_1 tn_1 (by omega) (by omega)) (fun x52 ix52 => ?_)
                                exact rl_inl ⟨rfl, (ti_bd ix52 (by omega) (by omega)), (up_tr us25_2 uy51)⟩
                  · exact ⟨rfl, (ti_bd tn_0 (by omega) (by omega)), (up_0 mu (κ := 144) _ _)⟩
                  · rintro ⟨y24_1, y24_2⟩ ⟨y24_1r, y24_2r⟩ ⟨ey24_1, ly24_1, uy24_2⟩
                    obtain rfl : y24_1 = y24_1r := ey24_1
                    have ly24_1 : 0 ≤ y24_1.toInt ∧ y24_1.toInt ≤ y3.toInt := ly24_1
                    have iy24_1 : TI y24_1 y24_1.toInt := rfl
                    have uy24_2 : Up mu 144 y6 y6r y24_2 y24_2r := uy24_2
                    have ty24_2 := cx_up ty6 uy24_2
                    have wS_y24_2 := wg_up uy24_2 wS_y6
                    have wP148_2_y24_2 := ag_up uy24_2 vP148_2_y6
                    have wP148_3_y24_2 := ag_up uy24_2 vP148_3_y6
                    have wP148_4_y24_2 := ag_up uy24_2 vP148_4_y6
                    exact rl_some (up_tr uy6 uy24_2)
    · refine rl_dr (cx_U t) ⟨rfl, rfl⟩ (fun gb2 => ?_)
      refine rl_bnd (Q := fun (y z : Int32) => y = z ∧ (8 ≤ y.toInt ∧ y.toInt ≤ 8)) ?_ ?_
      · refine rl_if (fun c1 => ?_) (fun c1 => ?_)
        · have dc1 := tl_eq i2 tn_0 c1
          exfalso
          omega
        · have dc1 := tl_ne i2 tn_0 c1
          exact rl_some ⟨rfl, (ti_bd tn_8 (by omega) (by omega))⟩
      · rintro y3 y3r ⟨ey3, ly3⟩
        obtain rfl : y3 = y3r := ey3
        have ly3 : 8 ≤ y3.toInt ∧ y3.toInt ≤ 8 := ly3
        have iy3 : TI y3 (8) := ti_c ly3
        refine rl_bnd (Q := fun (y z : Int32) => y = z) ?_ ?_
        · refine rl_if (fun c2 => ?_) (fun c2 => ?_)
          · have dc2 := tl_le i4 tn_0 c2
            refine rl_bnd (Q := fun (y z : Int32) => y = z) ?_ ?_
            · refine rl_if (fun c3 => ?_) (fun c3 => ?_)
              · have dc3 := tl_eq i3 tn_0 c3
                exfalso
                omega
              · have dc3 := tl_ne i3 tn_0 c3
                refine rl_dr (cx_U t) (rx_p t) (fun gb206 => ?_)
                refine rl_rd (cx_q (j := 0) (k := 1) t (cx_p t) rfl) (fun x207 => ?_)
                refine rl_ltA (fun x208 => ?_)
                exact rl_some rfl
            · rintro y204 y204r ey204
              obtain rfl : y204 = y204r := ey204
              exact rl_some rfl
          · have dc2 := tl_nle i4 tn_0 c2
            exact rl_some rfl
        · rintro y4 y4r ey4
          obtain rfl : y4 = y4r := ey4
          refine rl_if (fun c4 => ?_) (fun c4 => ?_)
          · have dc4 := tl_eq i4 tn_0 c4
            refine rl_if (fun c5 => ?_) (fun c5 => ?_)
            · have dc5 := tl_eq i3 tn_0 c5
              exfalso
              omega
            · have dc5 := tl_ne i3 tn_0 c5
              refine rl_if (fun c6 => ?_) (fun c6 => ?_)
              · have dc6 := tl_le tn_0 (rfl : TI y4 y4.toInt) c6
                refine rl_bnd (r_setThresholds t ⟨rfl, rfl⟩) ?_
                rintro y72 y72r ⟨uy72', vP148_2_y72, vP148_3_y72, vP148_4_y72⟩
                have uy72 : Up mu 144 M N y72 y72r := uy72'
                have ty72 := cx_up t uy72
                have wS_y72 := wg_up uy72 hS
                refine rl_dr (cx_U ty72) (rx_p t) (fun gb73 => ?_)
                refine rl_rd (cx_q (j := 0) (k := 1) ty72 (cx_p t) rfl) (fun x74 => ?_)
                refine rl_ltA (fun x75 => ?_)
                refine rl_rd (cx_q (j := 0) (k := 1) ty72 (cx_p t) rfl) (fun x76 => ?_)
                refine rl_chk (fun h => h) (fun k7 => ?_)
                refine rl_ltA (fun x77 => ?_)
                refine rl_ltA (fun x78 => ?_)
                refine rl_ltA (fun x79 => ?_)
                refine rl_rd (cx_q (j := 0) (k := 1) ty72 (cx_p t) rfl) (fun x80 => ?_)
                refine rl_chk (fun h => h) (fun k8 => ?_)
                refine rl_ltA (fun x81 => ?_)
                refine rl_ltA (fun x82 => ?_)
                refine rl_ltA (fun x83 => ?_)
                refine rl_ltI (av_mul tn_4 i4 (by omega) (by omega)) (fun x84 ix84 => ?_)
                refine rl_bnd (Q := fun (y z : Int32) => y = z) ?_ ?_
                · refine rl_if (fun c9 => ?_) (fun c9 => ?_)
                  · have dc9 := tl_eq i3 tn_0 c9
                    exfalso
                    omega
                  · have dc9 := tl_ne i3 tn_0 c9
                    exact rl_some rfl
                · rintro y85 y85r ey85
                  obtain rfl : y85 = y85r := ey85
                  refine rl_ltA (fun x86 => ?_)
                  refine rl_ltA (fun x87 => ?_)
                  refine rl_bnd (Q := fun (y z : Int32) => y = z) ?_ ?_
                  · refine rl_if (fun c10 => ?_) (fun c10 => ?_)
                    · have dc10 := tl_eq i3 tn_0 c10
                      exfalso
                      omega
                    · have dc10 := tl_ne i3 tn_0 c10
                      exact rl_some rfl
                  · rintro y88 y88r ey88
                    obtain rfl : y88 = y88r := ey88
                    refine rl_bnd (Q := fun (y z : Int32) => y = z ∧ (1 ≤ y.toInt ∧ y.toInt ≤ 1)) ?_ ?_
                    · refine rl_if (fun c11 => ?_) (fun c11 => ?_)
                      · have dc11 := tl_eq i3 tn_0 c11
                        exfalso
                        omega
                      · have dc11 := tl_ne i3 tn_0 c11
                        exact rl_some ⟨rfl, (ti_bd tn_1 (by omega) (by omega))⟩
                    · rintro y89 y89r ⟨ey89, ly89⟩
                      obtain rfl : y89 = y89r := ey89
                      have ly89 : 1 ≤ y89.toInt ∧ y89.toInt ≤ 1 := ly89
                      have iy89 : TI y89 (1) := ti_c ly89
                      have ky3 : y3.toInt = _ := iy3
                      refine rl_bnd (Q := fun (y z : Int32 × DD) => y.1 = z.1 ∧ (0 ≤ y.1.toInt ∧ y.1.toInt ≤ y3.toInt) ∧ Up mu 144 y72 y72r y.2 z.2) (rl_itr (fun (y z : Int32 × DD) => y.1 = z.1 ∧ (0 ≤ y.1.toInt ∧ y.1.toInt ≤ y3.toInt) ∧ Up mu 144 y72 y72r y.2 z.2) _ ?_ _ _ _ ?_) ?_
                      · rintro ⟨s91_1, s91_2⟩ ⟨s91_1r, s91_2r⟩ ⟨es91_1, ls91_1, us91_2⟩
                        obtain rfl : s91_1 = s91_1r := es91_1
                        have ls91_1 : 0 ≤ s91_1.toInt ∧ s91_1.toInt ≤ y3.toInt := ls91_1
                        have is91_1 : TI s91_1 s91_1.toInt := rfl
                        have us91_2 : Up mu 144 y72 y72r s91_2 s91_2r := us91_2
                        have ts91_2 := cx_up ty72 us91_2
                        have wS_s91_2 := wg_up us91_2 wS_y72
                        have wP148_2_s91_2 := ag_up us91_2 vP148_2_y72
                        have wP148_3_s91_2 := ag_up us91_2 vP148_3_y72
                        have wP148_4_s91_2 := ag_up us91_2 vP148_4_y72
                        refine rl_if (fun c12 => ?_) (fun c12 => ?_)
                        · have dc12 := tl_le iy3 is91_1 c12
                          exact rl_inr ⟨rfl, (ti_bd is91_1 (by omega) (by omega)), us91_2⟩
                        · have dc12 := tl_nle iy3 is91_1 c12
                          refine rl_bnd (Q := fun (y z : Int32) => y = z ∧ (0 ≤ y.toInt ∧ y.toInt ≤ 14)) ?_ ?_
                          · refine rl_if (fun c13 => ?_) (fun c13 => ?_)
                            · have dc13 := tl_eq i2 tn_0 c13
                              exfalso
                              omega
                            · have dc13 := tl_ne i2 tn_0 c13
                              refine rl_ltI (av_mul tn_2 is91_1 (by omega) (by omega)) (fun x132 ix132 => ?_)
                              exact rl_some ⟨rfl, (ti_bd ix132 (by omega) (by omega))⟩
                          · rintro y95 y95r ⟨ey95, ly95⟩
                            obtain rfl : y95 = y95r := ey95
                            have ly95 : 0 ≤ y95.toInt ∧ y95.toInt ≤ 14 := ly95
                            have iy95 : TI y95 y95.toInt := rfl
                            refine rl_bnd (Q := fun (y z : Int32) => y = z ∧ (0 ≤ y.toInt ∧ y.toInt ≤ 0)) ?_ ?_
                            · refine rl_if (fun c14 => ?_) (fun c14 => ?_)
                              · have dc14 := tl_eq i2 tn_0 c14
                                exfalso
                                omega
                              · have dc14 := tl_ne i2 tn_0 c14
                                refine rl_ltI (av_mul tn_8 i4 (by omega) (by omega)) (fun x129 ix129 => ?_)
                                exact rl_some ⟨rfl, (ti_bd ix129 (by omega) (by omega))⟩
                            · rintro y96 y96r ⟨ey96, ly96⟩
                              obtain rfl : y96 = y96r := ey96
                              have ly96 : 0 ≤ y96.toInt ∧ y96.toInt ≤ 0 := ly96
                              have iy96 : TI y96 (0) := ti_c ly96
                              refine rl_bnd (Q := fun (y z : Int32) => y = z ∧ (0 ≤ y.toInt ∧ y.toInt ≤ 14)) ?_ ?_
                              · refine rl_if (fun c15 => ?_) (fun c15 => ?_)
                                · have dc15 := tl_eq i3 tn_0 c15
                                  exfalso
                                  omega
                                · have dc15 := tl_ne i3 tn_0 c15
                                  exact rl_some ⟨rfl, (ti_bd iy95 (by omega) (by omega))⟩
                              · rintro y97 y97r ⟨ey97, ly97⟩
                                obtain rfl : y97 = y97r := ey97
                                have ly97 : 0 ≤ y97.toInt ∧ y97.toInt ≤ 14 := ly97
                                have iy97 : TI y97 y97.toInt := rfl
                                refine rl_bnd (Q := fun (y z : Int32) => y = z ∧ (0 ≤ y.toInt ∧ y.toInt ≤ 0)) ?_ ?_
                                · refine rl_if (fun c16 => ?_) (fun c16 => ?_)
                                  · have dc16 := tl_eq i3 tn_0 c16
                                    exfalso
                                    omega
                                  · have dc16 := tl_ne i3 tn_0 c16
                                    exact rl_some ⟨rfl, (ti_bd iy96 (by omega) (by omega))⟩
                                · rintro y98 y98r ⟨ey98, ly98⟩
                                  obtain rfl : y98 = y98r := ey98
                                  have ly98 : 0 ≤ y98.toInt ∧ y98.toInt ≤ 0 := ly98
                                  have iy98 : TI y98 (0) := ti_c ly98
                                  refine rl_ltI (av_sar 3 iy98 (by decide)) (fun x99 ix99 => ?_)
                                  refine rl_ltI (av_mul ix99 tn_8 (by omega) (by omega)) (fun x100 ix100 => ?_)
                                  refine rl_ltI (av_sar 3 iy97 (by decide)) (fun x101 ix101 => ?_)
                                  refine rl_ltI (av_mul ix101 tn_4 (by omega) (by omega)) (fun x102 ix102 => ?_)
                                  refine rl_ltI (av_add ix100 ix102 (by omega) (by omega)) (fun x103 ix103 => ?_)
                                  refine rl_ltI (av_sar 2 iy98 (by decide)) (fun x104 ix104 => ?_)
                                  refine rl_ltI (av_and 1 ix104 (by decide) (by decide)) (fun x105 ix105 => ?_)
                                  refine rl_ltI (av_mul ix105 tn_2 (by omega) (by omega)) (fun x106 ix106 => ?_)
                                  refine rl_ltI (av_add ix103 ix106 (by omega) (by omega)) (fun x107 ix107 => ?_)
                                  refine rl_ltI (av_sar 2 iy97 (by decide)) (fun x108 ix108 => ?_)
                                  refine rl_ltI (av_and 1 ix108 (by decide) (by decide)) (fun x109 ix109 => ?_)
                                  refine rl_ltI (av_add ix107 ix109 (by omega) (by omega)) (fun x110 ix110 => ?_)
                                  refine rl_ltI (av_mul tn_16 i1 (by omega) (by omega)) (fun x111 ix111 => ?_)
                                  refine rl_ltI (av_add ix111 ix110 (by omega) (by omega)) (fun x112 ix112 => ?_)
                                  refine rl_ltI (av_mul tn_2 ix112 (by omega) (by omega)) (fun x113 ix113 => ?_)
                                  refine rl_ltI (av_add ix113 i3 (by omega) (by omega)) (fun x114 ix114 => ?_)
                                  refine rl_dr (cx_U ts91_2) (rx_c (a := 148) (k := 0) (b := 149) ts91_2 (Or.inr (Or.inr (Or.inl rfl))) rfl (by decide)) (fun gb115 => ?_)
                                  refine rl_chk (chkl (cx_U ts91_2) gb115) (fun k17 => ?_)
                                  refine rl_rd (wg_id wS_s91_2 ix114 (by omega) (by omega)) (fun x116 => ?_)
                                  refine rl_bnd (Q := fun (y z : DD) => Up mu 144 s91_2 s91_2r y z) ?_ ?_
                                  · refine rl_if (fun c18 => ?_) (fun c18 => ?_)
                                    · have dc18 := tl_le (rfl : TI x116 x116.toInt) tn_0 c18
                                      exact rl_some (up_0 mu (κ := 144) _ _)
                                    · have dc18 := tl_nle (rfl : TI x116 x116.toInt) tn_0 c18
                                      refine rl_dr (cx_U ts91_2) (rx_4 ts91_2 (cx_p t)) (fun gb120 => ?_)
                                      refine rl_chk (chkl (cx_U ts91_2) gb120) (fun k19 => ?_)
                                      refine rl_ltI (av_mul is91_1 iy89 (by omega) (by omega)) (fun x121 ix121 => ?_)
                                      refine rl_ltA (fun x122 => ?_)
                                      refine rl_bnd (Q := fun (y z : Int32) => y = z ∧ (0 ≤ y.toInt ∧ y.toInt ≤ 0)) ?_ ?_
                                      · refine rl_if (fun c20 => ?_) (fun c20 => ?_)
                                        · have dc20 := tl_eq i2 tn_0 c20
                                          exfalso
                                          omega
                                        · have dc20 := tl_ne i2 tn_0 c20
                                          exact rl_some ⟨rfl, (ti_bd tn_0 (by omega) (by omega))⟩
                                      · rintro y123 y123r ⟨ey123, ly123⟩
                                        obtain rfl : y123 = y123r := ey123
                                        have ly123 : 0 ≤ y123.toInt ∧ y123.toInt ≤ 0 := ly123
                                        have iy123 : TI y123 (0) := ti_c ly123
                                        obtain ⟨j21, hj21, ej21⟩ := rx_dv ts91_2 (cx_p t) i2 (by omega) (by omega)
                                        refine rl_bnd (r_filterLine ts91_2 ej21 (cx_p t) hj21 wP148_2_s91_2 wP148_3_s91_2 wP148_4_s91_2) ?_
                                        rintro y124 y124r uy124'
                                        have uy124 : Up mu 144 s91_2 s91_2r y124 y124r := uy124'
                                        have ty124 := cx_up ts91_2 uy124
                                        have wS_y124 := wg_up uy124 wS_s91_2
                                        have wP148_2_y124 := ag_up uy124 wP148_2_s91_2
                                        have wP148_3_y124 := ag_up uy124 wP148_3_s91_2
                                        have wP148_4_y124 := ag_up uy124 wP148_4_s91_2
                                        exact rl_some uy124
                                  · rintro y117 y117r uy117
                                    have uy117 : Up mu 144 s91_2 s91_2r y117 y117r := uy117
                                    have ty117 := cx_up ts91_2 uy117
                                    have wS_y117 := wg_up uy117 wS_s91_2
                                    have wP148_2_y117 := ag_up uy117 wP148_2_s91_2
                                    have wP148_3_y117 := ag_up uy117 wP148_3_s91_2
                                    have wP148_4_y117 := ag_up uy117 wP148_4_s91_2
                                    refine rl_ltI (av_add is91_1 tn_1 (by omega) (by omega)) (fun x118 ix118 => ?_)
                                    exact rl_inl ⟨rfl, (ti_bd ix118 (by omega) (by omega)), (up_tr us91_2 uy117)⟩
                      · exact ⟨rfl, (ti_bd tn_0 (by omega) (by omega)), (up_0 mu (κ := 144) _ _)⟩
                      · rintro ⟨y90_1, y90_2⟩ ⟨y90_1r, y90_2r⟩ ⟨ey90_1, ly90_1, uy90_2⟩
                        obtain rfl : y90_1 = y90_1r := ey90_1
                        have ly90_1 : 0 ≤ y90_1.toInt ∧ y90_1.toInt ≤ y3.toInt := ly90_1
                        have iy90_1 : TI y90_1 y90_1.toInt := rfl
                        have uy90_2 : Up mu 144 y72 y72r y90_2 y90_2r := uy90_2
                        have ty90_2 := cx_up ty72 uy90_2
                        have wS_y90_2 := wg_up uy90_2 wS_y72
                        have wP148_2_y90_2 := ag_up uy90_2 vP148_2_y72
                        have wP148_3_y90_2 := ag_up uy90_2 vP148_3_y72
                        have wP148_4_y90_2 := ag_up uy90_2 vP148_4_y72
                        exact rl_some (up_tr uy72 uy90_2)
              · have dc6 := tl_nle tn_0 (rfl : TI y4 y4.toInt) c6
                exact rl_some (up_0 mu (κ := 144) _ _)
          · have dc4 := tl_ne i4 tn_0 c4
            refine rl_bnd (r_setThresholds t ⟨rfl, rfl⟩) ?_
            rintro y6 y6r ⟨uy6', vP148_2_y6, vP148_3_y6, vP148_4_y6⟩
            have uy6 : Up mu 144 M N y6 y6r := uy6'
            have ty6 := cx_up t uy6
            have wS_y6 := wg_up uy6 hS
            refine rl_dr (cx_U ty6) (rx_p t) (fun gb7 => ?_)
            refine rl_rd (cx_q (j := 0) (k := 1) ty6 (cx_p t) rfl) (fun x8 => ?_)
            refine rl_ltA (fun x9 => ?_)
            refine rl_rd (cx_q (j := 0) (k := 1) ty6 (cx_p t) rfl) (fun x10 => ?_)
            refine rl_chk (fun h => h) (fun k22 => ?_)
            refine rl_ltA (fun x11 => ?_)
            refine rl_ltA (fun x12 => ?_)
            refine rl_ltA (fun x13 => ?_)
            refine rl_rd (cx_q (j := 0) (k := 1) ty6 (cx_p t) rfl) (fun x14 => ?_)
            refine rl_chk (fun h => h) (fun k23 => ?_)
            refine rl_ltA (fun x15 => ?_)
            refine rl_ltA (fun x16 => ?_)
            refine rl_ltA (fun x17 => ?_)
            refine rl_ltI (av_mul tn_4 i4 (by omega) (by omega)) (fun x18 ix18 => ?_)
            refine rl_bnd (Q := fun (y z : Int32) => y = z) ?_ ?_
            · refine rl_if (fun c24 => ?_) (fun c24 => ?_)
              · have dc24 := tl_eq i3 tn_0 c24
                exfalso
                omega
              · have dc24 := tl_ne i3 tn_0 c24
                exact rl_some rfl
            · rintro y19 y19r ey19
              obtain rfl : y19 = y19r := ey19
              refine rl_ltA (fun x20 => ?_)
              refine rl_ltA (fun x21 => ?_)
              refine rl_bnd (Q := fun (y z : Int32) => y = z) ?_ ?_
              · refine rl_if (fun c25 => ?_) (fun c25 => ?_)
                · have dc25 := tl_eq i3 tn_0 c25
                  exfalso
                  omega
                · have dc25 := tl_ne i3 tn_0 c25
                  exact rl_some rfl
              · rintro y22 y22r ey22
                obtain rfl : y22 = y22r := ey22
                refine rl_bnd (Q := fun (y z : Int32) => y = z ∧ (1 ≤ y.toInt ∧ y.toInt ≤ 1)) ?_ ?_
                · refine rl_if (fun c26 => ?_) (fun c26 => ?_)
                  · have dc26 := tl_eq i3 tn_0 c26
                    exfalso
                    omega
                  · have dc26 := tl_ne i3 tn_0 c26
                    exact rl_some ⟨rfl, (ti_bd tn_1 (by omega) (by omega))⟩
                · rintro y23 y23r ⟨ey23, ly23⟩
                  obtain rfl : y23 = y23r := ey23
                  have ly23 : 1 ≤ y23.toInt ∧ y23.toInt ≤ 1 := ly23
                  have iy23 : TI y23 (1) := ti_c ly23
                  have ky3 : y3.toInt = _ := iy3
                  refine rl_bnd (Q := fun (y z : Int32 × DD) => y.1 = z.1 ∧ (0 ≤ y.1.toInt ∧ y.1.toInt ≤ y3.toInt) ∧ Up mu 144 y6 y6r y.2 z.2) (rl_itr (fun (y z : Int32 × DD) => y.1 = z.1 ∧ (0 ≤ y.1.toInt ∧ y.1.toInt ≤ y3.toInt) ∧ Up mu 144 y6 y6r y.2 z.2) _ ?_ _ _ _ ?_) ?_
                  · rintro ⟨s25_1, s25_2⟩ ⟨s25_1r, s25_2r⟩ ⟨es25_1, ls25_1, us25_2⟩
                    obtain rfl : s25_1 = s25_1r := es25_1
                    have ls25_1 : 0 ≤ s25_1.toInt ∧ s25_1.toInt ≤ y3.toInt := ls25_1
                    have is25_1 : TI s25_1 s25_1.toInt := rfl
                    have us25_2 : Up mu 144 y6 y6r s25_2 s25_2r := us25_2
                    have ts25_2 := cx_up ty6 us25_2
                    have wS_s25_2 := wg_up us25_2 wS_y6
                    have wP148_2_s25_2 := ag_up us25_2 vP148_2_y6
                    have wP148_3_s25_2 := ag_up us25_2 vP148_3_y6
                    have wP148_4_s25_2 := ag_up us25_2 vP148_4_y6
                    refine rl_if (fun c27 => ?_) (fun c27 => ?_)
                    · have dc27 := tl_le iy3 is25_1 c27
                      exact rl_inr ⟨rfl, (ti_bd is25_1 (by omega) (by omega)), us25_2⟩
                    · have dc27 := tl_nle iy3 is25_1 c27
                      refine rl_bnd (Q := fun (y z : Int32) => y = z ∧ (0 ≤ y.toInt ∧ y.toInt ≤ 14)) ?_ ?_
                      · refine rl_if (fun c28 => ?_) (fun c28 => ?_)
                        · have dc28 := tl_eq i2 tn_0 c28
                          exfalso
                          omega
                        · have dc28 := tl_ne i2 tn_0 c28
                          refine rl_ltI (av_mul tn_2 is25_1 (by omega) (by omega)) (fun x66 ix66 => ?_)
                          exact rl_some ⟨rfl, (ti_bd ix66 (by omega) (by omega))⟩
                      · rintro y29 y29r ⟨ey29, ly29⟩
                        obtain rfl : y29 = y29r := ey29
                        have ly29 : 0 ≤ y29.toInt ∧ y29.toInt ≤ 14 := ly29
                        have iy29 : TI y29 y29.toInt := rfl
                        refine rl_bnd (Q := fun (y z : Int32) => y = z ∧ (8 ≤ y.toInt ∧ y.toInt ≤ 8)) ?_ ?_
                        · refine rl_if (fun c29 => ?_) (fun c29 => ?_)
                          · have dc29 := tl_eq i2 tn_0 c29
                            exfalso
                            omega
                          · have dc29 := tl_ne i2 tn_0 c29
                            refine rl_ltI (av_mul tn_8 i4 (by omega) (by omega)) (fun x63 ix63 => ?_)
                            exact rl_some ⟨rfl, (ti_bd ix63 (by omega) (by omega))⟩
                        · rintro y30 y30r ⟨ey30, ly30⟩
                          obtain rfl : y30 = y30r := ey30
                          have ly30 : 8 ≤ y30.toInt ∧ y30.toInt ≤ 8 := ly30
                          have iy30 : TI y30 (8) := ti_c ly30
                          refine rl_bnd (Q := fun (y z : Int32) => y = z ∧ (0 ≤ y.toInt ∧ y.toInt ≤ 14)) ?_ ?_
                          · refine rl_if (fun c30 => ?_) (fun c30 => ?_)
                            · have dc30 := tl_eq i3 tn_0 c30
                              exfalso
                              omega
                            · have dc30 := tl_ne i3 tn_0 c30
                              exact rl_some ⟨rfl, (ti_bd iy29 (by omega) (by omega))⟩
                          · rintro y31 y31r ⟨ey31, ly31⟩
                            obtain rfl : y31 = y31r := ey31
                            have ly31 : 0 ≤ y31.toInt ∧ y31.toInt ≤ 14 := ly31
                            have iy31 : TI y31 y31.toInt := rfl
                            refine rl_bnd (Q := fun (y z : Int32) => y = z ∧ (8 ≤ y.toInt ∧ y.toInt ≤ 8)) ?_ ?_
                            · refine rl_if (fun c31 => ?_) (fun c31 => ?_)
                              · have dc31 := tl_eq i3 tn_0 c31
                                exfalso
                                omega
                              · have dc31 := tl_ne i3 tn_0 c31
                                exact rl_some ⟨rfl, (ti_bd iy30 (by omega) (by omega))⟩
                            · rintro y32 y32r ⟨ey32, ly32⟩
                              obtain rfl : y32 = y32r := ey32
                              have ly32 : 8 ≤ y32.toInt ∧ y32.toInt ≤ 8 := ly32
                              have iy32 : TI y32 (8) := ti_c ly32
                              refine rl_ltI (av_sar 3 iy32 (by decide)) (fun x33 ix33 => ?_)
                              refine rl_ltI (av_mul ix33 tn_8 (by omega) (by omega)) (fun x34 ix34 => ?_)
                              refine rl_ltI (av_sar 3 iy31 (by decide)) (fun x35 ix35 => ?_)
                              refine rl_ltI (av_mul ix35 tn_4 (by omega) (by omega)) (fun x36 ix36 => ?_)
                              refine rl_ltI (av_add ix34 ix36 (by omega) (by omega)) (fun x37 ix37 => ?_)
                              refine rl_ltI (av_sar 2 iy32 (by decide)) (fun x38 ix38 => ?_)
                              refine rl_ltI (av_and 1 ix38 (by decide) (by decide)) (fun x39 ix39 => ?_)
                              refine rl_ltI (av_mul ix39 tn_2 (by omega) (by omega)) (fun x40 ix40 => ?_)
                              refine rl_ltI (av_add ix37 ix40 (by omega) (by omega)) (fun x41 ix41 => ?_)
                              refine rl_ltI (av_sar 2 iy31 (by decide)) (fun x42 ix42 => ?_)
                              refine rl_ltI (av_and 1 ix42 (by decide) (by decide)) (fun x43 ix43 => ?_)
                              refine rl_ltI (av_add ix41 ix43 (by omega) (by omega)) (fun x44 ix44 => ?_)
                              refine rl_ltI (av_mul tn_16 i1 (by omega) (by omega)) (fun x45 ix45 => ?_)
                              refine rl_ltI (av_add ix45 ix44 (by omega) (by omega)) (fun x46 ix46 => ?_)
                              refine rl_ltI (av_mul tn_2 ix46 (by omega) (by omega)) (fun x47 ix47 => ?_)
                              refine rl_ltI (av_add ix47 i3 (by omega) (by omega)) (fun x48 ix48 => ?_)
                              refine rl_dr (cx_U ts25_2) (rx_c (a := 148) (k := 0) (b := 149) ts25_2 (Or.inr (Or.inr (Or.inl rfl))) rfl (by decide)) (fun gb49 => ?_)
                              refine rl_chk (chkl (cx_U ts25_2) gb49) (fun k32 => ?_)
                              refine rl_rd (wg_id wS_s25_2 ix48 (by omega) (by omega)) (fun x50 => ?_)
                              refine rl_bnd (Q := fun (y z : DD) => Up mu 144 s25_2 s25_2r y z) ?_ ?_
                              · refine rl_if (fun c33 => ?_) (fun c33 => ?_)
                                · have dc33 := tl_le (rfl : TI x50 x50.toInt) tn_0 c33
                                  exact rl_some (up_0 mu (κ := 144) _ _)
                                · have dc33 := tl_nle (rfl : TI x50 x50.toInt) tn_0 c33
                                  refine rl_dr (cx_U ts25_2) (rx_4 ts25_2 (cx_p t)) (fun gb54 => ?_)
                                  refine rl_chk (chkl (cx_U ts25_2) gb54) (fun k34 => ?_)
                                  refine rl_ltI (av_mul is25_1 iy23 (by omega) (by omega)) (fun x55 ix55 => ?_)
                                  refine rl_ltA (fun x56 => ?_)
                                  refine rl_bnd (Q := fun (y z : Int32) => y = z ∧ (0 ≤ y.toInt ∧ y.toInt ≤ 0)) ?_ ?_
                                  · refine rl_if (fun c35 => ?_) (fun c35 => ?_)
                                    · have dc35 := tl_eq i2 tn_0 c35
                                      exfalso
                                      omega
                                    · have dc35 := tl_ne i2 tn_0 c35
                                      exact rl_some ⟨rfl, (ti_bd tn_0 (by omega) (by omega))⟩
                                  · rintro y57 y57r ⟨ey57, ly57⟩
                                    obtain rfl : y57 = y57r := ey57
                                    have ly57 : 0 ≤ y57.toInt ∧ y57.toInt ≤ 0 := ly57
                                    have iy57 : TI y57 (0) := ti_c ly57
                                    obtain ⟨j36, hj36, ej36⟩ := rx_dv ts25_2 (cx_p t) i2 (by omega) (by omega)
                                    refine rl_bnd (r_filterLine ts25_2 ej36 (cx_p t) hj36 wP148_2_s25_2 wP148_3_s25_2 wP148_4_s25_2) ?_
                                    rintro y58 y58r uy58'
                                    have uy58 : Up mu 144 s25_2 s25_2r y58 y58r := uy58'
                                    have ty58 := cx_up ts25_2 uy58
                                    have wS_y58 := wg_up uy58 wS_s25_2
                                    have wP148_2_y58 := ag_up uy58 wP148_2_s25_2
                                    have wP148_3_y58 := ag_up uy58 wP148_3_s25_2
                                    have wP148_4_y58 := ag_up uy58 wP148_4_s25_2
                                    exact rl_some uy58
                              · rintro y51 y51r uy51
                                have uy51 : Up mu 144 s25_2 s25_2r y51 y51r := uy51
                                have ty51 := cx_up ts25_2 uy51
                                have wS_y51 := wg_up uy51 wS_s25_2
                                have wP148_2_y51 := ag_up uy51 wP148_2_s25_2
                                have wP148_3_y51 := ag_up uy51 wP148_3_s25_2
                                have wP148_4_y51 := ag_up uy51 wP148_4_s25_2
                                refine rl_ltI (av_add is25_1 tn_1 (by omega) (by omega)) (fun x52 ix52 => ?_)
                                exact rl_inl ⟨rfl, (ti_bd ix52 (by omega) (by omega)), (up_tr us25_2 uy51)⟩
                  · exact ⟨rfl, (ti_bd tn_0 (by omega) (by omega)), (up_0 mu (κ := 144) _ _)⟩
                  · rintro ⟨y24_1, y24_2⟩ ⟨y24_1r, y24_2r⟩ ⟨ey24_1, ly24_1, uy24_2⟩
                    obtain rfl : y24_1 = y24_1r := ey24_1
                    have ly24_1 : 0 ≤ y24_1.toInt ∧ y24_1.toInt ≤ y3.toInt := ly24_1
                    have iy24_1 : TI y24_1 y24_1.toInt := rfl
                    have uy24_2 : Up mu 144 y6 y6r y24_2 y24_2r := uy24_2
                    have ty24_2 := cx_up ty6 uy24_2
                    have wS_y24_2 := wg_up uy24_2 wS_y6
                    have wP148_2_y24_2 := ag_up uy24_2 vP148_2_y6
                    have wP148_3_y24_2 := ag_up uy24_2 vP148_3_y6
                    have wP148_4_y24_2 := ag_up uy24_2 vP148_4_y6
                    exact rl_some (up_tr uy6 uy24_2)
  · rcases h3 with rfl | rfl
    · refine rl_dr (cx_U t) ⟨rfl, rfl⟩ (fun gb2 => ?_)
      refine rl_bnd (Q := fun (y z : Int32) => y = z ∧ (8 ≤ y.toInt ∧ y.toInt ≤ 8)) ?_ ?_
      · refine rl_if (fun c1 => ?_) (fun c1 => ?_)
        · have dc1 := tl_eq i2 tn_0 c1
          exfalso
          omega
        · have dc1 := tl_ne i2 tn_0 c1
          exact rl_some ⟨rfl, (ti_bd tn_8 (by omega) (by omega))⟩
      · rintro y3 y3r ⟨ey3, ly3⟩
        obtain rfl : y3 = y3r := ey3
        have ly3 : 8 ≤ y3.toInt ∧ y3.toInt ≤ 8 := ly3
        have iy3 : TI y3 (8) := ti_c ly3
        refine rl_bnd (Q := fun (y z : Int32) => y = z ∧ (-1 ≤ y.toInt ∧ y.toInt ≤ 31)) ?_ ?_
        · refine rl_if (fun c2 => ?_) (fun c2 => ?_)
          · have dc2 := tl_le i4 tn_0 c2
            refine rl_bnd (Q := fun (y z : Int32) => y = z ∧ (-1 ≤ y.toInt ∧ y.toInt ≤ 30)) ?_ ?_
            · refine rl_if (fun c3 => ?_) (fun c3 => ?_)
              · have dc3 := tl_eq i3 tn_0 c3
                refine rl_ltI (av_sub i1 tn_1 (by omega) (by omega)) (fun x209 ix209 => ?_)
                exact rl_some ⟨rfl, (ti_bd ix209 (by omega) (by omega))⟩
              · have dc3 := tl_ne i3 tn_0 c3
                exfalso
                omega
            · rintro y204 y204r ⟨ey204, ly204⟩
              obtain rfl : y204 = y204r := ey204
              have ly204 : -1 ≤ y204.toInt ∧ y204.toInt ≤ 30 := ly204
              have iy204 : TI y204 y204.toInt := rfl
              exact rl_some ⟨rfl, (ti_bd iy204 (by omega) (by omega))⟩
          · have dc2 := tl_nle i4 tn_0 c2
            exact rl_some ⟨rfl, (ti_bd i1 (by omega) (by omega))⟩
        · rintro y4 y4r ⟨ey4, ly4⟩
          obtain rfl : y4 = y4r := ey4
          have ly4 : -1 ≤ y4.toInt ∧ y4.toInt ≤ 31 := ly4
          have iy4 : TI y4 y4.toInt := rfl
          refine rl_if (fun c4 => ?_) (fun c4 => ?_)
          · have dc4 := tl_eq i4 tn_0 c4
            refine rl_if (fun c5 => ?_) (fun c5 => ?_)
            · have dc5 := tl_eq i3 tn_0 c5
              refine rl_dr (cx_U t) (rx_p t) (fun gb136 => ?_)
              refine rl_rd (cx_q (j := 0) (k := 1) t (cx_p t) rfl) (fun x137 => ?_)
              refine rl_chk (fun h => h) (fun k6 => ?_)
              refine rl_ltA (fun x138 => ?_)
              refine rl_if (fun c7 => ?_) (fun c7 => ?_)
              · have dc7 := tl_eq (rfl : TI x138 x138.toInt) tn_0 c7
                exact rl_some (up_0 mu (κ := 144) _ _)
              · have dc7 := tl_ne (rfl : TI x138 x138.toInt) tn_0 c7
                refine rl_bnd (r_setThresholds t ⟨rfl, rfl⟩) ?_
                rintro y140 y140r ⟨uy140', vP148_2_y140, vP148_3_y140, vP148_4_y140⟩
                have uy140 : Up mu 144 M N y140 y140r := uy140'
                have ty140 := cx_up t uy140
                have wS_y140 := wg_up uy140 hS
                refine rl_rd (cx_q (j := 0) (k := 1) ty140 (cx_p t) rfl) (fun x141 => ?_)
                refine rl_ltA (fun x142 => ?_)
                refine rl_rd (cx_q (j := 0) (k := 1) ty140 (cx_p t) rfl) (fun x143 => ?_)
                refine rl_chk (fun h => h) (fun k8 => ?_)
                refine rl_ltA (fun x144 => ?_)
                refine rl_ltA (fun x145 => ?_)
                refine rl_ltA (fun x146 => ?_)
                refine rl_rd (cx_q (j := 0) (k := 1) ty140 (cx_p t) rfl) (fun x147 => ?_)
                refine rl_chk (fun h => h) (fun k9 => ?_)
                refine rl_ltA (fun x148 => ?_)
                refine rl_ltA (fun x149 => ?_)
                refine rl_ltA (fun x150 => ?_)
                refine rl_ltI (av_mul tn_4 i4 (by omega) (by omega)) (fun x151 ix151 => ?_)
                refine rl_bnd (Q := fun (y z : Int32) => y = z ∧ (1 ≤ y.toInt ∧ y.toInt ≤ 1)) ?_ ?_
                · refine rl_if (fun c10 => ?_) (fun c10 => ?_)
                  · have dc10 := tl_eq i3 tn_0 c10
                    exact rl_some ⟨rfl, (ti_bd tn_1 (by omega) (by omega))⟩
                  · have dc10 := tl_ne i3 tn_0 c10
                    exfalso
                    omega
                · rintro y152 y152r ⟨ey152, ly152⟩
                  obtain rfl : y152 = y152r := ey152
                  have ly152 : 1 ≤ y152.toInt ∧ y152.toInt ≤ 1 := ly152
                  have iy152 : TI y152 (1) := ti_c ly152
                  refine rl_ltI (av_mul ix151 iy152 (by omega) (by omega)) (fun x153 ix153 => ?_)
                  refine rl_ltA (fun x154 => ?_)
                  refine rl_bnd (Q := fun (y z : Int32) => y = z ∧ (1 ≤ y.toInt ∧ y.toInt ≤ 1)) ?_ ?_
                  · refine rl_if (fun c11 => ?_) (fun c11 => ?_)
                    · have dc11 := tl_eq i3 tn_0 c11
                      exact rl_some ⟨rfl, (ti_bd tn_1 (by omega) (by omega))⟩
                    · have dc11 := tl_ne i3 tn_0 c11
                      exfalso
                      omega
                  · rintro y155 y155r ⟨ey155, ly155⟩
                    obtain rfl : y155 = y155r := ey155
                    have ly155 : 1 ≤ y155.toInt ∧ y155.toInt ≤ 1 := ly155
                    have iy155 : TI y155 (1) := ti_c ly155
                    refine rl_bnd (Q := fun (y z : Int32) => y = z) ?_ ?_
                    · refine rl_if (fun c12 => ?_) (fun c12 => ?_)
                      · have dc12 := tl_eq i3 tn_0 c12
                        exact rl_some rfl
                      · have dc12 := tl_ne i3 tn_0 c12
                        exfalso
                        omega
                    · rintro y156 y156r ey156
                      obtain rfl : y156 = y156r := ey156
                      have ky3 : y3.toInt = _ := iy3
                      refine rl_bnd (Q := fun (y z : Int32 × DD) => y.1 = z.1 ∧ (0 ≤ y.1.toInt ∧ y.1.toInt ≤ y3.toInt) ∧ Up mu 144 y140 y140r y.2 z.2) (rl_itr (fun (y z : Int32 × DD) => y.1 = z.1 ∧ (0 ≤ y.1.toInt ∧ y.1.toInt ≤ y3.toInt) ∧ Up mu 144 y140 y140r y.2 z.2) _ ?_ _ _ _ ?_) ?_
                      · rintro ⟨s158_1, s158_2⟩ ⟨s158_1r, s158_2r⟩ ⟨es158_1, ls158_1, us158_2⟩
                        obtain rfl : s158_1 = s158_1r := es158_1
                        have ls158_1 : 0 ≤ s158_1.toInt ∧ s158_1.toInt ≤ y3.toInt := ls158_1
                        have is158_1 : TI s158_1 s158_1.toInt := rfl
                        have us158_2 : Up mu 144 y140 y140r s158_2 s158_2r := us158_2
                        have ts158_2 := cx_up ty140 us158_2
                        have wS_s158_2 := wg_up us158_2 wS_y140
                        have wP148_2_s158_2 := ag_up us158_2 vP148_2_y140
                        have wP148_3_s158_2 := ag_up us158_2 vP148_3_y140
                        have wP148_4_s158_2 := ag_up us158_2 vP148_4_y140
                        refine rl_if (fun c13 => ?_) (fun c13 => ?_)
                        · have dc13 := tl_le iy3 is158_1 c13
                          exact rl_inr ⟨rfl, (ti_bd is158_1 (by omega) (by omega)), us158_2⟩
                        · have dc13 := tl_nle iy3 is158_1 c13
                          refine rl_bnd (Q := fun (y z : Int32) => y = z ∧ (0 ≤ y.toInt ∧ y.toInt ≤ 14)) ?_ ?_
                          · refine rl_if (fun c14 => ?_) (fun c14 => ?_)
                            · have dc14 := tl_eq i2 tn_0 c14
                              exfalso
                              omega
                            · have dc14 := tl_ne i2 tn_0 c14
                              refine rl_ltI (av_mul tn_2 is158_1 (by omega) (by omega)) (fun x199 ix199 => ?_)
                              exact rl_some ⟨rfl, (ti_bd ix199 (by omega) (by omega))⟩
                          · rintro y162 y162r ⟨ey162, ly162⟩
                            obtain rfl : y162 = y162r := ey162
                            have ly162 : 0 ≤ y162.toInt ∧ y162.toInt ≤ 14 := ly162
                            have iy162 : TI y162 y162.toInt := rfl
                            refine rl_bnd (Q := fun (y z : Int32) => y = z ∧ (0 ≤ y.toInt ∧ y.toInt ≤ 0)) ?_ ?_
                            · refine rl_if (fun c15 => ?_) (fun c15 => ?_)
                              · have dc15 := tl_eq i2 tn_0 c15
                                exfalso
                                omega
                              · have dc15 := tl_ne i2 tn_0 c15
                                refine rl_ltI (av_mul tn_8 i4 (by omega) (by omega)) (fun x196 ix196 => ?_)
                                exact rl_some ⟨rfl, (ti_bd ix196 (by omega) (by omega))⟩
                            · rintro y163 y163r ⟨ey163, ly163⟩
                              obtain rfl : y163 = y163r := ey163
                              have ly163 : 0 ≤ y163.toInt ∧ y163.toInt ≤ 0 := ly163
                              have iy163 : TI y163 (0) := ti_c ly163
                              refine rl_bnd (Q := fun (y z : Int32) => y = z ∧ (0 ≤ y.toInt ∧ y.toInt ≤ 0)) ?_ ?_
                              · refine rl_if (fun c16 => ?_) (fun c16 => ?_)
                                · have dc16 := tl_eq i3 tn_0 c16
                                  exact rl_some ⟨rfl, (ti_bd iy163 (by omega) (by omega))⟩
                                · have dc16 := tl_ne i3 tn_0 c16
                                  exfalso
                                  omega
                              · rintro y164 y164r ⟨ey164, ly164⟩
                                obtain rfl : y164 = y164r := ey164
                                have ly164 : 0 ≤ y164.toInt ∧ y164.toInt ≤ 0 := ly164
                                have iy164 : TI y164 (0) := ti_c ly164
                                refine rl_bnd (Q := fun (y z : Int32) => y = z ∧ (0 ≤ y.toInt ∧ y.toInt ≤ 14)) ?_ ?_
                                · refine rl_if (fun c17 => ?_) (fun c17 => ?_)
                                  · have dc17 := tl_eq i3 tn_0 c17
                                    exact rl_some ⟨rfl, (ti_bd iy162 (by omega) (by omega))⟩
                                  · have dc17 := tl_ne i3 tn_0 c17
                                    exfalso
                                    omega
                                · rintro y165 y165r ⟨ey165, ly165⟩
                                  obtain rfl : y165 = y165r := ey165
                                  have ly165 : 0 ≤ y165.toInt ∧ y165.toInt ≤ 14 := ly165
                                  have iy165 : TI y165 y165.toInt := rfl
                                  refine rl_ltI (av_sar 3 iy165 (by decide)) (fun x166 ix166 => ?_)
                                  refine rl_ltI (av_mul ix166 tn_8 (by omega) (by omega)) (fun x167 ix167 => ?_)
                                  refine rl_ltI (av_sar 3 iy164 (by decide)) (fun x168 ix168 => ?_)
                                  refine rl_ltI (av_mul ix168 tn_4 (by omega) (by omega)) (fun x169 ix169 => ?_)
                                  refine rl_ltI (av_add ix167 ix169 (by omega) (by omega)) (fun x170 ix170 => ?_)
                                  refine rl_ltI (av_sar 2 iy165 (by decide)) (fun x171 ix171 => ?_)
                                  refine rl_ltI (av_and 1 ix171 (by decide) (by decide)) (fun x172 ix172 => ?_)
                                  refine rl_ltI (av_mul ix172 tn_2 (by omega) (by omega)) (fun x173 ix173 => ?_)
                                  refine rl_ltI (av_add ix170 ix173 (by omega) (by omega)) (fun x174 ix174 => ?_)
                                  refine rl_ltI (av_sar 2 iy164 (by decide)) (fun x175 ix175 => ?_)
                                  refine rl_ltI (av_and 1 ix175 (by decide) (by decide)) (fun x176 ix176 => ?_)
                                  refine rl_ltI (av_add ix174 ix176 (by omega) (by omega)) (fun x177 ix177 => ?_)
                                  refine rl_ltI (av_mul tn_16 i1 (by omega) (by omega)) (fun x178 ix178 => ?_)
                                  refine rl_ltI (av_add ix178 ix177 (by omega) (by omega)) (fun x179 ix179 => ?_)
                                  refine rl_ltI (av_mul tn_2 ix179 (by omega) (by omega)) (fun x180 ix180 => ?_)
                                  refine rl_ltI (av_add ix180 i3 (by omega) (by omega)) (fun x181 ix181 => ?_)
                                  refine rl_dr (cx_U ts158_2) (rx_c (a := 148) (k := 0) (b := 149) ts158_2 (Or.inr (Or.inr (Or.inl rfl))) rfl (by decide)) (fun gb182 => ?_)
                                  refine rl_chk (chkl (cx_U ts158_2) gb182) (fun k18 => ?_)
                                  refine rl_rd (wg_id wS_s158_2 ix181 (by omega) (by omega)) (fun x183 => ?_)
                                  refine rl_bnd (Q := fun (y z : DD) => Up mu 144 s158_2 s158_2r y z) ?_ ?_
                                  · refine rl_if (fun c19 => ?_) (fun c19 => ?_)
                                    · have dc19 := tl_le (rfl : TI x183 x183.toInt) tn_0 c19
                                      exact rl_some (up_0 mu (κ := 144) _ _)
                                    · have dc19 := tl_nle (rfl : TI x183 x183.toInt) tn_0 c19
                                      refine rl_dr (cx_U ts158_2) (rx_4 ts158_2 (cx_p t)) (fun gb187 => ?_)
                                      refine rl_chk (chkl (cx_U ts158_2) gb187) (fun k20 => ?_)
                                      refine rl_ltA (fun x188 => ?_)
                                      refine rl_ltA (fun x189 => ?_)
                                      refine rl_bnd (Q := fun (y z : Int32) => y = z ∧ (0 ≤ y.toInt ∧ y.toInt ≤ 0)) ?_ ?_
                                      · refine rl_if (fun c21 => ?_) (fun c21 => ?_)
                                        · have dc21 := tl_eq i2 tn_0 c21
                                          exfalso
                                          omega
                                        · have dc21 := tl_ne i2 tn_0 c21
                                          exact rl_some ⟨rfl, (ti_bd tn_0 (by omega) (by omega))⟩
                                      · rintro y190 y190r ⟨ey190, ly190⟩
                                        obtain rfl : y190 = y190r := ey190
                                        have ly190 : 0 ≤ y190.toInt ∧ y190.toInt ≤ 0 := ly190
                                        have iy190 : TI y190 (0) := ti_c ly190
                                        obtain ⟨j22, hj22, ej22⟩ := rx_dv ts158_2 (cx_p t) i2 (by omega) (by omega)
                                        refine rl_bnd (r_filterLine ts158_2 ej22 (cx_p t) hj22 wP148_2_s158_2 wP148_3_s158_2 wP148_4_s158_2) ?_
                                        rintro y191 y191r uy191'
                                        have uy191 : Up mu 144 s158_2 s158_2r y191 y191r := uy191'
                                        have ty191 := cx_up ts158_2 uy191
                                        have wS_y191 := wg_up uy191 wS_s158_2
                                        have wP148_2_y191 := ag_up uy191 wP148_2_s158_2
                                        have wP148_3_y191 := ag_up uy191 wP148_3_s158_2
                                        have wP148_4_y191 := ag_up uy191 wP148_4_s158_2
                                        exact rl_some uy191
                                  · rintro y184 y184r uy184
                                    have uy184 : Up mu 144 s158_2 s158_2r y184 y184r := uy184
                                    have ty184 := cx_up ts158_2 uy184
                                    have wS_y184 := wg_up uy184 wS_s158_2
                                    have wP148_2_y184 := ag_up uy184 wP148_2_s158_2
                                    have wP148_3_y184 := ag_up uy184 wP148_3_s158_2
                                    have wP148_4_y184 := ag_up uy184 wP148_4_s158_2
                                    refine rl_ltI (av_add is158_1 tn_1 (by omega) (by omega)) (fun x185 ix185 => ?_)
                                    exact rl_inl ⟨rfl, (ti_bd ix185 (by omega) (by omega)), (up_tr us158_2 uy184)⟩
                      · exact ⟨rfl, (ti_bd tn_0 (by omega) (by omega)), (up_0 mu (κ := 144) _ _)⟩
                      · rintro ⟨y157_1, y157_2⟩ ⟨y157_1r, y157_2r⟩ ⟨ey157_1, ly157_1, uy157_2⟩
                        obtain rfl : y157_1 = y157_1r := ey157_1
                        have ly157_1 : 0 ≤ y157_1.toInt ∧ y157_1.toInt ≤ y3.toInt := ly157_1
                        have iy157_1 : TI y157_1 y157_1.toInt := rfl
                        have uy157_2 : Up mu 144 y140 y140r y157_2 y157_2r := uy157_2
                        have ty157_2 := cx_up ty140 uy157_2
                        have wS_y157_2 := wg_up uy157_2 wS_y140
                        have wP148_2_y157_2 := ag_up uy157_2 vP148_2_y140
                        have wP148_3_y157_2 := ag_up uy157_2 vP148_3_y140
                        have wP148_4_y157_2 := ag_up uy157_2 vP148_4_y140
                        exact rl_some (up_tr uy140 uy157_2)
            · have dc5 := tl_ne i3 tn_0 c5
              exfalso
              omega
          · have dc4 := tl_ne i4 tn_0 c4
            refine rl_bnd (r_setThresholds t ⟨rfl, rfl⟩) ?_
            rintro y6 y6r ⟨uy6', vP148_2_y6, vP148_3_y6, vP148_4_y6⟩
            have uy6 : Up mu 144 M N y6 y6r := uy6'
            have ty6 := cx_up t uy6
            have wS_y6 := wg_up uy6 hS
            refine rl_dr (cx_U ty6) (rx_p t) (fun gb7 => ?_)
            refine rl_rd (cx_q (j := 0) (k := 1) ty6 (cx_p t) rfl) (fun x8 => ?_)
            refine rl_ltA (fun x9 => ?_)
            refine rl_rd (cx_q (j := 0) (k := 1) ty6 (cx_p t) rfl) (fun x10 => ?_)
            refine rl_chk (fun h => h) (fun k23 => ?_)
            refine rl_ltA (fun x11 => ?_)
            refine rl_ltA (fun x12 => ?_)
            refine rl_ltA (fun x13 => ?_)
            refine rl_rd (cx_q (j := 0) (k := 1) ty6 (cx_p t) rfl) (fun x14 => ?_)
            refine rl_chk (fun h => h) (fun k24 => ?_)
            refine rl_ltA (fun x15 => ?_)
            refine rl_ltA (fun x16 => ?_)
            refine rl_ltA (fun x17 => ?_)
            refine rl_ltI (av_mul tn_4 i4 (by omega) (by omega)) (fun x18 ix18 => ?_)
            refine rl_bnd (Q := fun (y z : Int32) => y = z ∧ (1 ≤ y.toInt ∧ y.toInt ≤ 1)) ?_ ?_
            · refine rl_if (fun c25 => ?_) (fun c25 => ?_)
              · have dc25 := tl_eq i3 tn_0 c25
                exact rl_some ⟨rfl, (ti_bd tn_1 (by omega) (by omega))⟩
              · have dc25 := tl_ne i3 tn_0 c25
                exfalso
                omega
            · rintro y19 y19r ⟨ey19, ly19⟩
              obtain rfl : y19 = y19r := ey19
              have ly19 : 1 ≤ y19.toInt ∧ y19.toInt ≤ 1 := ly19
              have iy19 : TI y19 (1) := ti_c ly19
              refine rl_ltI (av_mul ix18 iy19 (by omega) (by omega)) (fun x20 ix20 => ?_)
              refine rl_ltA (fun x21 => ?_)
              refine rl_bnd (Q := fun (y z : Int32) => y = z ∧ (1 ≤ y.toInt ∧ y.toInt ≤ 1)) ?_ ?_
              · refine rl_if (fun c26 => ?_) (fun c26 => ?_)
                · have dc26 := tl_eq i3 tn_0 c26
                  exact rl_some ⟨rfl, (ti_bd tn_1 (by omega) (by omega))⟩
                · have dc26 := tl_ne i3 tn_0 c26
                  exfalso
                  omega
              · rintro y22 y22r ⟨ey22, ly22⟩
                obtain rfl : y22 = y22r := ey22
                have ly22 : 1 ≤ y22.toInt ∧ y22.toInt ≤ 1 := ly22
                have iy22 : TI y22 (1) := ti_c ly22
                refine rl_bnd (Q := fun (y z : Int32) => y = z) ?_ ?_
                · refine rl_if (fun c27 => ?_) (fun c27 => ?_)
                  · have dc27 := tl_eq i3 tn_0 c27
                    exact rl_some rfl
                  · have dc27 := tl_ne i3 tn_0 c27
                    exfalso
                    omega
                · rintro y23 y23r ey23
                  obtain rfl : y23 = y23r := ey23
                  have ky3 : y3.toInt = _ := iy3
                  refine rl_bnd (Q := fun (y z : Int32 × DD) => y.1 = z.1 ∧ (0 ≤ y.1.toInt ∧ y.1.toInt ≤ y3.toInt) ∧ Up mu 144 y6 y6r y.2 z.2) (rl_itr (fun (y z : Int32 × DD) => y.1 = z.1 ∧ (0 ≤ y.1.toInt ∧ y.1.toInt ≤ y3.toInt) ∧ Up mu 144 y6 y6r y.2 z.2) _ ?_ _ _ _ ?_) ?_
                  · rintro ⟨s25_1, s25_2⟩ ⟨s25_1r, s25_2r⟩ ⟨es25_1, ls25_1, us25_2⟩
                    obtain rfl : s25_1 = s25_1r := es25_1
                    have ls25_1 : 0 ≤ s25_1.toInt ∧ s25_1.toInt ≤ y3.toInt := ls25_1
                    have is25_1 : TI s25_1 s25_1.toInt := rfl
                    have us25_2 : Up mu 144 y6 y6r s25_2 s25_2r := us25_2
                    have ts25_2 := cx_up ty6 us25_2
                    have wS_s25_2 := wg_up us25_2 wS_y6
                    have wP148_2_s25_2 := ag_up us25_2 vP148_2_y6
                    have wP148_3_s25_2 := ag_up us25_2 vP148_3_y6
                    have wP148_4_s25_2 := ag_up us25_2 vP148_4_y6
                    refine rl_if (fun c28 => ?_) (fun c28 => ?_)
                    · have dc28 := tl_le iy3 is25_1 c28
                      exact rl_inr ⟨rfl, (ti_bd is25_1 (by omega) (by omega)), us25_2⟩
                    · have dc28 := tl_nle iy3 is25_1 c28
                      refine rl_bnd (Q := fun (y z : Int32) => y = z ∧ (0 ≤ y.toInt ∧ y.toInt ≤ 14)) ?_ ?_
                      · refine rl_if (fun c29 => ?_) (fun c29 => ?_)
                        · have dc29 := tl_eq i2 tn_0 c29
                          exfalso
                          omega
                        · have dc29 := tl_ne i2 tn_0 c29
                          refine rl_ltI (av_mul tn_2 is25_1 (by omega) (by omega)) (fun x66 ix66 => ?_)
                          exact rl_some ⟨rfl, (ti_bd ix66 (by omega) (by omega))⟩
                      · rintro y29 y29r ⟨ey29, ly29⟩
                        obtain rfl : y29 = y29r := ey29
                        have ly29 : 0 ≤ y29.toInt ∧ y29.toInt ≤ 14 := ly29
                        have iy29 : TI y29 y29.toInt := rfl
                        refine rl_bnd (Q := fun (y z : Int32) => y = z ∧ (8 ≤ y.toInt ∧ y.toInt ≤ 8)) ?_ ?_
                        · refine rl_if (fun c30 => ?_) (fun c30 => ?_)
                          · have dc30 := tl_eq i2 tn_0 c30
                            exfalso
                            omega
                          · have dc30 := tl_ne i2 tn_0 c30
                            refine rl_ltI (av_mul tn_8 i4 (by omega) (by omega)) (fun x63 ix63 => ?_)
                            exact rl_some ⟨rfl, (ti_bd ix63 (by omega) (by omega))⟩
                        · rintro y30 y30r ⟨ey30, ly30⟩
                          obtain rfl : y30 = y30r := ey30
                          have ly30 : 8 ≤ y30.toInt ∧ y30.toInt ≤ 8 := ly30
                          have iy30 : TI y30 (8) := ti_c ly30
                          refine rl_bnd (Q := fun (y z : Int32) => y = z ∧ (8 ≤ y.toInt ∧ y.toInt ≤ 8)) ?_ ?_
                          · refine rl_if (fun c31 => ?_) (fun c31 => ?_)
                            · have dc31 := tl_eq i3 tn_0 c31
                              exact rl_some ⟨rfl, (ti_bd iy30 (by omega) (by omega))⟩
                            · have dc31 := tl_ne i3 tn_0 c31
                              exfalso
                              omega
                          · rintro y31 y31r ⟨ey31, ly31⟩
                            obtain rfl : y31 = y31r := ey31
                            have ly31 : 8 ≤ y31.toInt ∧ y31.toInt ≤ 8 := ly31
                            have iy31 : TI y31 (8) := ti_c ly31
                            refine rl_bnd (Q := fun (y z : Int32) => y = z ∧ (0 ≤ y.toInt ∧ y.toInt ≤ 14)) ?_ ?_
                            · refine rl_if (fun c32 => ?_) (fun c32 => ?_)
                              · have dc32 := tl_eq i3 tn_0 c32
                                exact rl_some ⟨rfl, (ti_bd iy29 (by omega) (by omega))⟩
                              · have dc32 := tl_ne i3 tn_0 c32
                                exfalso
                                omega
                            · rintro y32 y32r ⟨ey32, ly32⟩
                              obtain rfl : y32 = y32r := ey32
                              have ly32 : 0 ≤ y32.toInt ∧ y32.toInt ≤ 14 := ly32
                              have iy32 : TI y32 y32.toInt := rfl
                              refine rl_ltI (av_sar 3 iy32 (by decide)) (fun x33 ix33 => ?_)
                              refine rl_ltI (av_mul ix33 tn_8 (by omega) (by omega)) (fun x34 ix34 => ?_)
                              refine rl_ltI (av_sar 3 iy31 (by decide)) (fun x35 ix35 => ?_)
                              refine rl_ltI (av_mul ix35 tn_4 (by omega) (by omega)) (fun x36 ix36 => ?_)
                              refine rl_ltI (av_add ix34 ix36 (by omega) (by omega)) (fun x37 ix37 => ?_)
                              refine rl_ltI (av_sar 2 iy32 (by decide)) (fun x38 ix38 => ?_)
                              refine rl_ltI (av_and 1 ix38 (by decide) (by decide)) (fun x39 ix39 => ?_)
                              refine rl_ltI (av_mul ix39 tn_2 (by omega) (by omega)) (fun x40 ix40 => ?_)
                              refine rl_ltI (av_add ix37 ix40 (by omega) (by omega)) (fun x41 ix41 => ?_)
                              refine rl_ltI (av_sar 2 iy31 (by decide)) (fun x42 ix42 => ?_)
                              refine rl_ltI (av_and 1 ix42 (by decide) (by decide)) (fun x43 ix43 => ?_)
                              refine rl_ltI (av_add ix41 ix43 (by omega) (by omega)) (fun x44 ix44 => ?_)
                              refine rl_ltI (av_mul tn_16 i1 (by omega) (by omega)) (fun x45 ix45 => ?_)
                              refine rl_ltI (av_add ix45 ix44 (by omega) (by omega)) (fun x46 ix46 => ?_)
                              refine rl_ltI (av_mul tn_2 ix46 (by omega) (by omega)) (fun x47 ix47 => ?_)
                              refine rl_ltI (av_add ix47 i3 (by omega) (by omega)) (fun x48 ix48 => ?_)
                              refine rl_dr (cx_U ts25_2) (rx_c (a := 148) (k := 0) (b := 149) ts25_2 (Or.inr (Or.inr (Or.inl rfl))) rfl (by decide)) (fun gb49 => ?_)
                              refine rl_chk (chkl (cx_U ts25_2) gb49) (fun k33 => ?_)
                              refine rl_rd (wg_id wS_s25_2 ix48 (by omega) (by omega)) (fun x50 => ?_)
                              refine rl_bnd (Q := fun (y z : DD) => Up mu 144 s25_2 s25_2r y z) ?_ ?_
                              · refine rl_if (fun c34 => ?_) (fun c34 => ?_)
                                · have dc34 := tl_le (rfl : TI x50 x50.toInt) tn_0 c34
                                  exact rl_some (up_0 mu (κ := 144) _ _)
                                · have dc34 := tl_nle (rfl : TI x50 x50.toInt) tn_0 c34
                                  refine rl_dr (cx_U ts25_2) (rx_4 ts25_2 (cx_p t)) (fun gb54 => ?_)
                                  refine rl_chk (chkl (cx_U ts25_2) gb54) (fun k35 => ?_)
                                  refine rl_ltA (fun x55 => ?_)
                                  refine rl_ltA (fun x56 => ?_)
                                  refine rl_bnd (Q := fun (y z : Int32) => y = z ∧ (0 ≤ y.toInt ∧ y.toInt ≤ 0)) ?_ ?_
                                  · refine rl_if (fun c36 => ?_) (fun c36 => ?_)
                                    · have dc36 := tl_eq i2 tn_0 c36
                                      exfalso
                                      omega
                                    · have dc36 := tl_ne i2 tn_0 c36
                                      exact rl_some ⟨rfl, (ti_bd tn_0 (by omega) (by omega))⟩
                                  · rintro y57 y57r ⟨ey57, ly57⟩
                                    obtain rfl : y57 = y57r := ey57
                                    have ly57 : 0 ≤ y57.toInt ∧ y57.toInt ≤ 0 := ly57
                                    have iy57 : TI y57 (0) := ti_c ly57
                                    obtain ⟨j37, hj37, ej37⟩ := rx_dv ts25_2 (cx_p t) i2 (by omega) (by omega)
                                    refine rl_bnd (r_filterLine ts25_2 ej37 (cx_p t) hj37 wP148_2_s25_2 wP148_3_s25_2 wP148_4_s25_2) ?_
                                    rintro y58 y58r uy58'
                                    have uy58 : Up mu 144 s25_2 s25_2r y58 y58r := uy58'
                                    have ty58 := cx_up ts25_2 uy58
                                    have wS_y58 := wg_up uy58 wS_s25_2
                                    have wP148_2_y58 := ag_up uy58 wP148_2_s25_2
                                    have wP148_3_y58 := ag_up uy58 wP148_3_s25_2
                                    have wP148_4_y58 := ag_up uy58 wP148_4_s25_2
                                    exact rl_some uy58
                              · rintro y51 y51r uy51
                                have uy51 : Up mu 144 s25_2 s25_2r y51 y51r := uy51
                                have ty51 := cx_up ts25_2 uy51
                                have wS_y51 := wg_up uy51 wS_s25_2
                                have wP148_2_y51 := ag_up uy51 wP148_2_s25_2
                                have wP148_3_y51 := ag_up uy51 wP148_3_s25_2
                                have wP148_4_y51 := ag_up uy51 wP148_4_s25_2
                                refine rl_ltI (av_add is25_1 tn_1 (by omega) (by omega)) (fun x52 ix52 => ?_)
                                exact rl_inl ⟨rfl, (ti_bd ix52 (by omega) (by omega)), (up_tr us25_2 uy51)⟩
                  · exact ⟨rfl, (ti_bd tn_0 (by omega) (by omega)), (up_0 mu (κ := 144) _ _)⟩
                  · rintro ⟨y24_1, y24_2⟩ ⟨y24_1r, y24_2r⟩ ⟨ey24_1, ly24_1, uy24_2⟩
                    obtain rfl : y24_1 = y24_1r := ey24_1
                    have ly24_1 : 0 ≤ y24_1.toInt ∧ y24_1.toInt ≤ y3.toInt := ly24_1
                    have iy24_1 : TI y24_1 y24_1.toInt := rfl
                    have uy24_2 : Up mu 144 y6 y6r y24_2 y24_2r := uy24_2
                    have ty24_2 := cx_up ty6 uy24_2
                    have wS_y24_2 := wg_up uy24_2 wS_y6
                    have wP148_2_y24_2 := ag_up uy24_2 vP148_2_y6
                    have wP148_3_y24_2 := ag_up uy24_2 vP148_3_y6
                    have wP148_4_y24_2 := ag_up uy24_2 vP148_4_y6
                    exact rl_some (up_tr uy6 uy24_2)
    · refine rl_dr (cx_U t) ⟨rfl, rfl⟩ (fun gb2 => ?_)
      refine rl_bnd (Q := fun (y z : Int32) => y = z ∧ (8 ≤ y.toInt ∧ y.toInt ≤ 8)) ?_ ?_
      · refine rl_if (fun c1 => ?_) (fun c1 => ?_)
        · have dc1 := tl_eq i2 tn_0 c1
          exfalso
          omega
        · have dc1 := tl_ne i2 tn_0 c1
          exact rl_some ⟨rfl, (ti_bd tn_8 (by omega) (by omega))⟩
      · rintro y3 y3r ⟨ey3, ly3⟩
        obtain rfl : y3 = y3r := ey3
        have ly3 : 8 ≤ y3.toInt ∧ y3.toInt ≤ 8 := ly3
        have iy3 : TI y3 (8) := ti_c ly3
        refine rl_bnd (Q := fun (y z : Int32) => y = z) ?_ ?_
        · refine rl_if (fun c2 => ?_) (fun c2 => ?_)
          · have dc2 := tl_le i4 tn_0 c2
            refine rl_bnd (Q := fun (y z : Int32) => y = z) ?_ ?_
            · refine rl_if (fun c3 => ?_) (fun c3 => ?_)
              · have dc3 := tl_eq i3 tn_0 c3
                exfalso
                omega
              · have dc3 := tl_ne i3 tn_0 c3
                refine rl_dr (cx_U t) (rx_p t) (fun gb206 => ?_)
                refine rl_rd (cx_q (j := 0) (k := 1) t (cx_p t) rfl) (fun x207 => ?_)
                refine rl_ltA (fun x208 => ?_)
                exact rl_some rfl
            · rintro y204 y204r ey204
              obtain rfl : y204 = y204r := ey204
              exact rl_some rfl
          · have dc2 := tl_nle i4 tn_0 c2
            exact rl_some rfl
        · rintro y4 y4r ey4
          obtain rfl : y4 = y4r := ey4
          refine rl_if (fun c4 => ?_) (fun c4 => ?_)
          · have dc4 := tl_eq i4 tn_0 c4
            refine rl_if (fun c5 => ?_) (fun c5 => ?_)
            · have dc5 := tl_eq i3 tn_0 c5
              exfalso
              omega
            · have dc5 := tl_ne i3 tn_0 c5
              refine rl_if (fun c6 => ?_) (fun c6 => ?_)
              · have dc6 := tl_le tn_0 (rfl : TI y4 y4.toInt) c6
                refine rl_bnd (r_setThresholds t ⟨rfl, rfl⟩) ?_
                rintro y72 y72r ⟨uy72', vP148_2_y72, vP148_3_y72, vP148_4_y72⟩
                have uy72 : Up mu 144 M N y72 y72r := uy72'
                have ty72 := cx_up t uy72
                have wS_y72 := wg_up uy72 hS
                refine rl_dr (cx_U ty72) (rx_p t) (fun gb73 => ?_)
                refine rl_rd (cx_q (j := 0) (k := 1) ty72 (cx_p t) rfl) (fun x74 => ?_)
                refine rl_ltA (fun x75 => ?_)
                refine rl_rd (cx_q (j := 0) (k := 1) ty72 (cx_p t) rfl) (fun x76 => ?_)
                refine rl_chk (fun h => h) (fun k7 => ?_)
                refine rl_ltA (fun x77 => ?_)
                refine rl_ltA (fun x78 => ?_)
                refine rl_ltA (fun x79 => ?_)
                refine rl_rd (cx_q (j := 0) (k := 1) ty72 (cx_p t) rfl) (fun x80 => ?_)
                refine rl_chk (fun h => h) (fun k8 => ?_)
                refine rl_ltA (fun x81 => ?_)
                refine rl_ltA (fun x82 => ?_)
                refine rl_ltA (fun x83 => ?_)
                refine rl_ltI (av_mul tn_4 i4 (by omega) (by omega)) (fun x84 ix84 => ?_)
                refine rl_bnd (Q := fun (y z : Int32) => y = z) ?_ ?_
                · refine rl_if (fun c9 => ?_) (fun c9 => ?_)
                  · have dc9 := tl_eq i3 tn_0 c9
                    exfalso
                    omega
                  · have dc9 := tl_ne i3 tn_0 c9
                    exact rl_some rfl
                · rintro y85 y85r ey85
                  obtain rfl : y85 = y85r := ey85
                  refine rl_ltA (fun x86 => ?_)
                  refine rl_ltA (fun x87 => ?_)
                  refine rl_bnd (Q := fun (y z : Int32) => y = z) ?_ ?_
                  · refine rl_if (fun c10 => ?_) (fun c10 => ?_)
                    · have dc10 := tl_eq i3 tn_0 c10
                      exfalso
                      omega
                    · have dc10 := tl_ne i3 tn_0 c10
                      exact rl_some rfl
                  · rintro y88 y88r ey88
                    obtain rfl : y88 = y88r := ey88
                    refine rl_bnd (Q := fun (y z : Int32) => y = z ∧ (1 ≤ y.toInt ∧ y.toInt ≤ 1)) ?_ ?_
                    · refine rl_if (fun c11 => ?_) (fun c11 => ?_)
                      · have dc11 := tl_eq i3 tn_0 c11
                        exfalso
                        omega
                      · have dc11 := tl_ne i3 tn_0 c11
                        exact rl_some ⟨rfl, (ti_bd tn_1 (by omega) (by omega))⟩
                    · rintro y89 y89r ⟨ey89, ly89⟩
                      obtain rfl : y89 = y89r := ey89
                      have ly89 : 1 ≤ y89.toInt ∧ y89.toInt ≤ 1 := ly89
                      have iy89 : TI y89 (1) := ti_c ly89
                      have ky3 : y3.toInt = _ := iy3
                      refine rl_bnd (Q := fun (y z : Int32 × DD) => y.1 = z.1 ∧ (0 ≤ y.1.toInt ∧ y.1.toInt ≤ y3.toInt) ∧ Up mu 144 y72 y72r y.2 z.2) (rl_itr (fun (y z : Int32 × DD) => y.1 = z.1 ∧ (0 ≤ y.1.toInt ∧ y.1.toInt ≤ y3.toInt) ∧ Up mu 144 y72 y72r y.2 z.2) _ ?_ _ _ _ ?_) ?_
                      · rintro ⟨s91_1, s91_2⟩ ⟨s91_1r, s91_2r⟩ ⟨es91_1, ls91_1, us91_2⟩
                        obtain rfl : s91_1 = s91_1r := es91_1
                        have ls91_1 : 0 ≤ s91_1.toInt ∧ s91_1.toInt ≤ y3.toInt := ls91_1
                        have is91_1 : TI s91_1 s91_1.toInt := rfl
                        have us91_2 : Up mu 144 y72 y72r s91_2 s91_2r := us91_2
                        have ts91_2 := cx_up ty72 us91_2
                        have wS_s91_2 := wg_up us91_2 wS_y72
                        have wP148_2_s91_2 := ag_up us91_2 vP148_2_y72
                        have wP148_3_s91_2 := ag_up us91_2 vP148_3_y72
                        have wP148_4_s91_2 := ag_up us91_2 vP148_4_y72
                        refine rl_if (fun c12 => ?_) (fun c12 => ?_)
                        · have dc12 := tl_le iy3 is91_1 c12
                          exact rl_inr ⟨rfl, (ti_bd is91_1 (by omega) (by omega)), us91_2⟩
                        · have dc12 := tl_nle iy3 is91_1 c12
                          refine rl_bnd (Q := fun (y z : Int32) => y = z ∧ (0 ≤ y.toInt ∧ y.toInt ≤ 14)) ?_ ?_
                          · refine rl_if (fun c13 => ?_) (fun c13 => ?_)
                            · have dc13 := tl_eq i2 tn_0 c13
                              exfalso
                              omega
                            · have dc13 := tl_ne i2 tn_0 c13
                              refine rl_ltI (av_mul tn_2 is91_1 (by omega) (by omega)) (fun x132 ix132 => ?_)
                              exact rl_some ⟨rfl, (ti_bd ix132 (by omega) (by omega))⟩
                          · rintro y95 y95r ⟨ey95, ly95⟩
                            obtain rfl : y95 = y95r := ey95
                            have ly95 : 0 ≤ y95.toInt ∧ y95.toInt ≤ 14 := ly95
                            have iy95 : TI y95 y95.toInt := rfl
                            refine rl_bnd (Q := fun (y z : Int32) => y = z ∧ (0 ≤ y.toInt ∧ y.toInt ≤ 0)) ?_ ?_
                            · refine rl_if (fun c14 => ?_) (fun c14 => ?_)
                              · have dc14 := tl_eq i2 tn_0 c14
                                exfalso
                                omega
                              · have dc14 := tl_ne i2 tn_0 c14
                                refine rl_ltI (av_mul tn_8 i4 (by omega) (by omega)) (fun x129 ix129 => ?_)
                                exact rl_some ⟨rfl, (ti_bd ix129 (by omega) (by omega))⟩
                            · rintro y96 y96r ⟨ey96, ly96⟩
                              obtain rfl : y96 = y96r := ey96
                              have ly96 : 0 ≤ y96.toInt ∧ y96.toInt ≤ 0 := ly96
                              have iy96 : TI y96 (0) := ti_c ly96
                              refine rl_bnd (Q := fun (y z : Int32) => y = z ∧ (0 ≤ y.toInt ∧ y.toInt ≤ 14)) ?_ ?_
                              · refine rl_if (fun c15 => ?_) (fun c15 => ?_)
                                · have dc15 := tl_eq i3 tn_0 c15
                                  exfalso
                                  omega
                                · have dc15 := tl_ne i3 tn_0 c15
                                  exact rl_some ⟨rfl, (ti_bd iy95 (by omega) (by omega))⟩
                              · rintro y97 y97r ⟨ey97, ly97⟩
                                obtain rfl : y97 = y97r := ey97
                                have ly97 : 0 ≤ y97.toInt ∧ y97.toInt ≤ 14 := ly97
                                have iy97 : TI y97 y97.toInt := rfl
                                refine rl_bnd (Q := fun (y z : Int32) => y = z ∧ (0 ≤ y.toInt ∧ y.toInt ≤ 0)) ?_ ?_
                                · refine rl_if (fun c16 => ?_) (fun c16 => ?_)
                                  · have dc16 := tl_eq i3 tn_0 c16
                                    exfalso
                                    omega
                                  · have dc16 := tl_ne i3 tn_0 c16
                                    exact rl_some ⟨rfl, (ti_bd iy96 (by omega) (by omega))⟩
                                · rintro y98 y98r ⟨ey98, ly98⟩
                                  obtain rfl : y98 = y98r := ey98
                                  have ly98 : 0 ≤ y98.toInt ∧ y98.toInt ≤ 0 := ly98
                                  have iy98 : TI y98 (0) := ti_c ly98
                                  refine rl_ltI (av_sar 3 iy98 (by decide)) (fun x99 ix99 => ?_)
                                  refine rl_ltI (av_mul ix99 tn_8 (by omega) (by omega)) (fun x100 ix100 => ?_)
                                  refine rl_ltI (av_sar 3 iy97 (by decide)) (fun x101 ix101 => ?_)
                                  refine rl_ltI (av_mul ix101 tn_4 (by omega) (by omega)) (fun x102 ix102 => ?_)
                                  refine rl_ltI (av_add ix100 ix102 (by omega) (by omega)) (fun x103 ix103 => ?_)
                                  refine rl_ltI (av_sar 2 iy98 (by decide)) (fun x104 ix104 => ?_)
                                  refine rl_ltI (av_and 1 ix104 (by decide) (by decide)) (fun x105 ix105 => ?_)
                                  refine rl_ltI (av_mul ix105 tn_2 (by omega) (by omega)) (fun x106 ix106 => ?_)
                                  refine rl_ltI (av_add ix103 ix106 (by omega) (by omega)) (fun x107 ix107 => ?_)
                                  refine rl_ltI (av_sar 2 iy97 (by decide)) (fun x108 ix108 => ?_)
                                  refine rl_ltI (av_and 1 ix108 (by decide) (by decide)) (fun x109 ix109 => ?_)
                                  refine rl_ltI (av_add ix107 ix109 (by omega) (by omega)) (fun x110 ix110 => ?_)
                                  refine rl_ltI (av_mul tn_16 i1 (by omega) (by omega)) (fun x111 ix111 => ?_)
                                  refine rl_ltI (av_add ix111 ix110 (by omega) (by omega)) (fun x112 ix112 => ?_)
                                  refine rl_ltI (av_mul tn_2 ix112 (by omega) (by omega)) (fun x113 ix113 => ?_)
                                  refine rl_ltI (av_add ix113 i3 (by omega) (by omega)) (fun x114 ix114 => ?_)
                                  refine rl_dr (cx_U ts91_2) (rx_c (a := 148) (k := 0) (b := 149) ts91_2 (Or.inr (Or.inr (Or.inl rfl))) rfl (by decide)) (fun gb115 => ?_)
                                  refine rl_chk (chkl (cx_U ts91_2) gb115) (fun k17 => ?_)
                                  refine rl_rd (wg_id wS_s91_2 ix114 (by omega) (by omega)) (fun x116 => ?_)
                                  refine rl_bnd (Q := fun (y z : DD) => Up mu 144 s91_2 s91_2r y z) ?_ ?_
                                  · refine rl_if (fun c18 => ?_) (fun c18 => ?_)
                                    · have dc18 := tl_le (rfl : TI x116 x116.toInt) tn_0 c18
                                      exact rl_some (up_0 mu (κ := 144) _ _)
                                    · have dc18 := tl_nle (rfl : TI x116 x116.toInt) tn_0 c18
                                      refine rl_dr (cx_U ts91_2) (rx_4 ts91_2 (cx_p t)) (fun gb120 => ?_)
                                      refine rl_chk (chkl (cx_U ts91_2) gb120) (fun k19 => ?_)
                                      refine rl_ltI (av_mul is91_1 iy89 (by omega) (by omega)) (fun x121 ix121 => ?_)
                                      refine rl_ltA (fun x122 => ?_)
                                      refine rl_bnd (Q := fun (y z : Int32) => y = z ∧ (0 ≤ y.toInt ∧ y.toInt ≤ 0)) ?_ ?_
                                      · refine rl_if (fun c20 => ?_) (fun c20 => ?_)
                                        · have dc20 := tl_eq i2 tn_0 c20
                                          exfalso
                                          omega
                                        · have dc20 := tl_ne i2 tn_0 c20
                                          exact rl_some ⟨rfl, (ti_bd tn_0 (by omega) (by omega))⟩
                                      · rintro y123 y123r ⟨ey123, ly123⟩
                                        obtain rfl : y123 = y123r := ey123
                                        have ly123 : 0 ≤ y123.toInt ∧ y123.toInt ≤ 0 := ly123
                                        have iy123 : TI y123 (0) := ti_c ly123
                                        obtain ⟨j21, hj21, ej21⟩ := rx_dv ts91_2 (cx_p t) i2 (by omega) (by omega)
                                        refine rl_bnd (r_filterLine ts91_2 ej21 (cx_p t) hj21 wP148_2_s91_2 wP148_3_s91_2 wP148_4_s91_2) ?_
                                        rintro y124 y124r uy124'
                                        have uy124 : Up mu 144 s91_2 s91_2r y124 y124r := uy124'
                                        have ty124 := cx_up ts91_2 uy124
                                        have wS_y124 := wg_up uy124 wS_s91_2
                                        have wP148_2_y124 := ag_up uy124 wP148_2_s91_2
                                        have wP148_3_y124 := ag_up uy124 wP148_3_s91_2
                                        have wP148_4_y124 := ag_up uy124 wP148_4_s91_2
                                        exact rl_some uy124
                                  · rintro y117 y117r uy117
                                    have uy117 : Up mu 144 s91_2 s91_2r y117 y117r := uy117
                                    have ty117 := cx_up ts91_2 uy117
                                    have wS_y117 := wg_up uy117 wS_s91_2
                                    have wP148_2_y117 := ag_up uy117 wP148_2_s91_2
                                    have wP148_3_y117 := ag_up uy117 wP148_3_s91_2
                                    have wP148_4_y117 := ag_up uy117 wP148_4_s91_2
                                    refine rl_ltI (av_add is91_1 tn_1 (by omega) (by omega)) (fun x118 ix118 => ?_)
                                    exact rl_inl ⟨rfl, (ti_bd ix118 (by omega) (by omega)), (up_tr us91_2 uy117)⟩
                      · exact ⟨rfl, (ti_bd tn_0 (by omega) (by omega)), (up_0 mu (κ := 144) _ _)⟩
                      · rintro ⟨y90_1, y90_2⟩ ⟨y90_1r, y90_2r⟩ ⟨ey90_1, ly90_1, uy90_2⟩
                        obtain rfl : y90_1 = y90_1r := ey90_1
                        have ly90_1 : 0 ≤ y90_1.toInt ∧ y90_1.toInt ≤ y3.toInt := ly90_1
                        have iy90_1 : TI y90_1 y90_1.toInt := rfl
                        have uy90_2 : Up mu 144 y72 y72r y90_2 y90_2r := uy90_2
                        have ty90_2 := cx_up ty72 uy90_2
                        have wS_y90_2 := wg_up uy90_2 wS_y72
                        have wP148_2_y90_2 := ag_up uy90_2 vP148_2_y72
                        have wP148_3_y90_2 := ag_up uy90_2 vP148_3_y72
                        have wP148_4_y90_2 := ag_up uy90_2 vP148_4_y72
                        exact rl_some (up_tr uy72 uy90_2)
              · have dc6 := tl_nle tn_0 (rfl : TI y4 y4.toInt) c6
                exact rl_some (up_0 mu (κ := 144) _ _)
          · have dc4 := tl_ne i4 tn_0 c4
            refine rl_bnd (r_setThresholds t ⟨rfl, rfl⟩) ?_
            rintro y6 y6r ⟨uy6', vP148_2_y6, vP148_3_y6, vP148_4_y6⟩
            have uy6 : Up mu 144 M N y6 y6r := uy6'
            have ty6 := cx_up t uy6
            have wS_y6 := wg_up uy6 hS
            refine rl_dr (cx_U ty6) (rx_p t) (fun gb7 => ?_)
            refine rl_rd (cx_q (j := 0) (k := 1) ty6 (cx_p t) rfl) (fun x8 => ?_)
            refine rl_ltA (fun x9 => ?_)
            refine rl_rd (cx_q (j := 0) (k := 1) ty6 (cx_p t) rfl) (fun x10 => ?_)
            refine rl_chk (fun h => h) (fun k22 => ?_)
            refine rl_ltA (fun x11 => ?_)
            refine rl_ltA (fun x12 => ?_)
            refine rl_ltA (fun x13 => ?_)
            refine rl_rd (cx_q (j := 0) (k := 1) ty6 (cx_p t) rfl) (fun x14 => ?_)
            refine rl_chk (fun h => h) (fun k23 => ?_)
            refine rl_ltA (fun x15 => ?_)
            refine rl_ltA (fun x16 => ?_)
            refine rl_ltA (fun x17 => ?_)
            refine rl_ltI (av_mul tn_4 i4 (by omega) (by omega)) (fun x18 ix18 => ?_)
            refine rl_bnd (Q := fun (y z : Int32) => y = z) ?_ ?_
            · refine rl_if (fun c24 => ?_) (fun c24 => ?_)
              · have dc24 := tl_eq i3 tn_0 c24
                exfalso
                omega
              · have dc24 := tl_ne i3 tn_0 c24
                exact rl_some rfl
            · rintro y19 y19r ey19
              obtain rfl : y19 = y19r := ey19
              refine rl_ltA (fun x20 => ?_)
              refine rl_ltA (fun x21 => ?_)
              refine rl_bnd (Q := fun (y z : Int32) => y = z) ?_ ?_
              · refine rl_if (fun c25 => ?_) (fun c25 => ?_)
                · have dc25 := tl_eq i3 tn_0 c25
                  exfalso
                  omega
                · have dc25 := tl_ne i3 tn_0 c25
                  exact rl_some rfl
              · rintro y22 y22r ey22
                obtain rfl : y22 = y22r := ey22
                refine rl_bnd (Q := fun (y z : Int32) => y = z ∧ (1 ≤ y.toInt ∧ y.toInt ≤ 1)) ?_ ?_
                · refine rl_if (fun c26 => ?_) (fun c26 => ?_)
                  · have dc26 := tl_eq i3 tn_0 c26
                    exfalso
                    omega
                  · have dc26 := tl_ne i3 tn_0 c26
                    exact rl_some ⟨rfl, (ti_bd tn_1 (by omega) (by omega))⟩
                · rintro y23 y23r ⟨ey23, ly23⟩
                  obtain rfl : y23 = y23r := ey23
                  have ly23 : 1 ≤ y23.toInt ∧ y23.toInt ≤ 1 := ly23
                  have iy23 : TI y23 (1) := ti_c ly23
                  have ky3 : y3.toInt = _ := iy3
                  refine rl_bnd (Q := fun (y z : Int32 × DD) => y.1 = z.1 ∧ (0 ≤ y.1.toInt ∧ y.1.toInt ≤ y3.toInt) ∧ Up mu 144 y6 y6r y.2 z.2) (rl_itr (fun (y z : Int32 × DD) => y.1 = z.1 ∧ (0 ≤ y.1.toInt ∧ y.1.toInt ≤ y3.toInt) ∧ Up mu 144 y6 y6r y.2 z.2) _ ?_ _ _ _ ?_) ?_
                  · rintro ⟨s25_1, s25_2⟩ ⟨s25_1r, s25_2r⟩ ⟨es25_1, ls25_1, us25_2⟩
                    obtain rfl : s25_1 = s25_1r := es25_1
                    have ls25_1 : 0 ≤ s25_1.toInt ∧ s25_1.toInt ≤ y3.toInt := ls25_1
                    have is25_1 : TI s25_1 s25_1.toInt := rfl
                    have us25_2 : Up mu 144 y6 y6r s25_2 s25_2r := us25_2
                    have ts25_2 := cx_up ty6 us25_2
                    have wS_s25_2 := wg_up us25_2 wS_y6
                    have wP148_2_s25_2 := ag_up us25_2 vP148_2_y6
                    have wP148_3_s25_2 := ag_up us25_2 vP148_3_y6
                    have wP148_4_s25_2 := ag_up us25_2 vP148_4_y6
                    refine rl_if (fun c27 => ?_) (fun c27 => ?_)
                    · have dc27 := tl_le iy3 is25_1 c27
                      exact rl_inr ⟨rfl, (ti_bd is25_1 (by omega) (by omega)), us25_2⟩
                    · have dc27 := tl_nle iy3 is25_1 c27
                      refine rl_bnd (Q := fun (y z : Int32) => y = z ∧ (0 ≤ y.toInt ∧ y.toInt ≤ 14)) ?_ ?_
                      · refine rl_if (fun c28 => ?_) (fun c28 => ?_)
                        · have dc28 := tl_eq i2 tn_0 c28
                          exfalso
                          omega
                        · have dc28 := tl_ne i2 tn_0 c28
                          refine rl_ltI (av_mul tn_2 is25_1 (by omega) (by omega)) (fun x66 ix66 => ?_)
                          exact rl_some ⟨rfl, (ti_bd ix66 (by omega) (by omega))⟩
                      · rintro y29 y29r ⟨ey29, ly29⟩
                        obtain rfl : y29 = y29r := ey29
                        have ly29 : 0 ≤ y29.toInt ∧ y29.toInt ≤ 14 := ly29
                        have iy29 : TI y29 y29.toInt := rfl
                        refine rl_bnd (Q := fun (y z : Int32) => y = z ∧ (8 ≤ y.toInt ∧ y.toInt ≤ 8)) ?_ ?_
                        · refine rl_if (fun c29 => ?_) (fun c29 => ?_)
                          · have dc29 := tl_eq i2 tn_0 c29
                            exfalso
                            omega
                          · have dc29 := tl_ne i2 tn_0 c29
                            refine rl_ltI (av_mul tn_8 i4 (by omega) (by omega)) (fun x63 ix63 => ?_)
                            exact rl_some ⟨rfl, (ti_bd ix63 (by omega) (by omega))⟩
                        · rintro y30 y30r ⟨ey30, ly30⟩
                          obtain rfl : y30 = y30r := ey30
                          have ly30 : 8 ≤ y30.toInt ∧ y30.toInt ≤ 8 := ly30
                          have iy30 : TI y30 (8) := ti_c ly30
                          refine rl_bnd (Q := fun (y z : Int32) => y = z ∧ (0 ≤ y.toInt ∧ y.toInt ≤ 14)) ?_ ?_
                          · refine rl_if (fun c30 => ?_) (fun c30 => ?_)
                            · have dc30 := tl_eq i3 tn_0 c30
                              exfalso
                              omega
                            · have dc30 := tl_ne i3 tn_0 c30
                              exact rl_some ⟨rfl, (ti_bd iy29 (by omega) (by omega))⟩
                          · rintro y31 y31r ⟨ey31, ly31⟩
                            obtain rfl : y31 = y31r := ey31
                            have ly31 : 0 ≤ y31.toInt ∧ y31.toInt ≤ 14 := ly31
                            have iy31 : TI y31 y31.toInt := rfl
                            refine rl_bnd (Q := fun (y z : Int32) => y = z ∧ (8 ≤ y.toInt ∧ y.toInt ≤ 8)) ?_ ?_
                            · refine rl_if (fun c31 => ?_) (fun c31 => ?_)
                              · have dc31 := tl_eq i3 tn_0 c31
                                exfalso
                                omega
                              · have dc31 := tl_ne i3 tn_0 c31
                                exact rl_some ⟨rfl, (ti_bd iy30 (by omega) (by omega))⟩
                            · rintro y32 y32r ⟨ey32, ly32⟩
                              obtain rfl : y32 = y32r := ey32
                              have ly32 : 8 ≤ y32.toInt ∧ y32.toInt ≤ 8 := ly32
                              have iy32 : TI y32 (8) := ti_c ly32
                              refine rl_ltI (av_sar 3 iy32 (by decide)) (fun x33 ix33 => ?_)
                              refine rl_ltI (av_mul ix33 tn_8 (by omega) (by omega)) (fun x34 ix34 => ?_)
                              refine rl_ltI (av_sar 3 iy31 (by decide)) (fun x35 ix35 => ?_)
                              refine rl_ltI (av_mul ix35 tn_4 (by omega) (by omega)) (fun x36 ix36 => ?_)
                              refine rl_ltI (av_add ix34 ix36 (by omega) (by omega)) (fun x37 ix37 => ?_)
                              refine rl_ltI (av_sar 2 iy32 (by decide)) (fun x38 ix38 => ?_)
                              refine rl_ltI (av_and 1 ix38 (by decide) (by decide)) (fun x39 ix39 => ?_)
                              refine rl_ltI (av_mul ix39 tn_2 (by omega) (by omega)) (fun x40 ix40 => ?_)
                              refine rl_ltI (av_add ix37 ix40 (by omega) (by omega)) (fun x41 ix41 => ?_)
                              refine rl_ltI (av_sar 2 iy31 (by decide)) (fun x42 ix42 => ?_)
                              refine rl_ltI (av_and 1 ix42 (by decide) (by decide)) (fun x43 ix43 => ?_)
                              refine rl_ltI (av_add ix41 ix43 (by omega) (by omega)) (fun x44 ix44 => ?_)
                              refine rl_ltI (av_mul tn_16 i1 (by omega) (by omega)) (fun x45 ix45 => ?_)
                              refine rl_ltI (av_add ix45 ix44 (by omega) (by omega)) (fun x46 ix46 => ?_)
                              refine rl_ltI (av_mul tn_2 ix46 (by omega) (by omega)) (fun x47 ix47 => ?_)
                              refine rl_ltI (av_add ix47 i3 (by omega) (by omega)) (fun x48 ix48 => ?_)
                              refine rl_dr (cx_U ts25_2) (rx_c (a := 148) (k := 0) (b := 149) ts25_2 (Or.inr (Or.inr (Or.inl rfl))) rfl (by decide)) (fun gb49 => ?_)
                              refine rl_chk (chkl (cx_U ts25_2) gb49) (fun k32 => ?_)
                              refine rl_rd (wg_id wS_s25_2 ix48 (by omega) (by omega)) (fun x50 => ?_)
                              refine rl_bnd (Q := fun (y z : DD) => Up mu 144 s25_2 s25_2r y z) ?_ ?_
                              · refine rl_if (fun c33 => ?_) (fun c33 => ?_)
                                · have dc33 := tl_le (rfl : TI x50 x50.toInt) tn_0 c33
                                  exact rl_some (up_0 mu (κ := 144) _ _)
                                · have dc33 := tl_nle (rfl : TI x50 x50.toInt) tn_0 c33
                                  refine rl_dr (cx_U ts25_2) (rx_4 ts25_2 (cx_p t)) (fun gb54 => ?_)
                                  refine rl_chk (chkl (cx_U ts25_2) gb54) (fun k34 => ?_)
                                  refine rl_ltI (av_mul is25_1 iy23 (by omega) (by omega)) (fun x55 ix55 => ?_)
                                  refine rl_ltA (fun x56 => ?_)
                                  refine rl_bnd (Q := fun (y z : Int32) => y = z ∧ (0 ≤ y.toInt ∧ y.toInt ≤ 0)) ?_ ?_
                                  · refine rl_if (fun c35 => ?_) (fun c35 => ?_)
                                    · have dc35 := tl_eq i2 tn_0 c35
                                      exfalso
                                      omega
                                    · have dc35 := tl_ne i2 tn_0 c35
                                      exact rl_some ⟨rfl, (ti_bd tn_0 (by omega) (by omega))⟩
                                  · rintro y57 y57r ⟨ey57, ly57⟩
                                    obtain rfl : y57 = y57r := ey57
                                    have ly57 : 0 ≤ y57.toInt ∧ y57.toInt ≤ 0 := ly57
                                    have iy57 : TI y57 (0) := ti_c ly57
                                    obtain ⟨j36, hj36, ej36⟩ := rx_dv ts25_2 (cx_p t) i2 (by omega) (by omega)
                                    refine rl_bnd (r_filterLine ts25_2 ej36 (cx_p t) hj36 wP148_2_s25_2 wP148_3_s25_2 wP148_4_s25_2) ?_
                                    rintro y58 y58r uy58'
                                    have uy58 : Up mu 144 s25_2 s25_2r y58 y58r := uy58'
                                    have ty58 := cx_up ts25_2 uy58
                                    have wS_y58 := wg_up uy58 wS_s25_2
                                    have wP148_2_y58 := ag_up uy58 wP148_2_s25_2
                                    have wP148_3_y58 := ag_up uy58 wP148_3_s25_2
                                    have wP148_4_y58 := ag_up uy58 wP148_4_s25_2
                                    exact rl_some uy58
                              · rintro y51 y51r uy51
                                have uy51 : Up mu 144 s25_2 s25_2r y51 y51r := uy51
                                have ty51 := cx_up ts25_2 uy51
                                have wS_y51 := wg_up uy51 wS_s25_2
                                have wP148_2_y51 := ag_up uy51 wP148_2_s25_2
                                have wP148_3_y51 := ag_up uy51 wP148_3_s25_2
                                have wP148_4_y51 := ag_up uy51 wP148_4_s25_2
                                refine rl_ltI (av_add is25_1 tn_1 (by omega) (by omega)) (fun x52 ix52 => ?_)
                                exact rl_inl ⟨rfl, (ti_bd ix52 (by omega) (by omega)), (up_tr us25_2 uy51)⟩
                  · exact ⟨rfl, (ti_bd tn_0 (by omega) (by omega)), (up_0 mu (κ := 144) _ _)⟩
                  · rintro ⟨y24_1, y24_2⟩ ⟨y24_1r, y24_2r⟩ ⟨ey24_1, ly24_1, uy24_2⟩
                    obtain rfl : y24_1 = y24_1r := ey24_1
                    have ly24_1 : 0 ≤ y24_1.toInt ∧ y24_1.toInt ≤ y3.toInt := ly24_1
                    have iy24_1 : TI y24_1 y24_1.toInt := rfl
                    have uy24_2 : Up mu 144 y6 y6r y24_2 y24_2r := uy24_2
                    have ty24_2 := cx_up ty6 uy24_2
                    have wS_y24_2 := wg_up uy24_2 wS_y6
                    have wP148_2_y24_2 := ag_up uy24_2 vP148_2_y6
                    have wP148_3_y24_2 := ag_up uy24_2 vP148_3_y6
                    have wP148_4_y24_2 := ag_up uy24_2 vP148_4_y6
                    exact rl_some (up_tr uy6 uy24_2)
theorem r_farApart {mu : Nat → Nat} {G H : GG} {M N : DD} {p : Nat} {L : List Nat} (t : CX mu G H M N p L) {q : Nat} (hq : q ∈ L) {p0 : Int32} {p1 : Int32} : LKS (FX4_farApart G M q p0 p1) (FX4_farApart H N (mu q) p0 p1) (fun y z => Up mu 144 M N y.1 z.1 ∧ y.2 = z.2) := by
  unfold FX4_farApart
  refine rl_ltA (fun x1 => ?_)
  refine rl_dr (cx_U t) (rx_7 t hq) (fun gb2 => ?_)
  refine rl_chk (chkl (cx_U t) gb2) (fun k1 => ?_)
  refine rl_rd (cx_qj (j := 8) t hq (by decide) _) (fun x3 => ?_)
  refine rl_ltA (fun x4 => ?_)
  refine rl_chk (chkl (cx_U t) gb2) (fun k2 => ?_)
  refine rl_rd (cx_qj (j := 8) t hq (by decide) _) (fun x5 => ?_)
  refine rl_ltA (fun x6 => ?_)
  refine rl_ltA (fun x7 => ?_)
  refine rl_ltA (fun x8 => ?_)
  refine rl_chk (chkl (cx_U t) gb2) (fun k3 => ?_)
  refine rl_rd (cx_qj (j := 8) t hq (by decide) _) (fun x9 => ?_)
  refine rl_ltA (fun x10 => ?_)
  refine rl_ltA (fun x11 => ?_)
  refine rl_chk (chkl (cx_U t) gb2) (fun k4 => ?_)
  refine rl_rd (cx_qj (j := 8) t hq (by decide) _) (fun x12 => ?_)
  refine rl_ltA (fun x13 => ?_)
  refine rl_bnd (Q := fun (y z : Int32) => y = z ∧ (0 ≤ y.toInt ∧ y.toInt ≤ 1)) ?_ ?_
  · refine rl_if (fun c5 => ?_) (fun c5 => ?_)
    · have dc5 := tl_le tn_4 (rfl : TI x6 x6.toInt) c5
      exact rl_some ⟨rfl, (ti_bd tn_1 (by omega) (by omega))⟩
    · have dc5 := tl_nle tn_4 (rfl : TI x6 x6.toInt) c5
      refine rl_bnd (Q := fun (y z : Int32) => y = z ∧ (0 ≤ y.toInt ∧ y.toInt ≤ 1)) ?_ ?_
      · refine rl_if (fun c6 => ?_) (fun c6 => ?_)
        · have dc6 := tl_le (rfl : TI x6 x6.toInt) tn_m4 c6
          exact rl_some ⟨rfl, (ti_bd tn_1 (by omega) (by omega))⟩
        · have dc6 := tl_nle (rfl : TI x6 x6.toInt) tn_m4 c6
          refine rl_bnd (Q := fun (y z : Int32) => y = z ∧ (0 ≤ y.toInt ∧ y.toInt ≤ 1)) ?_ ?_
          · refine rl_if (fun c7 => ?_) (fun c7 => ?_)
            · have dc7 := tl_le tn_4 (rfl : TI x13 x13.toInt) c7
              exact rl_some ⟨rfl, (ti_bd tn_1 (by omega) (by omega))⟩
            · have dc7 := tl_nle tn_4 (rfl : TI x13 x13.toInt) c7
              refine rl_bnd (Q := fun (y z : Int32) => y = z ∧ (0 ≤ y.toInt ∧ y.toInt ≤ 1)) ?_ ?_
              · refine rl_if (fun c8 => ?_) (fun c8 => ?_)
                · have dc8 := tl_lt tn_m4 (rfl : TI x13 x13.toInt) c8
                  exact rl_some ⟨rfl, (ti_bd tn_0 (by omega) (by omega))⟩
                · have dc8 := tl_nlt tn_m4 (rfl : TI x13 x13.toInt) c8
                  exact rl_some ⟨rfl, (ti_bd tn_1 (by omega) (by omega))⟩
              · rintro y20 y20r ⟨ey20, ly20⟩
                obtain rfl : y20 = y20r := ey20
                have ly20 : 0 ≤ y20.toInt ∧ y20.toInt ≤ 1 := ly20
                have iy20 : TI y20 y20.toInt := rfl
                exact rl_some ⟨rfl, (ti_bd iy20 (by omega) (by omega))⟩
          · rintro y18 y18r ⟨ey18, ly18⟩
            obtain rfl : y18 = y18r := ey18
            have ly18 : 0 ≤ y18.toInt ∧ y18.toInt ≤ 1 := ly18
            have iy18 : TI y18 y18.toInt := rfl
            exact rl_some ⟨rfl, (ti_bd iy18 (by omega) (by omega))⟩
      · rintro y16 y16r ⟨ey16, ly16⟩
        obtain rfl : y16 = y16r := ey16
        have ly16 : 0 ≤ y16.toInt ∧ y16.toInt ≤ 1 := ly16
        have iy16 : TI y16 y16.toInt := rfl
        exact rl_some ⟨rfl, (ti_bd iy16 (by omega) (by omega))⟩
  · rintro y14 y14r ⟨ey14, ly14⟩
    obtain rfl : y14 = y14r := ey14
    have ly14 : 0 ≤ y14.toInt ∧ y14.toInt ≤ 1 := ly14
    have iy14 : TI y14 y14.toInt := rfl
    refine rl_chk (fun h => h) (fun k9 => ?_)
    exact rl_some ⟨(up_0 mu (κ := 144) _ _), rfl⟩
theorem r_movesApart {mu : Nat → Nat} {G H : GG} {M N : DD} {p : Nat} {L : List Nat} (t : CX mu G H M N p L) {q : Nat} (hq : q ∈ L) {p0 : Int32} {p1 : Int32} : LKS (FX4_movesApart G M q p0 p1) (FX4_movesApart H N (mu q) p0 p1) (fun y z => Up mu 144 M N y.1 z.1 ∧ y.2 = z.2) := by
  unfold FX4_movesApart
  refine rl_dr (cx_U t) (rx_6 t hq) (fun gb2 => ?_)
  refine rl_chk (chkl (cx_U t) gb2) (fun k1 => ?_)
  refine rl_rd (cx_qj (j := 7) t hq (by decide) _) (fun x3 => ?_)
  refine rl_ltA (fun x4 => ?_)
  refine rl_chk (chkl (cx_U t) gb2) (fun k2 => ?_)
  refine rl_rd (cx_qj (j := 7) t hq (by decide) _) (fun x5 => ?_)
  refine rl_chk (chkl (cx_U t) gb2) (fun k3 => ?_)
  refine rl_rd (cx_qj (j := 7) t hq (by decide) _) (fun x6 => ?_)
  refine rl_ltA (fun x7 => ?_)
  refine rl_chk (chkl (cx_U t) gb2) (fun k4 => ?_)
  refine rl_rd (cx_qj (j := 7) t hq (by decide) _) (fun x8 => ?_)
  refine rl_bnd (Q := fun (y z : Int32) => y = z ∧ (0 ≤ y.toInt ∧ y.toInt ≤ 1)) ?_ ?_
  · refine rl_if (fun c5 => ?_) (fun c5 => ?_)
    · have dc5 := tl_eq (rfl : TI x3 x3.toInt) (rfl : TI x6 x6.toInt) c5
      refine rl_bnd (Q := fun (y z : Int32) => y = z ∧ (0 ≤ y.toInt ∧ y.toInt ≤ 1)) ?_ ?_
      · refine rl_if (fun c6 => ?_) (fun c6 => ?_)
        · have dc6 := tl_eq (rfl : TI x5 x5.toInt) (rfl : TI x8 x8.toInt) c6
          exact rl_some ⟨rfl, (ti_bd tn_1 (by omega) (by omega))⟩
        · exact rl_some ⟨rfl, (ti_bd tn_0 (by omega) (by omega))⟩
      · rintro y64 y64r ⟨ey64, ly64⟩
        obtain rfl : y64 = y64r := ey64
        have ly64 : 0 ≤ y64.toInt ∧ y64.toInt ≤ 1 := ly64
        have iy64 : TI y64 y64.toInt := rfl
        exact rl_some ⟨rfl, (ti_bd iy64 (by omega) (by omega))⟩
    · exact rl_some ⟨rfl, (ti_bd tn_0 (by omega) (by omega))⟩
  · rintro y9 y9r ⟨ey9, ly9⟩
    obtain rfl : y9 = y9r := ey9
    have ly9 : 0 ≤ y9.toInt ∧ y9.toInt ≤ 1 := ly9
    have iy9 : TI y9 y9.toInt := rfl
    refine rl_bnd (Q := fun (y z : Int32) => y = z ∧ (0 ≤ y.toInt ∧ y.toInt ≤ 1)) ?_ ?_
    · refine rl_if (fun c7 => ?_) (fun c7 => ?_)
      · have dc7 := tl_eq (rfl : TI x3 x3.toInt) (rfl : TI x8 x8.toInt) c7
        refine rl_bnd (Q := fun (y z : Int32) => y = z ∧ (0 ≤ y.toInt ∧ y.toInt ≤ 1)) ?_ ?_
        · refine rl_if (fun c8 => ?_) (fun c8 => ?_)
          · have dc8 := tl_eq (rfl : TI x5 x5.toInt) (rfl : TI x6 x6.toInt) c8
            exact rl_some ⟨rfl, (ti_bd tn_1 (by omega) (by omega))⟩
          · exact rl_some ⟨rfl, (ti_bd tn_0 (by omega) (by omega))⟩
        · rintro y61 y61r ⟨ey61, ly61⟩
          obtain rfl : y61 = y61r := ey61
          have ly61 : 0 ≤ y61.toInt ∧ y61.toInt ≤ 1 := ly61
          have iy61 : TI y61 y61.toInt := rfl
          exact rl_some ⟨rfl, (ti_bd iy61 (by omega) (by omega))⟩
      · exact rl_some ⟨rfl, (ti_bd tn_0 (by omega) (by omega))⟩
    · rintro y10 y10r ⟨ey10, ly10⟩
      obtain rfl : y10 = y10r := ey10
      have ly10 : 0 ≤ y10.toInt ∧ y10.toInt ≤ 1 := ly10
      have iy10 : TI y10 y10.toInt := rfl
      refine rl_bnd (Q := fun (y z : Int32 × DD) => y.1 = z.1 ∧ (0 ≤ y.1.toInt ∧ y.1.toInt ≤ 1) ∧ Up mu 144 M N y.2 z.2) ?_ ?_
      · refine rl_if (fun c9 => ?_) (fun c9 => ?_)
        · have dc9 := tl_eq (rfl : TI x3 x3.toInt) tn_0 c9
          refine rl_bnd (Q := fun (y z : Int32 × DD) => y.1 = z.1 ∧ (0 ≤ y.1.toInt ∧ y.1.toInt ≤ 1) ∧ Up mu 144 M N y.2 z.2) ?_ ?_
          · refine rl_if (fun c10 => ?_) (fun c10 => ?_)
            · have dc10 := tl_eq (rfl : TI x5 x5.toInt) tn_0 c10
              exact rl_some ⟨rfl, (ti_bd tn_0 (by omega) (by omega)), (up_0 mu (κ := 144) _ _)⟩
            · refine rl_ltA (fun x45 => ?_)
              refine rl_ltA (fun x46 => ?_)
              refine rl_bnd (r_farApart t hq) ?_
              rintro ⟨y47_1, y47_2⟩ ⟨y47_1r, y47_2r⟩ ⟨uy47_1', ey47_2⟩
              have uy47_1 : Up mu 144 M N y47_1 y47_1r := uy47_1'
              have ty47_1 := cx_up t uy47_1
              obtain rfl : y47_2 = y47_2r := ey47_2
              refine rl_bnd (Q := fun (y z : Int32) => y = z ∧ (0 ≤ y.toInt ∧ y.toInt ≤ 1)) ?_ ?_
              · refine rl_if (fun c11 => ?_) (fun c11 => ?_)
                · have dc11 := tl_eq (rfl : TI y47_2 y47_2.toInt) tn_0 c11
                  exact rl_some ⟨rfl, (ti_bd tn_0 (by omega) (by omega))⟩
                · exact rl_some ⟨rfl, (ti_bd tn_1 (by omega) (by omega))⟩
              · rintro y48 y48r ⟨ey48, ly48⟩
                obtain rfl : y48 = y48r := ey48
                have ly48 : 0 ≤ y48.toInt ∧ y48.toInt ≤ 1 := ly48
                have iy48 : TI y48 y48.toInt := rfl
                exact rl_some ⟨rfl, (ti_bd iy48 (by omega) (by omega)), uy47_1⟩
          · rintro ⟨y43_1, y43_2⟩ ⟨y43_1r, y43_2r⟩ ⟨ey43_1, ly43_1, uy43_2⟩
            obtain rfl : y43_1 = y43_1r := ey43_1
            have ly43_1 : 0 ≤ y43_1.toInt ∧ y43_1.toInt ≤ 1 := ly43_1
            have iy43_1 : TI y43_1 y43_1.toInt := rfl
            have uy43_2 : Up mu 144 M N y43_2 y43_2r := uy43_2
            have ty43_2 := cx_up t uy43_2
            exact rl_some ⟨rfl, (ti_bd iy43_1 (by omega) (by omega)), uy43_2⟩
        · refine rl_bnd (r_farApart t hq) ?_
          rintro ⟨y50_1, y50_2⟩ ⟨y50_1r, y50_2r⟩ ⟨uy50_1', ey50_2⟩
          have uy50_1 : Up mu 144 M N y50_1 y50_1r := uy50_1'
          have ty50_1 := cx_up t uy50_1
          obtain rfl : y50_2 = y50_2r := ey50_2
          refine rl_bnd (Q := fun (y z : Int32 × DD) => y.1 = z.1 ∧ (0 ≤ y.1.toInt ∧ y.1.toInt ≤ 1) ∧ Up mu 144 y50_1 y50_1r y.2 z.2) ?_ ?_
          · refine rl_if (fun c12 => ?_) (fun c12 => ?_)
            · have dc12 := tl_eq (rfl : TI y50_2 y50_2.toInt) tn_0 c12
              refine rl_bnd (Q := fun (y z : Int32 × DD) => y.1 = z.1 ∧ (0 ≤ y.1.toInt ∧ y.1.toInt ≤ 1) ∧ Up mu 144 y50_1 y50_1r y.2 z.2) ?_ ?_
              · refine rl_if (fun c13 => ?_) (fun c13 => ?_)
                · have dc13 := tl_eq (rfl : TI x5 x5.toInt) tn_0 c13
                  exact rl_some ⟨rfl, (ti_bd tn_0 (by omega) (by omega)), (up_0 mu (κ := 144) _ _)⟩
                · refine rl_ltA (fun x55 => ?_)
                  refine rl_ltA (fun x56 => ?_)
                  refine rl_bnd (r_farApart ty50_1 hq) ?_
                  rintro ⟨y57_1, y57_2⟩ ⟨y57_1r, y57_2r⟩ ⟨uy57_1', ey57_2⟩
                  have uy57_1 : Up mu 144 y50_1 y50_1r y57_1 y57_1r := uy57_1'
                  have ty57_1 := cx_up ty50_1 uy57_1
                  obtain rfl : y57_2 = y57_2r := ey57_2
                  refine rl_bnd (Q := fun (y z : Int32) => y = z ∧ (0 ≤ y.toInt ∧ y.toInt ≤ 1)) ?_ ?_
                  · refine rl_if (fun c14 => ?_) (fun c14 => ?_)
                    · have dc14 := tl_eq (rfl : TI y57_2 y57_2.toInt) tn_0 c14
                      exact rl_some ⟨rfl, (ti_bd tn_0 (by omega) (by omega))⟩
                    · exact rl_some ⟨rfl, (ti_bd tn_1 (by omega) (by omega))⟩
                  · rintro y58 y58r ⟨ey58, ly58⟩
                    obtain rfl : y58 = y58r := ey58
                    have ly58 : 0 ≤ y58.toInt ∧ y58.toInt ≤ 1 := ly58
                    have iy58 : TI y58 y58.toInt := rfl
                    exact rl_some ⟨rfl, (ti_bd iy58 (by omega) (by omega)), uy57_1⟩
              · rintro ⟨y53_1, y53_2⟩ ⟨y53_1r, y53_2r⟩ ⟨ey53_1, ly53_1, uy53_2⟩
                obtain rfl : y53_1 = y53_1r := ey53_1
                have ly53_1 : 0 ≤ y53_1.toInt ∧ y53_1.toInt ≤ 1 := ly53_1
                have iy53_1 : TI y53_1 y53_1.toInt := rfl
                have uy53_2 : Up mu 144 y50_1 y50_1r y53_2 y53_2r := uy53_2
                have ty53_2 := cx_up ty50_1 uy53_2
                exact rl_some ⟨rfl, (ti_bd iy53_1 (by omega) (by omega)), uy53_2⟩
            · exact rl_some ⟨rfl, (ti_bd tn_1 (by omega) (by omega)), (up_0 mu (κ := 144) _ _)⟩
          · rintro ⟨y51_1, y51_2⟩ ⟨y51_1r, y51_2r⟩ ⟨ey51_1, ly51_1, uy51_2⟩
            obtain rfl : y51_1 = y51_1r := ey51_1
            have ly51_1 : 0 ≤ y51_1.toInt ∧ y51_1.toInt ≤ 1 := ly51_1
            have iy51_1 : TI y51_1 y51_1.toInt := rfl
            have uy51_2 : Up mu 144 y50_1 y50_1r y51_2 y51_2r := uy51_2
            have ty51_2 := cx_up ty50_1 uy51_2
            exact rl_some ⟨rfl, (ti_bd iy51_1 (by omega) (by omega)), (up_tr uy50_1 uy51_2)⟩
      · rintro ⟨y11_1, y11_2⟩ ⟨y11_1r, y11_2r⟩ ⟨ey11_1, ly11_1, uy11_2⟩
        obtain rfl : y11_1 = y11_1r := ey11_1
        have ly11_1 : 0 ≤ y11_1.toInt ∧ y11_1.toInt ≤ 1 := ly11_1
        have iy11_1 : TI y11_1 y11_1.toInt := rfl
        have uy11_2 : Up mu 144 M N y11_2 y11_2r := uy11_2
        have ty11_2 := cx_up t uy11_2
        refine rl_bnd (Q := fun (y z : Int32 × DD) => y.1 = z.1 ∧ (0 ≤ y.1.toInt ∧ y.1.toInt ≤ 1) ∧ Up mu 144 y11_2 y11_2r y.2 z.2) ?_ ?_
        · refine rl_if (fun c15 => ?_) (fun c15 => ?_)
          · have dc15 := tl_eq (rfl : TI x3 x3.toInt) tn_0 c15
            refine rl_bnd (Q := fun (y z : Int32 × DD) => y.1 = z.1 ∧ (0 ≤ y.1.toInt ∧ y.1.toInt ≤ 1) ∧ Up mu 144 y11_2 y11_2r y.2 z.2) ?_ ?_
            · refine rl_if (fun c16 => ?_) (fun c16 => ?_)
              · have dc16 := tl_eq (rfl : TI x5 x5.toInt) tn_0 c16
                exact rl_some ⟨rfl, (ti_bd tn_0 (by omega) (by omega)), (up_0 mu (κ := 144) _ _)⟩
              · refine rl_ltA (fun x28 => ?_)
                refine rl_bnd (r_farApart ty11_2 hq) ?_
                rintro ⟨y29_1, y29_2⟩ ⟨y29_1r, y29_2r⟩ ⟨uy29_1', ey29_2⟩
                have uy29_1 : Up mu 144 y11_2 y11_2r y29_1 y29_1r := uy29_1'
                have ty29_1 := cx_up ty11_2 uy29_1
                obtain rfl : y29_2 = y29_2r := ey29_2
                refine rl_bnd (Q := fun (y z : Int32) => y = z ∧ (0 ≤ y.toInt ∧ y.toInt ≤ 1)) ?_ ?_
                · refine rl_if (fun c17 => ?_) (fun c17 => ?_)
                  · have dc17 := tl_eq (rfl : TI y29_2 y29_2.toInt) tn_0 c17
                    exact rl_some ⟨rfl, (ti_bd tn_0 (by omega) (by omega))⟩
                  · exact rl_some ⟨rfl, (ti_bd tn_1 (by omega) (by omega))⟩
                · rintro y30 y30r ⟨ey30, ly30⟩
                  obtain rfl : y30 = y30r := ey30
                  have ly30 : 0 ≤ y30.toInt ∧ y30.toInt ≤ 1 := ly30
                  have iy30 : TI y30 y30.toInt := rfl
                  exact rl_some ⟨rfl, (ti_bd iy30 (by omega) (by omega)), uy29_1⟩
            · rintro ⟨y26_1, y26_2⟩ ⟨y26_1r, y26_2r⟩ ⟨ey26_1, ly26_1, uy26_2⟩
              obtain rfl : y26_1 = y26_1r := ey26_1
              have ly26_1 : 0 ≤ y26_1.toInt ∧ y26_1.toInt ≤ 1 := ly26_1
              have iy26_1 : TI y26_1 y26_1.toInt := rfl
              have uy26_2 : Up mu 144 y11_2 y11_2r y26_2 y26_2r := uy26_2
              have ty26_2 := cx_up ty11_2 uy26_2
              exact rl_some ⟨rfl, (ti_bd iy26_1 (by omega) (by omega)), uy26_2⟩
          · refine rl_ltA (fun x32 => ?_)
            refine rl_bnd (r_farApart ty11_2 hq) ?_
            rintro ⟨y33_1, y33_2⟩ ⟨y33_1r, y33_2r⟩ ⟨uy33_1', ey33_2⟩
            have uy33_1 : Up mu 144 y11_2 y11_2r y33_1 y33_1r := uy33_1'
            have ty33_1 := cx_up ty11_2 uy33_1
            obtain rfl : y33_2 = y33_2r := ey33_2
            refine rl_bnd (Q := fun (y z : Int32 × DD) => y.1 = z.1 ∧ (0 ≤ y.1.toInt ∧ y.1.toInt ≤ 1) ∧ Up mu 144 y33_1 y33_1r y.2 z.2) ?_ ?_
            · refine rl_if (fun c18 => ?_) (fun c18 => ?_)
              · have dc18 := tl_eq (rfl : TI y33_2 y33_2.toInt) tn_0 c18
                refine rl_bnd (Q := fun (y z : Int32 × DD) => y.1 = z.1 ∧ (0 ≤ y.1.toInt ∧ y.1.toInt ≤ 1) ∧ Up mu 144 y33_1 y33_1r y.2 z.2) ?_ ?_
                · refine rl_if (fun c19 => ?_) (fun c19 => ?_)
                  · have dc19 := tl_eq (rfl : TI x5 x5.toInt) tn_0 c19
                    exact rl_some ⟨rfl, (ti_bd tn_0 (by omega) (by omega)), (up_0 mu (κ := 144) _ _)⟩
                  · refine rl_ltA (fun x38 => ?_)
                    refine rl_bnd (r_farApart ty33_1 hq) ?_
                    rintro ⟨y39_1, y39_2⟩ ⟨y39_1r, y39_2r⟩ ⟨uy39_1', ey39_2⟩
                    have uy39_1 : Up mu 144 y33_1 y33_1r y39_1 y39_1r := uy39_1'
                    have ty39_1 := cx_up ty33_1 uy39_1
                    obtain rfl : y39_2 = y39_2r := ey39_2
                    refine rl_bnd (Q := fun (y z : Int32) => y = z ∧ (0 ≤ y.toInt ∧ y.toInt ≤ 1)) ?_ ?_
                    · refine rl_if (fun c20 => ?_) (fun c20 => ?_)
                      · have dc20 := tl_eq (rfl : TI y39_2 y39_2.toInt) tn_0 c20
                        exact rl_some ⟨rfl, (ti_bd tn_0 (by omega) (by omega))⟩
                      · exact rl_some ⟨rfl, (ti_bd tn_1 (by omega) (by omega))⟩
                    · rintro y40 y40r ⟨ey40, ly40⟩
                      obtain rfl : y40 = y40r := ey40
                      have ly40 : 0 ≤ y40.toInt ∧ y40.toInt ≤ 1 := ly40
                      have iy40 : TI y40 y40.toInt := rfl
                      exact rl_some ⟨rfl, (ti_bd iy40 (by omega) (by omega)), uy39_1⟩
                · rintro ⟨y36_1, y36_2⟩ ⟨y36_1r, y36_2r⟩ ⟨ey36_1, ly36_1, uy36_2⟩
                  obtain rfl : y36_1 = y36_1r := ey36_1
                  have ly36_1 : 0 ≤ y36_1.toInt ∧ y36_1.toInt ≤ 1 := ly36_1
                  have iy36_1 : TI y36_1 y36_1.toInt := rfl
                  have uy36_2 : Up mu 144 y33_1 y33_1r y36_2 y36_2r := uy36_2
                  have ty36_2 := cx_up ty33_1 uy36_2
                  exact rl_some ⟨rfl, (ti_bd iy36_1 (by omega) (by omega)), uy36_2⟩
              · exact rl_some ⟨rfl, (ti_bd tn_1 (by omega) (by omega)), (up_0 mu (κ := 144) _ _)⟩
            · rintro ⟨y34_1, y34_2⟩ ⟨y34_1r, y34_2r⟩ ⟨ey34_1, ly34_1, uy34_2⟩
              obtain rfl : y34_1 = y34_1r := ey34_1
              have ly34_1 : 0 ≤ y34_1.toInt ∧ y34_1.toInt ≤ 1 := ly34_1
              have iy34_1 : TI y34_1 y34_1.toInt := rfl
              have uy34_2 : Up mu 144 y33_1 y33_1r y34_2 y34_2r := uy34_2
              have ty34_2 := cx_up ty33_1 uy34_2
              exact rl_some ⟨rfl, (ti_bd iy34_1 (by omega) (by omega)), (up_tr uy33_1 uy34_2)⟩
        · rintro ⟨y12_1, y12_2⟩ ⟨y12_1r, y12_2r⟩ ⟨ey12_1, ly12_1, uy12_2⟩
          obtain rfl : y12_1 = y12_1r := ey12_1
          have ly12_1 : 0 ≤ y12_1.toInt ∧ y12_1.toInt ≤ 1 := ly12_1
          have iy12_1 : TI y12_1 y12_1.toInt := rfl
          have uy12_2 : Up mu 144 y11_2 y11_2r y12_2 y12_2r := uy12_2
          have ty12_2 := cx_up ty11_2 uy12_2
          refine rl_bnd (Q := fun (y z : Int32) => y = z ∧ (0 ≤ y.toInt ∧ y.toInt ≤ 1)) ?_ ?_
          · refine rl_if (fun c21 => ?_) (fun c21 => ?_)
            · have dc21 := tl_eq iy9 tn_0 c21
              refine rl_bnd (Q := fun (y z : Int32) => y = z ∧ (0 ≤ y.toInt ∧ y.toInt ≤ 1)) ?_ ?_
              · refine rl_if (fun c22 => ?_) (fun c22 => ?_)
                · have dc22 := tl_eq iy10 tn_0 c22
                  exact rl_some ⟨rfl, (ti_bd tn_1 (by omega) (by omega))⟩
                · refine rl_bnd (Q := fun (y z : Int32) => y = z ∧ (0 ≤ y.toInt ∧ y.toInt ≤ 1)) ?_ ?_
                  · refine rl_if (fun c23 => ?_) (fun c23 => ?_)
                    · have dc23 := tl_eq iy12_1 tn_0 c23
                      exact rl_some ⟨rfl, (ti_bd tn_0 (by omega) (by omega))⟩
                    · exact rl_some ⟨rfl, (ti_bd tn_1 (by omega) (by omega))⟩
                  · rintro y17 y17r ⟨ey17, ly17⟩
                    obtain rfl : y17 = y17r := ey17
                    have ly17 : 0 ≤ y17.toInt ∧ y17.toInt ≤ 1 := ly17
                    have iy17 : TI y17 y17.toInt := rfl
                    exact rl_some ⟨rfl, (ti_bd iy17 (by omega) (by omega))⟩
              · rintro y15 y15r ⟨ey15, ly15⟩
                obtain rfl : y15 = y15r := ey15
                have ly15 : 0 ≤ y15.toInt ∧ y15.toInt ≤ 1 := ly15
                have iy15 : TI y15 y15.toInt := rfl
                exact rl_some ⟨rfl, (ti_bd iy15 (by omega) (by omega))⟩
            · refine rl_bnd (Q := fun (y z : Int32) => y = z ∧ (0 ≤ y.toInt ∧ y.toInt ≤ 1)) ?_ ?_
              · refine rl_if (fun c24 => ?_) (fun c24 => ?_)
                · have dc24 := tl_eq iy11_1 tn_0 c24
                  exact rl_some ⟨rfl, (ti_bd tn_0 (by omega) (by omega))⟩
                · refine rl_bnd (Q := fun (y z : Int32) => y = z ∧ (0 ≤ y.toInt ∧ y.toInt ≤ 1)) ?_ ?_
                  · refine rl_if (fun c25 => ?_) (fun c25 => ?_)
                    · have dc25 := tl_eq iy10 tn_0 c25
                      exact rl_some ⟨rfl, (ti_bd tn_1 (by omega) (by omega))⟩
                    · refine rl_bnd (Q := fun (y z : Int32) => y = z ∧ (0 ≤ y.toInt ∧ y.toInt ≤ 1)) ?_ ?_
                      · refine rl_if (fun c26 => ?_) (fun c26 => ?_)
                        · have dc26 := tl_eq iy12_1 tn_0 c26
                          exact rl_some ⟨rfl, (ti_bd tn_0 (by omega) (by omega))⟩
                        · exact rl_some ⟨rfl, (ti_bd tn_1 (by omega) (by omega))⟩
                      · rintro y23 y23r ⟨ey23, ly23⟩
                        obtain rfl : y23 = y23r := ey23
                        have ly23 : 0 ≤ y23.toInt ∧ y23.toInt ≤ 1 := ly23
                        have iy23 : TI y23 y23.toInt := rfl
                        exact rl_some ⟨rfl, (ti_bd iy23 (by omega) (by omega))⟩
                  · rintro y21 y21r ⟨ey21, ly21⟩
                    obtain rfl : y21 = y21r := ey21
                    have ly21 : 0 ≤ y21.toInt ∧ y21.toInt ≤ 1 := ly21
                    have iy21 : TI y21 y21.toInt := rfl
                    exact rl_some ⟨rfl, (ti_bd iy21 (by omega) (by omega))⟩
              · rintro y19 y19r ⟨ey19, ly19⟩
                obtain rfl : y19 = y19r := ey19
                have ly19 : 0 ≤ y19.toInt ∧ y19.toInt ≤ 1 := ly19
                have iy19 : TI y19 y19.toInt := rfl
                exact rl_some ⟨rfl, (ti_bd iy19 (by omega) (by omega))⟩
          · rintro y13 y13r ⟨ey13, ly13⟩
            obtain rfl : y13 = y13r := ey13
            have ly13 : 0 ≤ y13.toInt ∧ y13.toInt ≤ 1 := ly13
            have iy13 : TI y13 y13.toInt := rfl
            refine rl_chk (fun h => h) (fun k27 => ?_)
            exact rl_some ⟨(up_tr uy11_2 uy12_2), rfl⟩
theorem r_strengthOf {mu : Nat → Nat} {G H : GG} {M N : DD} {p : Nat} {L : List Nat} (t : CX mu G H M N p L) {p0 p0r : Option Nat} (e0 : p0 = some 125 ∧ p0r = some (mu 125)) {p1 : Int32} {p2 : Int32} : LKS (FX2_strengthOf G M p0 p1 p2) (FX2_strengthOf H N p0r p1 p2) (fun y z => Up mu 144 M N y.1 z.1 ∧ y.2 = z.2) := by
  unfold FX2_strengthOf
  obtain ⟨rfl, rfl⟩ := e0
  refine rl_ltA (fun x1 => ?_)
  refine rl_ltA (fun x2 => ?_)
  refine rl_dr (cx_U t) ⟨rfl, rfl⟩ (fun gb3 => ?_)
  refine rl_ltE (fun x4 ex4 => ?_)
  refine rl_ltE (fun x5 ex5 => ?_)
  refine rl_dr (cx_U t) (rx_c (a := 125) (k := 6) (b := 129) t (Or.inl rfl) rfl (by decide)) (fun gb6 => ?_)
  refine rl_chk (chkl (cx_U t) gb6) (fun k1 => ?_)
  refine rl_rd (cx_i8 t (by rw [ex5, ex4]) k1 (by decide)) (fun x7 => ?_)
  refine rl_if (fun c2 => ?_) (fun c2 => ?_)
  · have dc2 := tl_eq (rfl : TI x7 x7.toInt) tn_3 c2
    refine rl_ltE (fun x11 ex11 => ?_)
    refine rl_ltE (fun x12 ex12 => ?_)
    refine rl_chk (chkl (cx_U t) gb6) (fun k3 => ?_)
    refine rl_rd (cx_i8 t (by rw [ex12, ex11]) k3 (by decide)) (fun x13 => ?_)
    refine rl_if (fun c4 => ?_) (fun c4 => ?_)
    · have dc4 := tl_eq (rfl : TI x13 x13.toInt) tn_3 c4
      refine rl_ltA (fun x15 => ?_)
      refine rl_ltI (av_and 4 (rfl : TI p1 p1.toInt) (by decide) (by decide)) (fun x16 ix16 => ?_)
      refine rl_ltA (fun x17 => ?_)
      refine rl_dr (cx_U t) (rx_c (a := 125) (k := 8) (b := 131) t (Or.inl rfl) rfl (by decide)) (fun gb18 => ?_)
      refine rl_chk (chkl (cx_U t) gb18) (fun k5 => ?_)
      refine rl_rd (cx_r t _ (Or.inr (Or.inl rfl))) (fun x19 => ?_)
      refine rl_if (fun c6 => ?_) (fun c6 => ?_)
      · have dc6 := tl_lt tn_0 (rfl : TI x19 x19.toInt) c6
        exact rl_some ⟨(up_0 mu (κ := 144) _ _), rfl⟩
      · have dc6 := tl_nlt tn_0 (rfl : TI x19 x19.toInt) c6
        refine rl_ltA (fun x21 => ?_)
        refine rl_ltI (av_and 4 (rfl : TI p2 p2.toInt) (by decide) (by decide)) (fun x22 ix22 => ?_)
        refine rl_ltA (fun x23 => ?_)
        refine rl_chk (chkl (cx_U t) gb18) (fun k7 => ?_)
        refine rl_rd (cx_r t _ (Or.inr (Or.inl rfl))) (fun x24 => ?_)
        refine rl_if (fun c8 => ?_) (fun c8 => ?_)
        · have dc8 := tl_le (rfl : TI x24 x24.toInt) tn_0 c8
          refine rl_dr (cx_U t) (rx_p t) (fun gb26 => ?_)
          refine rl_bnd (r_movesApart t (cx_p t)) ?_
          rintro ⟨y27_1, y27_2⟩ ⟨y27_1r, y27_2r⟩ ⟨uy27_1', ey27_2⟩
          have uy27_1 : Up mu 144 M N y27_1 y27_1r := uy27_1'
          have ty27_1 := cx_up t uy27_1
          obtain rfl : y27_2 = y27_2r := ey27_2
          refine rl_bnd (Q := fun (y z : Int32) => y = z ∧ (0 ≤ y.toInt ∧ y.toInt ≤ 1)) ?_ ?_
          · refine rl_if (fun c9 => ?_) (fun c9 => ?_)
            · have dc9 := tl_eq (rfl : TI y27_2 y27_2.toInt) tn_0 c9
              exact rl_some ⟨rfl, (ti_bd tn_0 (by omega) (by omega))⟩
            · exact rl_some ⟨rfl, (ti_bd tn_1 (by omega) (by omega))⟩
          · rintro y28 y28r ⟨ey28, ly28⟩
            obtain rfl : y28 = y28r := ey28
            have ly28 : 0 ≤ y28.toInt ∧ y28.toInt ≤ 1 := ly28
            have iy28 : TI y28 y28.toInt := rfl
            exact rl_some ⟨uy27_1, rfl⟩
        · have dc8 := tl_nle (rfl : TI x24 x24.toInt) tn_0 c8
          exact rl_some ⟨(up_0 mu (κ := 144) _ _), rfl⟩
    · refine rl_bnd (Q := fun (y z : Int32) => y = z ∧ (3 ≤ y.toInt ∧ y.toInt ≤ 4)) ?_ ?_
      · refine rl_if (fun c10 => ?_) (fun c10 => ?_)
        · have dc10 := tl_eq (rfl : TI x1 x1.toInt) (rfl : TI x2 x2.toInt) c10
          exact rl_some ⟨rfl, (ti_bd tn_3 (by omega) (by omega))⟩
        · exact rl_some ⟨rfl, (ti_bd tn_4 (by omega) (by omega))⟩
      · rintro y30 y30r ⟨ey30, ly30⟩
        obtain rfl : y30 = y30r := ey30
        have ly30 : 3 ≤ y30.toInt ∧ y30.toInt ≤ 4 := ly30
        have iy30 : TI y30 y30.toInt := rfl
        exact rl_some ⟨(up_0 mu (κ := 144) _ _), rfl⟩
  · refine rl_bnd (Q := fun (y z : Int32) => y = z ∧ (3 ≤ y.toInt ∧ y.toInt ≤ 4)) ?_ ?_
    · refine rl_if (fun c11 => ?_) (fun c11 => ?_)
      · have dc11 := tl_eq (rfl : TI x1 x1.toInt) (rfl : TI x2 x2.toInt) c11
        exact rl_some ⟨rfl, (ti_bd tn_3 (by omega) (by omega))⟩
      · exact rl_some ⟨rfl, (ti_bd tn_4 (by omega) (by omega))⟩
    · rintro y9 y9r ⟨ey9, ly9⟩
      obtain rfl : y9 = y9r := ey9
      have ly9 : 3 ≤ y9.toInt ∧ y9.toInt ≤ 4 := ly9
      have iy9 : TI y9 y9.toInt := rfl
      exact rl_some ⟨(up_0 mu (κ := 144) _ _), rfl⟩
theorem r2_measure {mu : Nat → Nat} {G H : GG} {M N : DD} {p : Nat} {L : List Nat} (t : CX mu G H M N p L) {p0 p0r : Option Nat} (e0 : p0 = some 125 ∧ p0r = some (mu 125)) {p1 : Int32} {a1 : Int} (i1 : TI p1 a1) (h0 : 0 ≤ a1) (h1 : a1 ≤ 31) : LKS (FX2_measure G M 148 p0 p1) (FX2_measure H N (mu 148) p0r p1) (fun y z => Up mu 144 M N y z ∧ WG mu y z 149 (32 * a1) (32 * a1 + 32) (fun j => j)) := by
  unfold FX2_measure
  obtain ⟨rfl, rfl⟩ := e0
  refine rl_dr (cx_U t) ⟨rfl, rfl⟩ (fun gb2 => ?_)
  refine rl_dr (cx_U t) (rx_p t) (fun gb3 => ?_)
  refine rl_rd (cx_q (j := 0) (k := 1) t (cx_p t) rfl) (fun x4 => ?_)
  refine rl_ltI (av_mul tn_3 i1 (by omega) (by omega)) (fun x5 ix5 => ?_)
  refine rl_dr (cx_U t) (rx_c (a := 125) (k := 10) (b := 133) t (Or.inl rfl) rfl (by decide)) (fun gb6 => ?_)
  refine rl_chk (chkl (cx_U t) gb6) (fun k1 => ?_)
  refine rl_rd (cx_r t _ (Or.inr (Or.inr (Or.inr rfl)))) (fun x7 => ?_)
  refine rl_bnd (Q := fun (y z : Int32 × DD) => y.1 = z.1 ∧ (0 ≤ y.1.toInt ∧ y.1.toInt ≤ 2) ∧ Up mu 144 M N y.2 z.2 ∧ WQ mu y.2 z.2 149 (2) (16) (fun r x => 2 * (16 * a1 + x) + r)) (rl_itr (fun (y z : Int32 × DD) => y.1 = z.1 ∧ (0 ≤ y.1.toInt ∧ y.1.toInt ≤ 2) ∧ Up mu 144 M N y.2 z.2 ∧ WQ mu y.2 z.2 149 (y.1.toInt) (16) (fun r x => 2 * (16 * a1 + x) + r)) _ ?_ _ _ _ ?_) ?_
  · rintro ⟨s9_1, s9_2⟩ ⟨s9_1r, s9_2r⟩ ⟨es9_1, ls9_1, us9_2, vS_s9_2⟩
    obtain rfl : s9_1 = s9_1r := es9_1
    have ls9_1 : 0 ≤ s9_1.toInt ∧ s9_1.toInt ≤ 2 := ls9_1
    have is9_1 : TI s9_1 s9_1.toInt := rfl
    have us9_2 : Up mu 144 M N s9_2 s9_2r := us9_2
    have ts9_2 := cx_up t us9_2
    have vS_s9_2 : WQ mu s9_2 s9_2r 149 (s9_1.toInt) (16) (fun r x => 2 * (16 * a1 + x) + r) := vS_s9_2
    refine rl_if (fun c2 => ?_) (fun c2 => ?_)
    · have dc2 := tl_le tn_2 is9_1 c2
      exact rl_inr ⟨rfl, (ti_bd is9_1 (by omega) (by omega)), us9_2, (wq_sub vS_s9_2 (by omega))⟩
    · have dc2 := tl_nle tn_2 is9_1 c2
      refine rl_bnd (Q := fun (y z : Int32) => y = z) ?_ ?_
      · refine rl_if (fun c3 => ?_) (fun c3 => ?_)
        · have dc3 := tl_eq is9_1 tn_0 c3
          refine rl_chk (fun h => h) (fun k4 => ?_)
          refine rl_ltA (fun x102 => ?_)
          refine rl_bnd (Q := fun (y z : Int32) => y = z ∧ (-1 ≤ y.toInt ∧ y.toInt ≤ 30)) ?_ ?_
          · refine rl_if (fun c5 => ?_) (fun c5 => ?_)
            · have dc5 := tl_le (rfl : TI x102 x102.toInt) tn_0 c5
              exact rl_some ⟨rfl, (ti_bd tn_m1 (by omega) (by omega))⟩
            · have dc5 := tl_nle (rfl : TI x102 x102.toInt) tn_0 c5
              refine rl_ltI (av_sub i1 tn_1 (by omega) (by omega)) (fun x105 ix105 => ?_)
              exact rl_some ⟨rfl, (ti_bd ix105 (by omega) (by omega))⟩
          · rintro y103 y103r ⟨ey103, ly103⟩
            obtain rfl : y103 = y103r := ey103
            have ly103 : -1 ≤ y103.toInt ∧ y103.toInt ≤ 30 := ly103
            have iy103 : TI y103 y103.toInt := rfl
            exact rl_some rfl
        · have dc3 := tl_ne is9_1 tn_0 c3
          refine rl_ltA (fun x101 => ?_)
          exact rl_some rfl
      · rintro y13 y13r ey13
        obtain rfl : y13 = y13r := ey13
        refine rl_bnd (Q := fun (y z : Int32) => y = z ∧ (0 ≤ y.toInt ∧ y.toInt ≤ 1)) ?_ ?_
        · refine rl_if (fun c6 => ?_) (fun c6 => ?_)
          · have dc6 := tl_lt (rfl : TI y13 y13.toInt) tn_0 c6
            exact rl_some ⟨rfl, (ti_bd tn_0 (by omega) (by omega))⟩
          · have dc6 := tl_nlt (rfl : TI y13 y13.toInt) tn_0 c6
            refine rl_bnd (Q := fun (y z : Int32) => y = z ∧ (0 ≤ y.toInt ∧ y.toInt ≤ 1)) ?_ ?_
            · refine rl_if (fun c7 => ?_) (fun c7 => ?_)
              · have dc7 := tl_eq (rfl : TI x7 x7.toInt) tn_2 c7
                refine rl_ltE (fun x91 ex91 => ?_)
                have ix91 := ti_e ex91 (av_mul tn_8 i1 (by omega) (by omega))
                refine rl_ltE (fun x92 ex92 => ?_)
                have ix92 := ti_e ex92 (av_add ix91 tn_6 (by omega) (by omega))
                refine rl_dr (cx_U ts9_2) (rx_c (a := 125) (k := 6) (b := 129) ts9_2 (Or.inl rfl) rfl (by decide)) (fun gb93 => ?_)
                refine rl_chk (chkl (cx_U ts9_2) gb93) (fun k8 => ?_)
                refine rl_rd (cx_i8 ts9_2 (by rw [ex92, ex91]) k8 (by decide)) (fun x94 => ?_)
                refine rl_ltE (fun x95 ex95 => ?_)
                refine rl_ltE (fun x96 ex96 => ?_)
                refine rl_chk (chkl (cx_U ts9_2) gb93) (fun k9 => ?_)
                refine rl_rd (cx_i8 ts9_2 (by rw [ex96, ex95]) k9 (by decide)) (fun x97 => ?_)
                refine rl_bnd (Q := fun (y z : Int32) => y = z ∧ (0 ≤ y.toInt ∧ y.toInt ≤ 1)) ?_ ?_
                · refine rl_if (fun c10 => ?_) (fun c10 => ?_)
                  · have dc10 := tl_eq (rfl : TI x94 x94.toInt) (rfl : TI x97 x97.toInt) c10
                    exact rl_some ⟨rfl, (ti_bd tn_1 (by omega) (by omega))⟩
                  · have dc10 := tl_ne (rfl : TI x94 x94.toInt) (rfl : TI x97 x97.toInt) c10
                    exact rl_some ⟨rfl, (ti_bd tn_0 (by omega) (by omega))⟩
                · rintro y98 y98r ⟨ey98, ly98⟩
                  obtain rfl : y98 = y98r := ey98
                  have ly98 : 0 ≤ y98.toInt ∧ y98.toInt ≤ 1 := ly98
                  have iy98 : TI y98 y98.toInt := rfl
                  exact rl_some ⟨rfl, (ti_bd iy98 (by omega) (by omega))⟩
              · have dc7 := tl_ne (rfl : TI x7 x7.toInt) tn_2 c7
                exact rl_some ⟨rfl, (ti_bd tn_1 (by omega) (by omega))⟩
            · rintro y89 y89r ⟨ey89, ly89⟩
              obtain rfl : y89 = y89r := ey89
              have ly89 : 0 ≤ y89.toInt ∧ y89.toInt ≤ 1 := ly89
              have iy89 : TI y89 y89.toInt := rfl
              exact rl_some ⟨rfl, (ti_bd iy89 (by omega) (by omega))⟩
        · rintro y14 y14r ⟨ey14, ly14⟩
          obtain rfl : y14 = y14r := ey14
          have ly14 : 0 ≤ y14.toInt ∧ y14.toInt ≤ 1 := ly14
          have iy14 : TI y14 y14.toInt := rfl
          refine rl_bnd (Q := fun (y z : Int32 × DD) => y.1 = z.1 ∧ (0 ≤ y.1.toInt ∧ y.1.toInt ≤ 16) ∧ Up mu 144 s9_2 s9_2r y.2 z.2 ∧ WG mu y.2 z.2 149 (0) (16) (fun j => 2 * (16 * a1 + j) + s9_1.toInt)) (rl_itr (fun (y z : Int32 × DD) => y.1 = z.1 ∧ (0 ≤ y.1.toInt ∧ y.1.toInt ≤ 16) ∧ Up mu 144 s9_2 s9_2r y.2 z.2 ∧ WG mu y.2 z.2 149 (0) (y.1.toInt) (fun j => 2 * (16 * a1 + j) + s9_1.toInt)) _ ?_ _ _ _ ?_) ?_
          · rintro ⟨s16_1, s16_2⟩ ⟨s16_1r, s16_2r⟩ ⟨es16_1, ls16_1, us16_2, vK_s16_2⟩
            obtain rfl : s16_1 = s16_1r := es16_1
            have ls16_1 : 0 ≤ s16_1.toInt ∧ s16_1.toInt ≤ 16 := ls16_1
            have is16_1 : TI s16_1 s16_1.toInt := rfl
            have us16_2 : Up mu 144 s9_2 s9_2r s16_2 s16_2r := us16_2
            have ts16_2 := cx_up ts9_2 us16_2
            have wS_s16_2 := wq_up us16_2 vS_s9_2
            have vK_s16_2 : WG mu s16_2 s16_2r 149 (0) (s16_1.toInt) (fun j => 2 * (16 * a1 + j) + s9_1.toInt) := vK_s16_2
            refine rl_if (fun c11 => ?_) (fun c11 => ?_)
            · have dc11 := tl_le tn_16 is16_1 c11
              exact rl_inr ⟨rfl, (ti_bd is16_1 (by omega) (by omega)), us16_2, (wg_sub vK_s16_2 (by omega) (by omega))⟩
            · have dc11 := tl_nle tn_16 is16_1 c11
              refine rl_bnd (r_pieceX ts16_2 is16_1 (by omega) (by omega)) ?_
              rintro ⟨y21_1, y21_2⟩ ⟨y21_1r, y21_2r⟩ ⟨uy21_1', ey21_2, iy21_2⟩
              have uy21_1 : Up mu 144 s16_2 s16_2r y21_1 y21_1r := uy21_1'
              have ty21_1 := cx_up ts16_2 uy21_1
              have wS_y21_1 := wq_up uy21_1 wS_s16_2
              have wK_y21_1 := wg_up uy21_1 vK_s16_2
              obtain rfl : y21_2 = y21_2r := ey21_2
              refine rl_bnd (Q := fun (y z : Int32) => y = z ∧ (0 ≤ y.toInt ∧ y.toInt ≤ 4)) ?_ ?_
              · refine rl_if (fun c12 => ?_) (fun c12 => ?_)
                · have dc12 := tl_eq is9_1 tn_0 c12
                  exact rl_some ⟨rfl, (ti_bd tn_4 (by omega) (by omega))⟩
                · have dc12 := tl_ne is9_1 tn_0 c12
                  exact rl_some ⟨rfl, (ti_bd tn_0 (by omega) (by omega))⟩
              · rintro y22 y22r ⟨ey22, ly22⟩
                obtain rfl : y22 = y22r := ey22
                have ly22 : 0 ≤ y22.toInt ∧ y22.toInt ≤ 4 := ly22
                have iy22 : TI y22 y22.toInt := rfl
                refine rl_ltI (av_sub iy21_2 iy22 (by omega) (by omega)) (fun x23 ix23 => ?_)
                refine rl_bnd (r_pieceY ty21_1 is16_1 (by omega) (by omega)) ?_
                rintro ⟨y24_1, y24_2⟩ ⟨y24_1r, y24_2r⟩ ⟨uy24_1', ey24_2, iy24_2⟩
                have uy24_1 : Up mu 144 y21_1 y21_1r y24_1 y24_1r := uy24_1'
                have ty24_1 := cx_up ty21_1 uy24_1
                have wS_y24_1 := wq_up uy24_1 wS_y21_1
                have wK_y24_1 := wg_up uy24_1 wK_y21_1
                obtain rfl : y24_2 = y24_2r := ey24_2
                refine rl_bnd (Q := fun (y z : Int32) => y = z ∧ (0 ≤ y.toInt ∧ y.toInt ≤ 4)) ?_ ?_
                · refine rl_if (fun c13 => ?_) (fun c13 => ?_)
                  · have dc13 := tl_eq is9_1 tn_1 c13
                    exact rl_some ⟨rfl, (ti_bd tn_4 (by omega) (by omega))⟩
                  · have dc13 := tl_ne is9_1 tn_1 c13
                    exact rl_some ⟨rfl, (ti_bd tn_0 (by omega) (by omega))⟩
                · rintro y25 y25r ⟨ey25, ly25⟩
                  obtain rfl : y25 = y25r := ey25
                  have ly25 : 0 ≤ y25.toInt ∧ y25.toInt ≤ 4 := ly25
                  have iy25 : TI y25 y25.toInt := rfl
                  refine rl_ltI (av_sub iy24_2 iy25 (by omega) (by omega)) (fun x26 ix26 => ?_)
                  refine rl_bnd (Q := fun (y z : Int32) => y = z ∧ (0 ≤ y.toInt ∧ y.toInt ≤ 1)) ?_ ?_
                  · refine rl_if (fun c14 => ?_) (fun c14 => ?_)
                    · have dc14 := tl_lt ix23 tn_0 c14
                      exact rl_some ⟨rfl, (ti_bd tn_0 (by omega) (by omega))⟩
                    · have dc14 := tl_nlt ix23 tn_0 c14
                      refine rl_bnd (Q := fun (y z : Int32) => y = z ∧ (0 ≤ y.toInt ∧ y.toInt ≤ 1)) ?_ ?_
                      · refine rl_if (fun c15 => ?_) (fun c15 => ?_)
                        · have dc15 := tl_lt ix26 tn_0 c15
                          exact rl_some ⟨rfl, (ti_bd tn_0 (by omega) (by omega))⟩
                        · have dc15 := tl_nlt ix26 tn_0 c15
                          exact rl_some ⟨rfl, (ti_bd tn_1 (by omega) (by omega))⟩
                      · rintro y84 y84r ⟨ey84, ly84⟩
                        obtain rfl : y84 = y84r := ey84
                        have ly84 : 0 ≤ y84.toInt ∧ y84.toInt ≤ 1 := ly84
                        have iy84 : TI y84 y84.toInt := rfl
                        exact rl_some ⟨rfl, (ti_bd iy84 (by omega) (by omega))⟩
                  · rintro y27 y27r ⟨ey27, ly27⟩
                    obtain rfl : y27 = y27r := ey27
                    have ly27 : 0 ≤ y27.toInt ∧ y27.toInt ≤ 1 := ly27
                    have iy27 : TI y27 y27.toInt := rfl
                    refine rl_bnd (Q := fun (y z : Int32 × DD) => y.1 = z.1 ∧ Up mu 144 y24_1 y24_1r y.2 z.2) ?_ ?_
                    · refine rl_if (fun c16 => ?_) (fun c16 => ?_)
                      · have dc16 := tl_eq (rfl : TI x7 x7.toInt) tn_1 c16
                        exact rl_some ⟨rfl, (up_0 mu (κ := 144) _ _)⟩
                      · have dc16 := tl_ne (rfl : TI x7 x7.toInt) tn_1 c16
                        refine rl_bnd (Q := fun (y z : Int32 × DD) => y.1 = z.1 ∧ Up mu 144 y24_1 y24_1r y.2 z.2) ?_ ?_
                        · refine rl_if (fun c17 => ?_) (fun c17 => ?_)
                          · have dc17 := tl_eq iy27 tn_0 c17
                            refine rl_bnd (Q := fun (y z : Int32 × DD) => y.1 = z.1 ∧ Up mu 144 y24_1 y24_1r y.2 z.2) ?_ ?_
                            · refine rl_if (fun c18 => ?_) (fun c18 => ?_)
                              · have dc18 := tl_eq iy14 tn_0 c18
                                exact rl_some ⟨rfl, (up_0 mu (κ := 144) _ _)⟩
                              · have dc18 := tl_ne iy14 tn_0 c18
                                refine rl_ltI (av_sar 3 ix26 (by decide)) (fun x62 ix62 => ?_)
                                refine rl_ltI (av_and 1 ix62 (by decide) (by decide)) (fun x63 ix63 => ?_)
                                refine rl_ltI (av_mul ix63 tn_8 (by omega) (by omega)) (fun x64 ix64 => ?_)
                                refine rl_ltI (av_sar 3 ix23 (by decide)) (fun x65 ix65 => ?_)
                                refine rl_ltI (av_and 1 ix65 (by decide) (by decide)) (fun x66 ix66 => ?_)
                                refine rl_ltI (av_mul ix66 tn_4 (by omega) (by omega)) (fun x67 ix67 => ?_)
                                refine rl_ltI (av_add ix64 ix67 (by omega) (by omega)) (fun x68 ix68 => ?_)
                                refine rl_ltI (av_sar 2 ix26 (by decide)) (fun x69 ix69 => ?_)
                                refine rl_ltI (av_and 1 ix69 (by decide) (by decide)) (fun x70 ix70 => ?_)
                                refine rl_ltI (av_mul ix70 tn_2 (by omega) (by omega)) (fun x71 ix71 => ?_)
                                refine rl_ltI (av_add ix68 ix71 (by omega) (by omega)) (fun x72 ix72 => ?_)
                                refine rl_ltI (av_sar 2 ix23 (by decide)) (fun x73 ix73 => ?_)
                                refine rl_ltI (av_and 1 ix73 (by decide) (by decide)) (fun x74 ix74 => ?_)
                                refine rl_ltI (av_add ix72 ix74 (by omega) (by omega)) (fun x75 ix75 => ?_)
                                refine rl_bnd (Q := fun (y z : Int32) => y = z) ?_ ?_
                                · refine rl_if (fun c19 => ?_) (fun c19 => ?_)
                                  · have dc19 := tl_eq iy27 tn_0 c19
                                    exact rl_some rfl
                                  · have dc19 := tl_ne iy27 tn_0 c19
                                    exfalso
                                    omega
                                · rintro y76 y76r ey76
                                  obtain rfl : y76 = y76r := ey76
                                  refine rl_ltA (fun x77 => ?_)
                                  refine rl_ltA (fun x78 => ?_)
                                  refine rl_ltI (av_mul tn_16 i1 (by omega) (by omega)) (fun x79 ix79 => ?_)
                                  refine rl_ltI (av_add ix79 is16_1 (by omega) (by omega)) (fun x80 ix80 => ?_)
                                  refine rl_bnd (r_strengthOf ty24_1 ⟨rfl, rfl⟩) ?_
                                  rintro ⟨y81_1, y81_2⟩ ⟨y81_1r, y81_2r⟩ ⟨uy81_1', ey81_2⟩
                                  have uy81_1 : Up mu 144 y24_1 y24_1r y81_1 y81_1r := uy81_1'
                                  have ty81_1 := cx_up ty24_1 uy81_1
                                  have wS_y81_1 := wq_up uy81_1 wS_y24_1
                                  have wK_y81_1 := wg_up uy81_1 wK_y24_1
                                  obtain rfl : y81_2 = y81_2r := ey81_2
                                  exact rl_some ⟨rfl, uy81_1⟩
                            · rintro ⟨y60_1, y60_2⟩ ⟨y60_1r, y60_2r⟩ ⟨ey60_1, uy60_2⟩
                              obtain rfl : y60_1 = y60_1r := ey60_1
                              have uy60_2 : Up mu 144 y24_1 y24_1r y60_2 y60_2r := uy60_2
                              have ty60_2 := cx_up ty24_1 uy60_2
                              have wS_y60_2 := wq_up uy60_2 wS_y24_1
                              have wK_y60_2 := wg_up uy60_2 wK_y24_1
                              exact rl_some ⟨rfl, uy60_2⟩
                          · have dc17 := tl_ne iy27 tn_0 c17
                            refine rl_ltI (av_sar 3 ix26 (by decide)) (fun x39 ix39 => ?_)
                            refine rl_ltI (av_and 1 ix39 (by decide) (by decide)) (fun x40 ix40 => ?_)
                            refine rl_ltI (av_mul ix40 tn_8 (by omega) (by omega)) (fun x41 ix41 => ?_)
                            refine rl_ltI (av_sar 3 ix23 (by decide)) (fun x42 ix42 => ?_)
                            refine rl_ltI (av_and 1 ix42 (by decide) (by decide)) (fun x43 ix43 => ?_)
                            refine rl_ltI (av_mul ix43 tn_4 (by omega) (by omega)) (fun x44 ix44 => ?_)
                            refine rl_ltI (av_add ix41 ix44 (by omega) (by omega)) (fun x45 ix45 => ?_)
                            refine rl_ltI (av_sar 2 ix26 (by decide)) (fun x46 ix46 => ?_)
                            refine rl_ltI (av_and 1 ix46 (by decide) (by decide)) (fun x47 ix47 => ?_)
                            refine rl_ltI (av_mul ix47 tn_2 (by omega) (by omega)) (fun x48 ix48 => ?_)
                            refine rl_ltI (av_add ix45 ix48 (by omega) (by omega)) (fun x49 ix49 => ?_)
                            refine rl_ltI (av_sar 2 ix23 (by decide)) (fun x50 ix50 => ?_)
                            refine rl_ltI (av_and 1 ix50 (by decide) (by decide)) (fun x51 ix51 => ?_)
                            refine rl_ltI (av_add ix49 ix51 (by omega) (by omega)) (fun x52 ix52 => ?_)
                            refine rl_bnd (Q := fun (y z : Int32) => y = z ∧ (0 ≤ y.toInt ∧ y.toInt ≤ 31)) ?_ ?_
                            · refine rl_if (fun c20 => ?_) (fun c20 => ?_)
                              · have dc20 := tl_eq iy27 tn_0 c20
                                exfalso
                                omega
                              · have dc20 := tl_ne iy27 tn_0 c20
                                exact rl_some ⟨rfl, (ti_bd i1 (by omega) (by omega))⟩
                            · rintro y53 y53r ⟨ey53, ly53⟩
                              obtain rfl : y53 = y53r := ey53
                              have ly53 : 0 ≤ y53.toInt ∧ y53.toInt ≤ 31 := ly53
                              have iy53 : TI y53 y53.toInt := rfl
                              refine rl_ltI (av_mul tn_16 iy53 (by omega) (by omega)) (fun x54 ix54 => ?_)
                              refine rl_ltI (av_add ix54 ix52 (by omega) (by omega)) (fun x55 ix55 => ?_)
                              refine rl_ltI (av_mul tn_16 i1 (by omega) (by omega)) (fun x56 ix56 => ?_)
                              refine rl_ltI (av_add ix56 is16_1 (by omega) (by omega)) (fun x57 ix57 => ?_)
                              refine rl_bnd (r_strengthOf ty24_1 ⟨rfl, rfl⟩) ?_
                              rintro ⟨y58_1, y58_2⟩ ⟨y58_1r, y58_2r⟩ ⟨uy58_1', ey58_2⟩
                              have uy58_1 : Up mu 144 y24_1 y24_1r y58_1 y58_1r := uy58_1'
                              have ty58_1 := cx_up ty24_1 uy58_1
                              have wS_y58_1 := wq_up uy58_1 wS_y24_1
                              have wK_y58_1 := wg_up uy58_1 wK_y24_1
                              obtain rfl : y58_2 = y58_2r := ey58_2
                              exact rl_some ⟨rfl, uy58_1⟩
                        · rintro ⟨y37_1, y37_2⟩ ⟨y37_1r, y37_2r⟩ ⟨ey37_1, uy37_2⟩
                          obtain rfl : y37_1 = y37_1r := ey37_1
                          have uy37_2 : Up mu 144 y24_1 y24_1r y37_2 y37_2r := uy37_2
                          have ty37_2 := cx_up ty24_1 uy37_2
                          have wS_y37_2 := wq_up uy37_2 wS_y24_1
                          have wK_y37_2 := wg_up uy37_2 wK_y24_1
                          exact rl_some ⟨rfl, uy37_2⟩
                    · rintro ⟨y28_1, y28_2⟩ ⟨y28_1r, y28_2r⟩ ⟨ey28_1, uy28_2⟩
                      obtain rfl : y28_1 = y28_1r := ey28_1
                      have uy28_2 : Up mu 144 y24_1 y24_1r y28_2 y28_2r := uy28_2
                      have ty28_2 := cx_up ty24_1 uy28_2
                      have wS_y28_2 := wq_up uy28_2 wS_y24_1
                      have wK_y28_2 := wg_up uy28_2 wK_y24_1
                      refine rl_ltI (av_mul tn_16 i1 (by omega) (by omega)) (fun x29 ix29 => ?_)
                      refine rl_ltI (av_add ix29 is16_1 (by omega) (by omega)) (fun x30 ix30 => ?_)
                      refine rl_ltI (av_mul tn_2 ix30 (by omega) (by omega)) (fun x31 ix31 => ?_)
                      refine rl_ltI (av_add ix31 is9_1 (by omega) (by omega)) (fun x32 ix32 => ?_)
                      refine rl_dr (cx_U ty28_2) (rx_c (a := 148) (k := 0) (b := 149) ty28_2 (Or.inr (Or.inr (Or.inl rfl))) rfl (by decide)) (fun gb33 => ?_)
                      refine rl_chk (chkl (cx_U ty28_2) gb33) (fun k21 => ?_)
                      refine rl_w (κ := 144) (cx_U ty28_2) (by decide) (fun M34 M34r uM34 AM34 nM34 => ?_)
                      have tM34 := cx_up ty28_2 uM34
                      have wS_M34 := wq_up uM34 wS_y28_2
                      have wK_M34 := wg_up uM34 wK_y28_2
                      refine rl_ltI (av_add is16_1 tn_1 (by omega) (by omega)) (fun x35 ix35 => ?_)
                      exact rl_inl ⟨rfl, (ti_bd ix35 (by omega) (by omega)), (up_tr (up_tr (up_tr (up_tr us16_2 uy21_1) uy24_1) uy28_2) uM34), (wg_ext wK_M34 ix32 (ag_up (up_0 mu (κ := 144) _ _) AM34) (by (try dsimp only) <;> omega) (by have q : _ = _ := ix35; (try dsimp only) <;> omega))⟩
          · exact ⟨rfl, (ti_bd tn_0 (by omega) (by omega)), (up_0 mu (κ := 144) _ _), (wg_0 (by have q : _ = _ := tn_0; (try dsimp only) <;> omega))⟩
          · rintro ⟨y15_1, y15_2⟩ ⟨y15_1r, y15_2r⟩ ⟨ey15_1, ly15_1, uy15_2, vK_y15_2⟩
            obtain rfl : y15_1 = y15_1r := ey15_1
            have ly15_1 : 0 ≤ y15_1.toInt ∧ y15_1.toInt ≤ 16 := ly15_1
            have iy15_1 : TI y15_1 y15_1.toInt := rfl
            have uy15_2 : Up mu 144 s9_2 s9_2r y15_2 y15_2r := uy15_2
            have ty15_2 := cx_up ts9_2 uy15_2
            have wS_y15_2 := wq_up uy15_2 vS_s9_2
            have vK_y15_2 : WG mu y15_2 y15_2r 149 (0) (16) (fun j => 2 * (16 * a1 + j) + s9_1.toInt) := vK_y15_2
            refine rl_ltI (av_add is9_1 tn_1 (by omega) (by omega)) (fun x18 ix18 => ?_)
            exact rl_inl ⟨rfl, (ti_bd ix18 (by omega) (by omega)), (up_tr us9_2 uy15_2), (by exact wq_ext wS_y15_2 vK_y15_2 (Int.le_refl _) (fun j h1 h2 => by (try dsimp only) <;> omega) (by have q2 : _ = _ := ix18; (try dsimp only) <;> omega))⟩
  · exact ⟨rfl, (ti_bd tn_0 (by omega) (by omega)), (up_0 mu (κ := 144) _ _), (wq_0 (by have q : _ = _ := tn_0; (try dsimp only) <;> omega))⟩
  · rintro ⟨y8_1, y8_2⟩ ⟨y8_1r, y8_2r⟩ ⟨ey8_1, ly8_1, uy8_2, vS_y8_2⟩
    obtain rfl : y8_1 = y8_1r := ey8_1
    have ly8_1 : 0 ≤ y8_1.toInt ∧ y8_1.toInt ≤ 2 := ly8_1
    have iy8_1 : TI y8_1 y8_1.toInt := rfl
    have uy8_2 : Up mu 144 M N y8_2 y8_2r := uy8_2
    have ty8_2 := cx_up t uy8_2
    have vS_y8_2 : WQ mu y8_2 y8_2r 149 (2) (16) (fun r x => 2 * (16 * a1 + x) + r) := vS_y8_2
    exact rl_some ⟨uy8_2, (wq_wg vS_y8_2 (fun j => j % 2) (fun j => (j - 32 * a1) / 2) (fun j h1 h2 => by (try dsimp only) <;> omega))⟩
theorem r_endBlock {mu : Nat → Nat} {G H : GG} {M N : DD} {p : Nat} {L : List Nat} (t : CX mu G H M N p L) {p0 : Int32} : LKS (FX9_endBlock G M 125 p0) (FX9_endBlock H N (mu 125) p0) (fun y z => Up mu 144 M N y z) := by
  unfold FX9_endBlock
  refine rl_ltA (fun x1 => ?_)
  refine rl_ltA (fun x2 => ?_)
  refine rl_rd (cx_k (c := 125) (k := 11) t rfl) (fun x3 => ?_)
  refine rl_dr (cx_U t) (rx_c (a := 125) (k := 6) (b := 129) t (Or.inl rfl) rfl (by decide)) (fun gb4 => ?_)
  refine rl_chk (chkl (cx_U t) gb4) (fun k1 => ?_)
  refine rl_w (κ := 144) (cx_U t) (by decide) (fun M5 M5r uM5 AM5 nM5 => ?_)
  have tM5 := cx_up t uM5
  refine rl_ltA (fun x6 => ?_)
  refine rl_dr (cx_U tM5) (rx_c (a := 125) (k := 1) (b := 215) tM5 (Or.inl rfl) rfl (by decide)) (fun gb7 => ?_)
  refine rl_dr (cx_U tM5) (rx_c (a := 215) (k := 0) (b := 216) tM5 (Or.inr (Or.inr (Or.inr rfl))) rfl (by decide)) (fun gb8 => ?_)
  refine rl_chk (chkl (cx_U tM5) gb8) (fun k2 => ?_)
  refine rl_rd (cx_k (c := 216) (k := 13) tM5 rfl) (fun x9 => ?_)
  refine rl_dr (cx_U tM5) (rx_c (a := 125) (k := 10) (b := 133) tM5 (Or.inl rfl) rfl (by decide)) (fun gb10 => ?_)
  refine rl_chk (chkl (cx_U tM5) gb10) (fun k3 => ?_)
  refine rl_w (κ := 144) (cx_U tM5) (by decide) (fun M11 M11r uM11 AM11 nM11 => ?_)
  have tM11 := cx_up tM5 uM11
  refine rl_ltA (fun x12 => ?_)
  refine rl_ltA (fun x13 => ?_)
  refine rl_dr (cx_U tM11) (rx_c (a := 125) (k := 1) (b := 215) tM11 (Or.inl rfl) rfl (by decide)) (fun gb14 => ?_)
  refine rl_dr (cx_U tM11) (rx_c (a := 215) (k := 0) (b := 216) tM11 (Or.inr (Or.inr (Or.inr rfl))) rfl (by decide)) (fun gb15 => ?_)
  refine rl_chk (chkl (cx_U tM11) gb15) (fun k4 => ?_)
  refine rl_rd (cx_k (c := 216) (k := 14) tM11 rfl) (fun x16 => ?_)
  refine rl_dr (cx_U tM11) (rx_c (a := 125) (k := 10) (b := 133) tM11 (Or.inl rfl) rfl (by decide)) (fun gb17 => ?_)
  refine rl_chk (chkl (cx_U tM11) gb17) (fun k5 => ?_)
  refine rl_w (κ := 144) (cx_U tM11) (by decide) (fun M18 M18r uM18 AM18 nM18 => ?_)
  have tM18 := cx_up tM11 uM18
  refine rl_ltA (fun x19 => ?_)
  refine rl_ltA (fun x20 => ?_)
  refine rl_dr (cx_U tM18) (rx_c (a := 125) (k := 1) (b := 215) tM18 (Or.inl rfl) rfl (by decide)) (fun gb21 => ?_)
  refine rl_dr (cx_U tM18) (rx_c (a := 215) (k := 0) (b := 216) tM18 (Or.inr (Or.inr (Or.inr rfl))) rfl (by decide)) (fun gb22 => ?_)
  refine rl_chk (chkl (cx_U tM18) gb22) (fun k6 => ?_)
  refine rl_rd (cx_k (c := 216) (k := 15) tM18 rfl) (fun x23 => ?_)
  refine rl_dr (cx_U tM18) (rx_c (a := 125) (k := 10) (b := 133) tM18 (Or.inl rfl) rfl (by decide)) (fun gb24 => ?_)
  refine rl_chk (chkl (cx_U tM18) gb24) (fun k7 => ?_)
  refine rl_w (κ := 144) (cx_U tM18) (by decide) (fun M25 M25r uM25 AM25 nM25 => ?_)
  have tM25 := cx_up tM18 uM25
  refine rl_bnd (Q := fun (y z : Int32 × DD) => y.1 = z.1 ∧ (0 ≤ y.1.toInt ∧ y.1.toInt ≤ 2) ∧ Up mu 144 M25 M25r y.2 z.2) (rl_itr (fun (y z : Int32 × DD) => y.1 = z.1 ∧ (0 ≤ y.1.toInt ∧ y.1.toInt ≤ 2) ∧ Up mu 144 M25 M25r y.2 z.2) _ ?_ _ _ _ ?_) ?_
  · rintro ⟨s27_1, s27_2⟩ ⟨s27_1r, s27_2r⟩ ⟨es27_1, ls27_1, us27_2⟩
    obtain rfl : s27_1 = s27_1r := es27_1
    have ls27_1 : 0 ≤ s27_1.toInt ∧ s27_1.toInt ≤ 2 := ls27_1
    have is27_1 : TI s27_1 s27_1.toInt := rfl
    have us27_2 : Up mu 144 M25 M25r s27_2 s27_2r := us27_2
    have ts27_2 := cx_up tM25 us27_2
    refine rl_if (fun c8 => ?_) (fun c8 => ?_)
    · have dc8 := tl_le tn_2 is27_1 c8
      exact rl_inr ⟨rfl, (ti_bd is27_1 (by omega) (by omega)), us27_2⟩
    · have dc8 := tl_nle tn_2 is27_1 c8
      refine rl_bnd (Q := fun (y z : Int32 × DD) => y.1 = z.1 ∧ (0 ≤ y.1.toInt ∧ y.1.toInt ≤ 16) ∧ Up mu 144 s27_2 s27_2r y.2 z.2) (rl_itr (fun (y z : Int32 × DD) => y.1 = z.1 ∧ (0 ≤ y.1.toInt ∧ y.1.toInt ≤ 16) ∧ Up mu 144 s27_2 s27_2r y.2 z.2) _ ?_ _ _ _ ?_) ?_
      · rintro ⟨s32_1, s32_2⟩ ⟨s32_1r, s32_2r⟩ ⟨es32_1, ls32_1, us32_2⟩
        obtain rfl : s32_1 = s32_1r := es32_1
        have ls32_1 : 0 ≤ s32_1.toInt ∧ s32_1.toInt ≤ 16 := ls32_1
        have is32_1 : TI s32_1 s32_1.toInt := rfl
        have us32_2 : Up mu 144 s27_2 s27_2r s32_2 s32_2r := us32_2
        have ts32_2 := cx_up ts27_2 us32_2
        refine rl_if (fun c9 => ?_) (fun c9 => ?_)
        · have dc9 := tl_le tn_16 is32_1 c9
          exact rl_inr ⟨rfl, (ti_bd is32_1 (by omega) (by omega)), us32_2⟩
        · have dc9 := tl_nle tn_16 is32_1 c9
          refine rl_dr (cx_U ts32_2) (rx_p ts32_2) (fun gb37 => ?_)
          refine rl_ltA (fun x38 => ?_)
          refine rl_ltA (fun x39 => ?_)
          refine rl_bnd (r_at ts32_2) ?_
          rintro ⟨y40_1, y40_2⟩ ⟨y40_1r, y40_2r⟩ ⟨uy40_1', ey40_2⟩
          have uy40_1 : Up mu 144 s32_2 s32_2r y40_1 y40_1r := uy40_1'
          have ty40_1 := cx_up ts32_2 uy40_1
          obtain rfl : y40_2 = y40_2r := ey40_2
          refine rl_dr (cx_U ty40_1) (rx_5 ts32_2 (cx_p t)) (fun gb41 => ?_)
          refine rl_chk (chkl (cx_U ty40_1) gb41) (fun k10 => ?_)
          refine rl_rd (cx_qj (j := 6) ty40_1 (cx_p t) (by decide) _) (fun x42 => ?_)
          refine rl_bnd (Q := fun (y z : DD) => Up mu 144 y40_1 y40_1r y z) ?_ ?_
          · refine rl_if (fun c11 => ?_) (fun c11 => ?_)
            · have dc11 := tl_lt (rfl : TI x42 x42.toInt) tn_0 c11
              exact rl_some (up_0 mu (κ := 144) _ _)
            · have dc11 := tl_nlt (rfl : TI x42 x42.toInt) tn_0 c11
              refine rl_bnd (Q := fun (y z : DD) => Up mu 144 y40_1 y40_1r y z) ?_ ?_
              · refine rl_if (fun c12 => ?_) (fun c12 => ?_)
                · have dc12 := tl_le tn_9 (rfl : TI x42 x42.toInt) c12
                  exact rl_some (up_0 mu (κ := 144) _ _)
                · have dc12 := tl_nle tn_9 (rfl : TI x42 x42.toInt) c12
                  refine rl_ltI (av_mul tn_9 is27_1 (by omega) (by omega)) (fun x48 ix48 => ?_)
                  refine rl_ltI (av_add ix48 (rfl : TI x42 x42.toInt) (by omega) (by omega)) (fun x49 ix49 => ?_)
                  refine rl_dr (cx_U ty40_1) (rx_c (a := 125) (k := 3) (b := 126) ty40_1 (Or.inl rfl) rfl (by decide)) (fun gb50 => ?_)
                  refine rl_chk (chkl (cx_U ty40_1) gb50) (fun k13 => ?_)
                  refine rl_bnd (Q := fun (y z : DD) => Up mu 144 y40_1 y40_1r y z) ?_ ?_
                  · refine rl_ifD (or_iff (rx_l ty40_1 _)) (fun c14 => ?_) (fun c14 => ?_)
                    · exact rl_some (up_0 mu (κ := 144) _ _)
                    · obtain ⟨qc14, hqc14, eqc14⟩ := or_ne (rx_l ty40_1 _) c14
                      refine rl_ltI (av_mul tn_9 is27_1 (by omega) (by omega)) (fun x53 ix53 => ?_)
                      refine rl_ltI (av_add ix53 (rfl : TI x42 x42.toInt) (by omega) (by omega)) (fun x54 ix54 => ?_)
                      refine rl_chk (chkl (cx_U ty40_1) gb50) (fun k15 => ?_)
                      refine rl_dr (cx_U ty40_1) (by rw [ti_inj ix49 ix54]; exact eqc14) (fun gb55 => ?_)
                      refine rl_rd (cx_q (j := 0) (k := 14) ty40_1 hqc14 rfl) (fun x56 => ?_)
                      refine rl_bnd (Q := fun (y z : DD) => Up mu 144 y40_1 y40_1r y z) ?_ ?_
                      · refine rl_if (fun c16 => ?_) (fun c16 => ?_)
                        · have dc16 := tl_eq (rfl : TI x56 x56.toInt) tn_0 c16
                          refine rl_dr (cx_U ty40_1) (rx_p ty40_1) (fun gb59 => ?_)
                          refine rl_chk (fun h => h) (fun k17 => ?_)
                          refine rl_w (κ := 144) (cx_U ty40_1) (by have := cx_q0 ty40_1 (cx_p t); omega) (fun M60 M60r uM60 AM60 nM60 => ?_)
                          have tM60 := cx_up ty40_1 uM60
                          exact rl_some uM60
                        · exact rl_some (up_0 mu (κ := 144) _ _)
                      · rintro y57 y57r uy57
                        have uy57 : Up mu 144 y40_1 y40_1r y57 y57r := uy57
                        have ty57 := cx_up ty40_1 uy57
                        exact rl_some uy57
                  · rintro y51 y51r uy51
                    have uy51 : Up mu 144 y40_1 y40_1r y51 y51r := uy51
                    have ty51 := cx_up ty40_1 uy51
                    exact rl_some uy51
              · rintro y46 y46r uy46
                have uy46 : Up mu 144 y40_1 y40_1r y46 y46r := uy46
                have ty46 := cx_up ty40_1 uy46
                exact rl_some uy46
          · rintro y43 y43r uy43
            have uy43 : Up mu 144 y40_1 y40_1r y43 y43r := uy43
            have ty43 := cx_up ty40_1 uy43
            refine rl_ltI (av_add is32_1 tn_1 (by omega) (by omega)) (fun x44 ix44 => ?_)
            exact rl_inl ⟨rfl, (ti_bd ix44 (by omega) (by omega)), (up_tr (up_tr us32_2 uy40_1) uy43)⟩
      · exact ⟨rfl, (ti_bd tn_0 (by omega) (by omega)), (up_0 mu (κ := 144) _ _)⟩
      · rintro ⟨y31_1, y31_2⟩ ⟨y31_1r, y31_2r⟩ ⟨ey31_1, ly31_1, uy31_2⟩
        obtain rfl : y31_1 = y31_1r := ey31_1
        have ly31_1 : 0 ≤ y31_1.toInt ∧ y31_1.toInt ≤ 16 := ly31_1
        have iy31_1 : TI y31_1 y31_1.toInt := rfl
        have uy31_2 : Up mu 144 s27_2 s27_2r y31_2 y31_2r := uy31_2
        have ty31_2 := cx_up ts27_2 uy31_2
        refine rl_ltI (av_add is27_1 tn_1 (by omega) (by omega)) (fun x34 ix34 => ?_)
        exact rl_inl ⟨rfl, (ti_bd ix34 (by omega) (by omega)), (up_tr us27_2 uy31_2)⟩
  · exact ⟨rfl, (ti_bd tn_0 (by omega) (by omega)), (up_0 mu (κ := 144) _ _)⟩
  · rintro ⟨y26_1, y26_2⟩ ⟨y26_1r, y26_2r⟩ ⟨ey26_1, ly26_1, uy26_2⟩
    obtain rfl : y26_1 = y26_1r := ey26_1
    have ly26_1 : 0 ≤ y26_1.toInt ∧ y26_1.toInt ≤ 2 := ly26_1
    have iy26_1 : TI y26_1 y26_1.toInt := rfl
    have uy26_2 : Up mu 144 M25 M25r y26_2 y26_2r := uy26_2
    have ty26_2 := cx_up tM25 uy26_2
    exact rl_some (up_tr (up_tr (up_tr (up_tr uM5 uM11) uM18) uM25) uy26_2)
