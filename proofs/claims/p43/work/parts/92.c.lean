/-! two runs in lockstep, printed out of the functions' trees -/
theorem c_addGroup {mu : Nat → Nat} {G H : GG} {M N : DD} {p : Nat} {L : List Nat} (t : CX mu G H M N p L) {p0 : Int32} {p1 : Int32} {p2 : Int32} {p3 : Int32} (hl : G.2.2 135 = 80 ∧ G.2.2 136 = 16) (tp : TPL mu M N) : LKS (FX9_addGroup G M 125 p0 p1 p2 p3) (FX9_addGroup H N (mu 125) p0 p1 p2 p3) (fun y z => Up mu p M N y z ∧ TPL mu y z) := by
  unfold FX9_addGroup
  refine rl_rdE tp.2.1 (fun x1 ex1 => ?_)
  have mx1 : (M.1 125 16).toInt = x1.toInt := by rw [ex1]
  have lx1 : 0 ≤ x1.toInt ∧ x1.toInt ≤ 4 := by rw [← mx1]; exact tp.2.2.2.2.1
  refine rl_ltI (av_mul tn_4 (rfl : TI x1 x1.toInt) (by omega) (by omega)) (fun x2 ix2 => ?_)
  refine rl_dr (cx_U t) (rx_c (a := 125) (k := 15) (b := 136) t (Or.inl rfl) rfl (by decide)) (fun gb3 => ?_)
  refine rl_chk (chkl (cx_U t) gb3) (fun k1 => ?_)
  refine rl_wV (κ := p) (cx_U t) (by have := cx_q0 t (cx_p t); omega) (fun M4 M4r uM4 AM4 nM4 vM4 => ?_)
  have tM4 := cx_up t uM4
  refine rl_ltI (av_add ix2 tn_1 (by omega) (by omega)) (fun x5 ix5 => ?_)
  refine rl_dr (cx_U tM4) (rx_c (a := 125) (k := 15) (b := 136) tM4 (Or.inl rfl) rfl (by decide)) (fun gb6 => ?_)
  refine rl_chk (chkl (cx_U tM4) gb6) (fun k2 => ?_)
  refine rl_wV (κ := p) (cx_U tM4) (by have := cx_q0 tM4 (cx_p tM4); omega) (fun M7 M7r uM7 AM7 nM7 vM7 => ?_)
  have tM7 := cx_up tM4 uM7
  refine rl_ltI (av_add ix2 tn_2 (by omega) (by omega)) (fun x8 ix8 => ?_)
  refine rl_dr (cx_U tM7) (rx_c (a := 125) (k := 15) (b := 136) tM7 (Or.inl rfl) rfl (by decide)) (fun gb9 => ?_)
  refine rl_chk (chkl (cx_U tM7) gb9) (fun k3 => ?_)
  refine rl_wV (κ := p) (cx_U tM7) (by have := cx_q0 tM7 (cx_p tM7); omega) (fun M10 M10r uM10 AM10 nM10 vM10 => ?_)
  have tM10 := cx_up tM7 uM10
  refine rl_ltI (av_add ix2 tn_3 (by omega) (by omega)) (fun x11 ix11 => ?_)
  refine rl_dr (cx_U tM10) (rx_c (a := 125) (k := 15) (b := 136) tM10 (Or.inl rfl) rfl (by decide)) (fun gb12 => ?_)
  refine rl_chk (chkl (cx_U tM10) gb12) (fun k4 => ?_)
  refine rl_wV (κ := p) (cx_U tM10) (by have := cx_q0 tM10 (cx_p tM10); omega) (fun M13 M13r uM13 AM13 nM13 vM13 => ?_)
  have tM13 := cx_up tM10 uM13
  refine rl_rdE (ag_up (up_tr (up_tr (up_tr uM4 uM7) uM10) uM13) tp.2.1) (fun x14 ex14 => ?_)
  have mx14 : x14.toInt = x1.toInt := by rw [ex14, nM13 125 16 (by omega), nM10 125 16 (by omega), nM7 125 16 (by omega), nM4 125 16 (by omega)]; exact mx1
  have lx14 : 0 ≤ x14.toInt ∧ x14.toInt ≤ 4 := by omega
  refine rl_ltI (av_add (rfl : TI x14 x14.toInt) tn_1 (by omega) (by omega)) (fun x15 ix15 => ?_)
  have kx15 : x15.toInt = _ := ix15
  refine rl_wV (κ := p) (cx_U tM13) (by have := cx_q0 tM13 (cx_p tM13); omega) (fun M16 M16r uM16 AM16 nM16 vM16 => ?_)
  have tM16 := cx_up tM13 uM16
  exact rl_some ⟨(up_tr (up_tr (up_tr (up_tr uM4 uM7) uM10) uM13) uM16), (tp_g (up_tr (up_tr (up_tr (up_tr uM4 uM7) uM10) uM13) uM16) tp mx1 AM16 (by rw [vM16]; omega) (by rw [nM16 125 14 (by omega), nM13 125 14 (by omega), nM10 125 14 (by omega), nM7 125 14 (by omega), nM4 125 14 (by omega)]) (by have q := lt_chk ix2 hl.2 k1; omega) ix2 ix5 ix8 ix11 (ag_up (up_tr (up_tr (up_tr uM7 uM10) uM13) uM16) AM4) (ag_up (up_tr (up_tr uM10 uM13) uM16) AM7) (ag_up (up_tr uM13 uM16) AM10) (ag_up uM16 AM13))⟩
theorem c_addPart {mu : Nat → Nat} {G H : GG} {M N : DD} {p : Nat} {L : List Nat} (t : CX mu G H M N p L) {p0 : Int32} {p1 : Int32} {p2 : Int32} {p3 : Int32} (hl : G.2.2 135 = 80 ∧ G.2.2 136 = 16) (tp : TPL mu M N) : LKS (FX9_addPart G M 125 p0 p1 p2 p3) (FX9_addPart H N (mu 125) p0 p1 p2 p3) (fun y z => Up mu p M N y z ∧ TPL mu y z) := by
  unfold FX9_addPart
  refine rl_rdE tp.1 (fun x1 ex1 => ?_)
  have mx1 : (M.1 125 14).toInt = x1.toInt := by rw [ex1]
  have lx1 : 0 ≤ x1.toInt ∧ x1.toInt ≤ 16 := by rw [← mx1]; exact tp.2.2.2.2.2
  refine rl_ltI (av_mul tn_5 (rfl : TI x1 x1.toInt) (by omega) (by omega)) (fun x2 ix2 => ?_)
  refine rl_dr (cx_U t) (rx_c (a := 125) (k := 13) (b := 135) t (Or.inl rfl) rfl (by decide)) (fun gb3 => ?_)
  refine rl_chk (chkl (cx_U t) gb3) (fun k1 => ?_)
  refine rl_wV (κ := p) (cx_U t) (by have := cx_q0 t (cx_p t); omega) (fun M4 M4r uM4 AM4 nM4 vM4 => ?_)
  have tM4 := cx_up t uM4
  refine rl_ltI (av_add ix2 tn_1 (by omega) (by omega)) (fun x5 ix5 => ?_)
  refine rl_dr (cx_U tM4) (rx_c (a := 125) (k := 13) (b := 135) tM4 (Or.inl rfl) rfl (by decide)) (fun gb6 => ?_)
  refine rl_chk (chkl (cx_U tM4) gb6) (fun k2 => ?_)
  refine rl_wV (κ := p) (cx_U tM4) (by have := cx_q0 tM4 (cx_p tM4); omega) (fun M7 M7r uM7 AM7 nM7 vM7 => ?_)
  have tM7 := cx_up tM4 uM7
  refine rl_ltI (av_add ix2 tn_2 (by omega) (by omega)) (fun x8 ix8 => ?_)
  refine rl_dr (cx_U tM7) (rx_c (a := 125) (k := 13) (b := 135) tM7 (Or.inl rfl) rfl (by decide)) (fun gb9 => ?_)
  refine rl_chk (chkl (cx_U tM7) gb9) (fun k3 => ?_)
  refine rl_wV (κ := p) (cx_U tM7) (by have := cx_q0 tM7 (cx_p tM7); omega) (fun M10 M10r uM10 AM10 nM10 vM10 => ?_)
  have tM10 := cx_up tM7 uM10
  refine rl_ltI (av_add ix2 tn_3 (by omega) (by omega)) (fun x11 ix11 => ?_)
  refine rl_rdE (ag_up (up_tr (up_tr uM4 uM7) uM10) tp.2.1) (fun x12 ex12 => ?_)
  have mx12 : (M.1 125 16).toInt = x12.toInt := by rw [ex12, nM10 125 16 (by omega), nM7 125 16 (by omega), nM4 125 16 (by omega)]
  have lx12 : 0 ≤ x12.toInt ∧ x12.toInt ≤ 4 := by rw [← mx12]; exact tp.2.2.2.2.1
  refine rl_ltI (av_mul tn_4 (rfl : TI x12 x12.toInt) (by omega) (by omega)) (fun x13 ix13 => ?_)
  refine rl_ltI (av_sub ix13 tn_1 (by omega) (by omega)) (fun x14 ix14 => ?_)
  refine rl_dr (cx_U tM10) (rx_c (a := 125) (k := 15) (b := 136) tM10 (Or.inl rfl) rfl (by decide)) (fun gb15 => ?_)
  refine rl_chk (chkl (cx_U tM10) gb15) (fun k4 => ?_)
  refine rl_rd (ag_up (up_tr (up_tr uM4 uM7) uM10) (fg_usk tp.2.2.1 ix14 k4 (fun k hk => by unfold LT; omega))) (fun x16 => ?_)
  refine rl_dr (cx_U tM10) (rx_c (a := 125) (k := 13) (b := 135) tM10 (Or.inl rfl) rfl (by decide)) (fun gb17 => ?_)
  refine rl_chk (chkl (cx_U tM10) gb17) (fun k5 => ?_)
  refine rl_wV (κ := p) (cx_U tM10) (by have := cx_q0 tM10 (cx_p tM10); omega) (fun M18 M18r uM18 AM18 nM18 vM18 => ?_)
  have tM18 := cx_up tM10 uM18
  refine rl_ltI (av_add ix2 tn_4 (by omega) (by omega)) (fun x19 ix19 => ?_)
  refine rl_dr (cx_U tM18) (rx_c (a := 125) (k := 13) (b := 135) tM18 (Or.inl rfl) rfl (by decide)) (fun gb20 => ?_)
  refine rl_chk (chkl (cx_U tM18) gb20) (fun k6 => ?_)
  refine rl_wV (κ := p) (cx_U tM18) (by have := cx_q0 tM18 (cx_p tM18); omega) (fun M21 M21r uM21 AM21 nM21 vM21 => ?_)
  have tM21 := cx_up tM18 uM21
  refine rl_rdE (ag_up (up_tr (up_tr (up_tr (up_tr uM4 uM7) uM10) uM18) uM21) tp.1) (fun x22 ex22 => ?_)
  have mx22 : x22.toInt = x1.toInt := by rw [ex22, nM21 125 14 (by omega), nM18 125 14 (by omega), nM10 125 14 (by omega), nM7 125 14 (by omega), nM4 125 14 (by omega)]; exact mx1
  have lx22 : 0 ≤ x22.toInt ∧ x22.toInt ≤ 16 := by omega
  refine rl_ltI (av_add (rfl : TI x22 x22.toInt) tn_1 (by omega) (by omega)) (fun x23 ix23 => ?_)
  have kx23 : x23.toInt = _ := ix23
  refine rl_wV (κ := p) (cx_U tM21) (by have := cx_q0 tM21 (cx_p tM21); omega) (fun M24 M24r uM24 AM24 nM24 vM24 => ?_)
  have tM24 := cx_up tM21 uM24
  exact rl_some ⟨(up_tr (up_tr (up_tr (up_tr (up_tr uM4 uM7) uM10) uM18) uM21) uM24), (tp_p (up_tr (up_tr (up_tr (up_tr (up_tr uM4 uM7) uM10) uM18) uM21) uM24) tp mx1 AM24 (by rw [vM24]; omega) (by rw [nM24 125 16 (by omega), nM21 125 16 (by omega), nM18 125 16 (by omega), nM10 125 16 (by omega), nM7 125 16 (by omega), nM4 125 16 (by omega)]) (by have q := lt_chk ix2 hl.1 k1; omega) ix2 ix5 ix8 ix11 ix19 (ag_up (up_tr (up_tr (up_tr (up_tr uM7 uM10) uM18) uM21) uM24) AM4) (ag_up (up_tr (up_tr (up_tr uM10 uM18) uM21) uM24) AM7) (ag_up (up_tr (up_tr uM18 uM21) uM24) AM10) (ag_up (up_tr uM21 uM24) AM18) (ag_up uM24 AM21))⟩
theorem c_planQuarter {mu : Nat → Nat} {G H : GG} {M N : DD} {p : Nat} {L : List Nat} (t : CX mu G H M N p L) {p0 : Int32} {p1 : Int32} {a1 : Int} (i1 : TI p1 a1) (h0 : 0 ≤ a1) (h1 : a1 ≤ 3) (hl : G.2.2 135 = 80 ∧ G.2.2 136 = 16) (tp : TPL mu M N) (hs : FG mu M N 134 (LT 4)) : LKS (FX9_planQuarter G M 125 p0 p1) (FX9_planQuarter H N (mu 125) p0 p1) (fun y z => Up mu p M N y z ∧ TPL mu y z) := by
  unfold FX9_planQuarter
  refine rl_dr (cx_U t) (rx_c (a := 125) (k := 12) (b := 134) t (Or.inl rfl) rfl (by decide)) (fun gb2 => ?_)
  refine rl_chk (chkl (cx_U t) gb2) (fun k1 => ?_)
  refine rl_rd (fg_use hs i1 (by omega) (fun k hk => by unfold LT; omega)) (fun x3 => ?_)
  refine rl_bnd (Q := fun (y z : Int32) => y = z) ?_ ?_
  · refine rl_if (fun c2 => ?_) (fun c2 => ?_)
    · have dc2 := tl_eq (rfl : TI p0 p0.toInt) tn_0 c2
      exact rl_some rfl
    · refine rl_chk (fun h => h) (fun _ => ?_)
      refine rl_ltB (tb_17 _) (fun x49 lx49 => ?_)
      have ix49 : TI x49 x49.toInt := rfl
      exact rl_some rfl
  · rintro y4 y4r ey4
    obtain rfl : y4 = y4r := ey4
    refine rl_bnd (Q := fun (y z : Int32) => y = z ∧ (0 ≤ y.toInt ∧ y.toInt ≤ 3)) ?_ ?_
    · refine rl_if (fun c4 => ?_) (fun c4 => ?_)
      · have dc4 := tl_eq (rfl : TI p0 p0.toInt) tn_0 c4
        exact rl_some ⟨rfl, (ti_bd tn_1 (by omega) (by omega))⟩
      · refine rl_chk (fun h => h) (fun _ => ?_)
        refine rl_ltB (tb_18 _) (fun x47 lx47 => ?_)
        have ix47 : TI x47 x47.toInt := rfl
        exact rl_some ⟨rfl, (ti_bd ix47 (by omega) (by omega))⟩
    · rintro y5 y5r ⟨ey5, ly5⟩
      obtain rfl : y5 = y5r := ey5
      have ly5 : 0 ≤ y5.toInt ∧ y5.toInt ≤ 3 := ly5
      have iy5 : TI y5 y5.toInt := rfl
      refine rl_if (fun c6 => ?_) (fun c6 => ?_)
      · have dc6 := tl_eq iy5 tn_0 c6
        exact rl_some ⟨(up_0 mu (κ := p) _ _), tp⟩
      · refine rl_ltI (av_mul tn_4 i1 (by omega) (by omega)) (fun x7 ix7 => ?_)
        refine rl_bnd (c_addGroup t hl tp) ?_
        rintro y8 y8r ⟨uy8', vtp_y8⟩
        have uy8 : Up mu p M N y8 y8r := uy8'
        have ty8 := cx_up t uy8
        have ws_y8 := fg_up uy8 hs
        refine rl_bnd (Q := fun (y z : Int32) => y = z ∧ (4 ≤ y.toInt ∧ y.toInt ≤ 8)) ?_ ?_
        · refine rl_if (fun c7 => ?_) (fun c7 => ?_)
          · have dc7 := tl_le (rfl : TI y4 y4.toInt) tn_1 c7
            exact rl_some ⟨rfl, (ti_bd tn_8 (by omega) (by omega))⟩
          · have dc7 := tl_nle (rfl : TI y4 y4.toInt) tn_1 c7
            exact rl_some ⟨rfl, (ti_bd tn_4 (by omega) (by omega))⟩
        · rintro y9 y9r ⟨ey9, ly9⟩
          obtain rfl : y9 = y9r := ey9
          have ly9 : 4 ≤ y9.toInt ∧ y9.toInt ≤ 8 := ly9
          have iy9 : TI y9 y9.toInt := rfl
          refine rl_ltE (fun x10 ex10 => ?_)
          have bx10 := av_modb (x := y4) tn_2 (by decide) (by decide)
          rw [← ex10] at bx10
          clear ex10
          have ix10 : TI x10 x10.toInt := rfl
          refine rl_bnd (Q := fun (y z : Int32) => y = z ∧ (4 ≤ y.toInt ∧ y.toInt ≤ 8)) ?_ ?_
          · refine rl_if (fun c8 => ?_) (fun c8 => ?_)
            · have dc8 := tl_eq ix10 tn_1 c8
              exact rl_some ⟨rfl, (ti_bd tn_4 (by omega) (by omega))⟩
            · exact rl_some ⟨rfl, (ti_bd tn_8 (by omega) (by omega))⟩
          · rintro y11 y11r ⟨ey11, ly11⟩
            obtain rfl : y11 = y11r := ey11
            have ly11 : 4 ≤ y11.toInt ∧ y11.toInt ≤ 8 := ly11
            have iy11 : TI y11 y11.toInt := rfl
            refine rl_bnd (Q := fun (y z : Int32 × DD) => y.1 = z.1 ∧ Up mu p y8 y8r y.2 z.2 ∧ TPL mu y.2 z.2) (rl_itr (fun (y z : Int32 × DD) => y.1 = z.1 ∧ Up mu p y8 y8r y.2 z.2 ∧ TPL mu y.2 z.2) _ ?_ _ _ _ ?_) ?_
            · rintro ⟨s13_1, s13_2⟩ ⟨s13_1r, s13_2r⟩ ⟨es13_1, us13_2, vtp_s13_2⟩
              obtain rfl : s13_1 = s13_1r := es13_1
              have us13_2 : Up mu p y8 y8r s13_2 s13_2r := us13_2
              have ts13_2 := cx_up ty8 us13_2
              have ws_s13_2 := fg_up us13_2 ws_y8
              have vtp_s13_2 : TPL mu s13_2 s13_2r := vtp_s13_2
              refine rl_if (fun c9 => ?_) (fun c9 => ?_)
              · have dc9 := tl_le tn_4 (rfl : TI s13_1 s13_1.toInt) c9
                exact rl_inr ⟨rfl, us13_2, vtp_s13_2⟩
              · have dc9 := tl_nle tn_4 (rfl : TI s13_1 s13_1.toInt) c9
                refine rl_bnd (Q := fun (y z : DD) => Up mu p s13_2 s13_2r y z ∧ TPL mu y z) ?_ ?_
                · refine rl_if (fun c10 => ?_) (fun c10 => ?_)
                  · have dc10 := tl_eq (rfl : TI y4 y4.toInt) tn_0 c10
                    refine rl_bnd (Q := fun (y z : DD) => Up mu p s13_2 s13_2r y z ∧ TPL mu y z) ?_ ?_
                    · refine rl_if (fun c11 => ?_) (fun c11 => ?_)
                      · have dc11 := tl_lt tn_0 (rfl : TI s13_1 s13_1.toInt) c11
                        exact rl_some ⟨(up_0 mu (κ := p) _ _), vtp_s13_2⟩
                      · have dc11 := tl_nlt tn_0 (rfl : TI s13_1 s13_1.toInt) c11
                        refine rl_bnd (Q := fun (y z : DD) => Up mu p s13_2 s13_2r y z ∧ TPL mu y z) ?_ ?_
                        · refine rl_if (fun c12 => ?_) (fun c12 => ?_)
                          · have dc12 := tl_eq (rfl : TI y4 y4.toInt) tn_2 c12
                            exfalso
                            omega
                          · refine rl_ltI (av_mul tn_4 i1 (by omega) (by omega)) (fun x36 ix36 => ?_)
                            refine rl_ltA (fun x37 => ?_)
                            refine rl_bnd (c_addPart ts13_2 hl vtp_s13_2) ?_
                            rintro y38 y38r ⟨uy38', vtp_y38⟩
                            have uy38 : Up mu p s13_2 s13_2r y38 y38r := uy38'
                            have ty38 := cx_up ts13_2 uy38
                            have ws_y38 := fg_up uy38 ws_s13_2
                            exact rl_some ⟨uy38, vtp_y38⟩
                        · rintro y34 y34r ⟨uy34, wtp_y34⟩
                          have uy34 : Up mu p s13_2 s13_2r y34 y34r := uy34
                          have ty34 := cx_up ts13_2 uy34
                          have ws_y34 := fg_up uy34 ws_s13_2
                          have wtp_y34 : TPL mu y34 y34r := wtp_y34
                          exact rl_some ⟨uy34, wtp_y34⟩
                    · rintro y32 y32r ⟨uy32, wtp_y32⟩
                      have uy32 : Up mu p s13_2 s13_2r y32 y32r := uy32
                      have ty32 := cx_up ts13_2 uy32
                      have ws_y32 := fg_up uy32 ws_s13_2
                      have wtp_y32 : TPL mu y32 y32r := wtp_y32
                      exact rl_some ⟨uy32, wtp_y32⟩
                  · refine rl_bnd (Q := fun (y z : DD) => Up mu p s13_2 s13_2r y z ∧ TPL mu y z) ?_ ?_
                    · refine rl_if (fun c13 => ?_) (fun c13 => ?_)
                      · have dc13 := tl_eq (rfl : TI y4 y4.toInt) tn_2 c13
                        refine rl_bnd (Q := fun (y z : DD) => Up mu p s13_2 s13_2r y z ∧ TPL mu y z) ?_ ?_
                        · refine rl_if (fun c14 => ?_) (fun c14 => ?_)
                          · have dc14 := tl_le (rfl : TI s13_1 s13_1.toInt) tn_1 c14
                            refine rl_ltI (av_mul tn_4 i1 (by omega) (by omega)) (fun x29 ix29 => ?_)
                            refine rl_ltA (fun x30 => ?_)
                            refine rl_bnd (c_addPart ts13_2 hl vtp_s13_2) ?_
                            rintro y31 y31r ⟨uy31', vtp_y31⟩
                            have uy31 : Up mu p s13_2 s13_2r y31 y31r := uy31'
                            have ty31 := cx_up ts13_2 uy31
                            have ws_y31 := fg_up uy31 ws_s13_2
                            exact rl_some ⟨uy31, vtp_y31⟩
                          · have dc14 := tl_nle (rfl : TI s13_1 s13_1.toInt) tn_1 c14
                            exact rl_some ⟨(up_0 mu (κ := p) _ _), vtp_s13_2⟩
                        · rintro y27 y27r ⟨uy27, wtp_y27⟩
                          have uy27 : Up mu p s13_2 s13_2r y27 y27r := uy27
                          have ty27 := cx_up ts13_2 uy27
                          have ws_y27 := fg_up uy27 ws_s13_2
                          have wtp_y27 : TPL mu y27 y27r := wtp_y27
                          exact rl_some ⟨uy27, wtp_y27⟩
                      · refine rl_ltI (av_mul tn_4 i1 (by omega) (by omega)) (fun x24 ix24 => ?_)
                        refine rl_ltA (fun x25 => ?_)
                        refine rl_bnd (c_addPart ts13_2 hl vtp_s13_2) ?_
                        rintro y26 y26r ⟨uy26', vtp_y26⟩
                        have uy26 : Up mu p s13_2 s13_2r y26 y26r := uy26'
                        have ty26 := cx_up ts13_2 uy26
                        have ws_y26 := fg_up uy26 ws_s13_2
                        exact rl_some ⟨uy26, vtp_y26⟩
                    · rintro y22 y22r ⟨uy22, wtp_y22⟩
                      have uy22 : Up mu p s13_2 s13_2r y22 y22r := uy22
                      have ty22 := cx_up ts13_2 uy22
                      have ws_y22 := fg_up uy22 ws_s13_2
                      have wtp_y22 : TPL mu y22 y22r := wtp_y22
                      exact rl_some ⟨uy22, wtp_y22⟩
                · rintro y17 y17r ⟨uy17, wtp_y17⟩
                  have uy17 : Up mu p s13_2 s13_2r y17 y17r := uy17
                  have ty17 := cx_up ts13_2 uy17
                  have ws_y17 := fg_up uy17 ws_s13_2
                  have wtp_y17 : TPL mu y17 y17r := wtp_y17
                  refine rl_bnd (Q := fun (y z : Int32) => y = z ∧ (1 ≤ y.toInt ∧ y.toInt ≤ 2)) ?_ ?_
                  · refine rl_if (fun c15 => ?_) (fun c15 => ?_)
                    · have dc15 := tl_eq (rfl : TI y4 y4.toInt) tn_1 c15
                      exact rl_some ⟨rfl, (ti_bd tn_2 (by omega) (by omega))⟩
                    · exact rl_some ⟨rfl, (ti_bd tn_1 (by omega) (by omega))⟩
                  · rintro y18 y18r ⟨ey18, ly18⟩
                    obtain rfl : y18 = y18r := ey18
                    have ly18 : 1 ≤ y18.toInt ∧ y18.toInt ≤ 2 := ly18
                    have iy18 : TI y18 y18.toInt := rfl
                    refine rl_ltA (fun x19 => ?_)
                    exact rl_inl ⟨rfl, (up_tr us13_2 uy17), wtp_y17⟩
            · exact ⟨rfl, (up_0 mu (κ := p) _ _), vtp_y8⟩
            · rintro ⟨y12_1, y12_2⟩ ⟨y12_1r, y12_2r⟩ ⟨ey12_1, uy12_2, vtp_y12_2⟩
              obtain rfl : y12_1 = y12_1r := ey12_1
              have uy12_2 : Up mu p y8 y8r y12_2 y12_2r := uy12_2
              have ty12_2 := cx_up ty8 uy12_2
              have ws_y12_2 := fg_up uy12_2 ws_y8
              have vtp_y12_2 : TPL mu y12_2 y12_2r := vtp_y12_2
              exact rl_some ⟨(up_tr uy8 uy12_2), vtp_y12_2⟩
theorem c_plan {mu : Nat → Nat} {G H : GG} {M N : DD} {p : Nat} {L : List Nat} (t : CX mu G H M N p L) {p0 : Int32} {p1 : Int32} (hl : G.2.2 135 = 80 ∧ G.2.2 136 = 16) (hs : p0 ≠ 0 ∧ p1 = 22 ∨ p0 = 0 ∧ ¬ p1 ≤ 2 → FG mu M N 134 (LT 4)) : LKS (FX9_plan G M 125 p0 p1) (FX9_plan H N (mu 125) p0 p1) (fun y z => Up mu p M N y z ∧ TPL mu y z) := by
  unfold FX9_plan
  refine rl_wV (κ := p) (cx_U t) (by have := cx_q0 t (cx_p t); omega) (fun M1 M1r uM1 AM1 nM1 vM1 => ?_)
  have tM1 := cx_up t uM1
  refine rl_wV (κ := p) (cx_U tM1) (by have := cx_q0 tM1 (cx_p tM1); omega) (fun M2 M2r uM2 AM2 nM2 vM2 => ?_)
  have tM2 := cx_up tM1 uM2
  have wP125_14_M2 := ag_up uM2 AM1
  have wtp_M2 : TPL mu M2 M2r := tp_0 (ag_up uM2 AM1) AM2 (by rw [nM2 125 14 (by omega)]; exact vM1) vM2
  refine rl_if (fun c1 => ?_) (fun c1 => ?_)
  · have dc1 := tl_eq (rfl : TI p0 p0.toInt) tn_0 c1
    refine rl_if (fun c2 => ?_) (fun c2 => ?_)
    · have dc2 := tl_le (rfl : TI p1 p1.toInt) tn_2 c2
      refine rl_bnd (Q := fun (y z : Int32) => y = z) ?_ ?_
      · refine rl_if (fun c3 => ?_) (fun c3 => ?_)
        · have dc3 := tl_eq (rfl : TI p0 p0.toInt) tn_0 c3
          exact rl_some rfl
        · have dc3 := tl_ne (rfl : TI p0 p0.toInt) tn_0 c3
          exfalso
          omega
      · rintro y46 y46r ey46
        obtain rfl : y46 = y46r := ey46
        refine rl_ltA (fun x47 => ?_)
        refine rl_ltA (fun x48 => ?_)
        refine rl_bnd (Q := fun (y z : Int32) => y = z ∧ (1 ≤ y.toInt ∧ y.toInt ≤ 1)) ?_ ?_
        · refine rl_if (fun c4 => ?_) (fun c4 => ?_)
          · have dc4 := tl_eq (rfl : TI p0 p0.toInt) tn_0 c4
            exact rl_some ⟨rfl, (ti_bd tn_1 (by omega) (by omega))⟩
          · have dc4 := tl_ne (rfl : TI p0 p0.toInt) tn_0 c4
            exfalso
            omega
        · rintro y49 y49r ⟨ey49, ly49⟩
          obtain rfl : y49 = y49r := ey49
          have ly49 : 1 ≤ y49.toInt ∧ y49.toInt ≤ 1 := ly49
          have iy49 : TI y49 (1) := ti_c ly49
          refine rl_bnd (Q := fun (y z : Int32) => y = z ∧ (1 ≤ y.toInt ∧ y.toInt ≤ 1)) ?_ ?_
          · refine rl_if (fun c5 => ?_) (fun c5 => ?_)
            · have dc5 := tl_eq (rfl : TI p0 p0.toInt) tn_0 c5
              exact rl_some ⟨rfl, (ti_bd iy49 (by omega) (by omega))⟩
            · have dc5 := tl_ne (rfl : TI p0 p0.toInt) tn_0 c5
              exfalso
              omega
          · rintro y50 y50r ⟨ey50, ly50⟩
            obtain rfl : y50 = y50r := ey50
            have ly50 : 1 ≤ y50.toInt ∧ y50.toInt ≤ 1 := ly50
            have iy50 : TI y50 (1) := ti_c ly50
            refine rl_bnd (Q := fun (y z : DD) => Up mu p M2 M2r y z ∧ TPL mu y z) ?_ ?_
            · refine rl_if (fun c6 => ?_) (fun c6 => ?_)
              · have dc6 := tl_eq (rfl : TI y46 y46.toInt) tn_0 c6
                refine rl_bnd (c_addGroup tM2 hl wtp_M2) ?_
                rintro y63 y63r ⟨uy63', vtp_y63⟩
                have uy63 : Up mu p M2 M2r y63 y63r := uy63'
                have ty63 := cx_up tM2 uy63
                have wP125_14_y63 := ag_up uy63 wP125_14_M2
                have wP125_16_y63 := ag_up uy63 AM2
                refine rl_bnd (c_addPart ty63 hl vtp_y63) ?_
                rintro y64 y64r ⟨uy64', vtp_y64⟩
                have uy64 : Up mu p y63 y63r y64 y64r := uy64'
                have ty64 := cx_up ty63 uy64
                have wP125_14_y64 := ag_up uy64 wP125_14_y63
                have wP125_16_y64 := ag_up uy64 wP125_16_y63
                exact rl_some ⟨(up_tr uy63 uy64), vtp_y64⟩
              · refine rl_bnd (Q := fun (y z : DD) => Up mu p M2 M2r y z ∧ TPL mu y z) ?_ ?_
                · refine rl_if (fun c7 => ?_) (fun c7 => ?_)
                  · have dc7 := tl_eq (rfl : TI y46 y46.toInt) tn_1 c7
                    refine rl_bnd (c_addGroup tM2 hl wtp_M2) ?_
                    rintro y59 y59r ⟨uy59', vtp_y59⟩
                    have uy59 : Up mu p M2 M2r y59 y59r := uy59'
                    have ty59 := cx_up tM2 uy59
                    have wP125_14_y59 := ag_up uy59 wP125_14_M2
                    have wP125_16_y59 := ag_up uy59 AM2
                    refine rl_bnd (c_addPart ty59 hl vtp_y59) ?_
                    rintro y60 y60r ⟨uy60', vtp_y60⟩
                    have uy60 : Up mu p y59 y59r y60 y60r := uy60'
                    have ty60 := cx_up ty59 uy60
                    have wP125_14_y60 := ag_up uy60 wP125_14_y59
                    have wP125_16_y60 := ag_up uy60 wP125_16_y59
                    refine rl_bnd (c_addGroup ty60 hl vtp_y60) ?_
                    rintro y61 y61r ⟨uy61', vtp_y61⟩
                    have uy61 : Up mu p y60 y60r y61 y61r := uy61'
                    have ty61 := cx_up ty60 uy61
                    have wP125_14_y61 := ag_up uy61 wP125_14_y60
                    have wP125_16_y61 := ag_up uy61 wP125_16_y60
                    refine rl_bnd (c_addPart ty61 hl vtp_y61) ?_
                    rintro y62 y62r ⟨uy62', vtp_y62⟩
                    have uy62 : Up mu p y61 y61r y62 y62r := uy62'
                    have ty62 := cx_up ty61 uy62
                    have wP125_14_y62 := ag_up uy62 wP125_14_y61
                    have wP125_16_y62 := ag_up uy62 wP125_16_y61
                    exact rl_some ⟨(up_tr (up_tr (up_tr uy59 uy60) uy61) uy62), vtp_y62⟩
                  · refine rl_bnd (c_addGroup tM2 hl wtp_M2) ?_
                    rintro y55 y55r ⟨uy55', vtp_y55⟩
                    have uy55 : Up mu p M2 M2r y55 y55r := uy55'
                    have ty55 := cx_up tM2 uy55
                    have wP125_14_y55 := ag_up uy55 wP125_14_M2
                    have wP125_16_y55 := ag_up uy55 AM2
                    refine rl_bnd (c_addPart ty55 hl vtp_y55) ?_
                    rintro y56 y56r ⟨uy56', vtp_y56⟩
                    have uy56 : Up mu p y55 y55r y56 y56r := uy56'
                    have ty56 := cx_up ty55 uy56
                    have wP125_14_y56 := ag_up uy56 wP125_14_y55
                    have wP125_16_y56 := ag_up uy56 wP125_16_y55
                    refine rl_bnd (c_addGroup ty56 hl vtp_y56) ?_
                    rintro y57 y57r ⟨uy57', vtp_y57⟩
                    have uy57 : Up mu p y56 y56r y57 y57r := uy57'
                    have ty57 := cx_up ty56 uy57
                    have wP125_14_y57 := ag_up uy57 wP125_14_y56
                    have wP125_16_y57 := ag_up uy57 wP125_16_y56
                    refine rl_bnd (c_addPart ty57 hl vtp_y57) ?_
                    rintro y58 y58r ⟨uy58', vtp_y58⟩
                    have uy58 : Up mu p y57 y57r y58 y58r := uy58'
                    have ty58 := cx_up ty57 uy58
                    have wP125_14_y58 := ag_up uy58 wP125_14_y57
                    have wP125_16_y58 := ag_up uy58 wP125_16_y57
                    exact rl_some ⟨(up_tr (up_tr (up_tr uy55 uy56) uy57) uy58), vtp_y58⟩
                · rintro y53 y53r ⟨uy53, wtp_y53⟩
                  have uy53 : Up mu p M2 M2r y53 y53r := uy53
                  have ty53 := cx_up tM2 uy53
                  have wP125_14_y53 := ag_up uy53 wP125_14_M2
                  have wP125_16_y53 := ag_up uy53 AM2
                  have wtp_y53 : TPL mu y53 y53r := wtp_y53
                  exact rl_some ⟨uy53, wtp_y53⟩
            · rintro y51 y51r ⟨uy51, wtp_y51⟩
              have uy51 : Up mu p M2 M2r y51 y51r := uy51
              have ty51 := cx_up tM2 uy51
              have wP125_14_y51 := ag_up uy51 wP125_14_M2
              have wP125_16_y51 := ag_up uy51 AM2
              have wtp_y51 : TPL mu y51 y51r := wtp_y51
              exact rl_some ⟨(up_tr (up_tr uM1 uM2) uy51), wtp_y51⟩
    · have dc2 := tl_nle (rfl : TI p1 p1.toInt) tn_2 c2
      refine rl_bnd (Q := fun (y z : Int32 × DD) => y.1 = z.1 ∧ (0 ≤ y.1.toInt ∧ y.1.toInt ≤ 4) ∧ Up mu p M2 M2r y.2 z.2 ∧ TPL mu y.2 z.2) (rl_itr (fun (y z : Int32 × DD) => y.1 = z.1 ∧ (0 ≤ y.1.toInt ∧ y.1.toInt ≤ 4) ∧ Up mu p M2 M2r y.2 z.2 ∧ TPL mu y.2 z.2) _ ?_ _ _ _ ?_) ?_
      · rintro ⟨s80_1, s80_2⟩ ⟨s80_1r, s80_2r⟩ ⟨es80_1, ls80_1, us80_2, vtp_s80_2⟩
        obtain rfl : s80_1 = s80_1r := es80_1
        have ls80_1 : 0 ≤ s80_1.toInt ∧ s80_1.toInt ≤ 4 := ls80_1
        have is80_1 : TI s80_1 s80_1.toInt := rfl
        have us80_2 : Up mu p M2 M2r s80_2 s80_2r := us80_2
        have ts80_2 := cx_up tM2 us80_2
        have wP125_14_s80_2 := ag_up us80_2 wP125_14_M2
        have wP125_16_s80_2 := ag_up us80_2 AM2
        have vtp_s80_2 : TPL mu s80_2 s80_2r := vtp_s80_2
        refine rl_if (fun c8 => ?_) (fun c8 => ?_)
        · have dc8 := tl_le tn_4 is80_1 c8
          exact rl_inr ⟨rfl, (ti_bd is80_1 (by omega) (by omega)), us80_2, vtp_s80_2⟩
        · have dc8 := tl_nle tn_4 is80_1 c8
          refine rl_bnd (c_planQuarter ts80_2 is80_1 (by omega) (by omega) hl vtp_s80_2 (fg_up (up_tr (up_tr uM1 uM2) us80_2) (hs (by first | exact Or.inl ⟨by assumption, by assumption⟩ | exact Or.inr ⟨by assumption, by assumption⟩)))) ?_
          rintro y84 y84r ⟨uy84', vtp_y84⟩
          have uy84 : Up mu p s80_2 s80_2r y84 y84r := uy84'
          have ty84 := cx_up ts80_2 uy84
          have wP125_14_y84 := ag_up uy84 wP125_14_s80_2
          have wP125_16_y84 := ag_up uy84 wP125_16_s80_2
          refine rl_ltI (av_add is80_1 tn_1 (by omega) (by omega)) (fun x85 ix85 => ?_)
          exact rl_inl ⟨rfl, (ti_bd ix85 (by omega) (by omega)), (up_tr us80_2 uy84), vtp_y84⟩
      · exact ⟨rfl, (ti_bd tn_0 (by omega) (by omega)), (up_0 mu (κ := p) _ _), wtp_M2⟩
      · rintro ⟨y79_1, y79_2⟩ ⟨y79_1r, y79_2r⟩ ⟨ey79_1, ly79_1, uy79_2, vtp_y79_2⟩
        obtain rfl : y79_1 = y79_1r := ey79_1
        have ly79_1 : 0 ≤ y79_1.toInt ∧ y79_1.toInt ≤ 4 := ly79_1
        have iy79_1 : TI y79_1 y79_1.toInt := rfl
        have uy79_2 : Up mu p M2 M2r y79_2 y79_2r := uy79_2
        have ty79_2 := cx_up tM2 uy79_2
        have wP125_14_y79_2 := ag_up uy79_2 wP125_14_M2
        have wP125_16_y79_2 := ag_up uy79_2 AM2
        have vtp_y79_2 : TPL mu y79_2 y79_2r := vtp_y79_2
        exact rl_some ⟨(up_tr (up_tr uM1 uM2) uy79_2), vtp_y79_2⟩
  · refine rl_if (fun c9 => ?_) (fun c9 => ?_)
    · have dc9 := tl_eq (rfl : TI p1 p1.toInt) tn_22 c9
      refine rl_bnd (Q := fun (y z : Int32 × DD) => y.1 = z.1 ∧ (0 ≤ y.1.toInt ∧ y.1.toInt ≤ 4) ∧ Up mu p M2 M2r y.2 z.2 ∧ TPL mu y.2 z.2) (rl_itr (fun (y z : Int32 × DD) => y.1 = z.1 ∧ (0 ≤ y.1.toInt ∧ y.1.toInt ≤ 4) ∧ Up mu p M2 M2r y.2 z.2 ∧ TPL mu y.2 z.2) _ ?_ _ _ _ ?_) ?_
      · rintro ⟨s39_1, s39_2⟩ ⟨s39_1r, s39_2r⟩ ⟨es39_1, ls39_1, us39_2, vtp_s39_2⟩
        obtain rfl : s39_1 = s39_1r := es39_1
        have ls39_1 : 0 ≤ s39_1.toInt ∧ s39_1.toInt ≤ 4 := ls39_1
        have is39_1 : TI s39_1 s39_1.toInt := rfl
        have us39_2 : Up mu p M2 M2r s39_2 s39_2r := us39_2
        have ts39_2 := cx_up tM2 us39_2
        have wP125_14_s39_2 := ag_up us39_2 wP125_14_M2
        have wP125_16_s39_2 := ag_up us39_2 AM2
        have vtp_s39_2 : TPL mu s39_2 s39_2r := vtp_s39_2
        refine rl_if (fun c10 => ?_) (fun c10 => ?_)
        · have dc10 := tl_le tn_4 is39_1 c10
          exact rl_inr ⟨rfl, (ti_bd is39_1 (by omega) (by omega)), us39_2, vtp_s39_2⟩
        · have dc10 := tl_nle tn_4 is39_1 c10
          refine rl_bnd (c_planQuarter ts39_2 is39_1 (by omega) (by omega) hl vtp_s39_2 (fg_up (up_tr (up_tr uM1 uM2) us39_2) (hs (by first | exact Or.inl ⟨by assumption, by assumption⟩ | exact Or.inr ⟨by assumption, by assumption⟩)))) ?_
          rintro y43 y43r ⟨uy43', vtp_y43⟩
          have uy43 : Up mu p s39_2 s39_2r y43 y43r := uy43'
          have ty43 := cx_up ts39_2 uy43
          have wP125_14_y43 := ag_up uy43 wP125_14_s39_2
          have wP125_16_y43 := ag_up uy43 wP125_16_s39_2
          refine rl_ltI (av_add is39_1 tn_1 (by omega) (by omega)) (fun x44 ix44 => ?_)
          exact rl_inl ⟨rfl, (ti_bd ix44 (by omega) (by omega)), (up_tr us39_2 uy43), vtp_y43⟩
      · exact ⟨rfl, (ti_bd tn_0 (by omega) (by omega)), (up_0 mu (κ := p) _ _), wtp_M2⟩
      · rintro ⟨y38_1, y38_2⟩ ⟨y38_1r, y38_2r⟩ ⟨ey38_1, ly38_1, uy38_2, vtp_y38_2⟩
        obtain rfl : y38_1 = y38_1r := ey38_1
        have ly38_1 : 0 ≤ y38_1.toInt ∧ y38_1.toInt ≤ 4 := ly38_1
        have iy38_1 : TI y38_1 y38_1.toInt := rfl
        have uy38_2 : Up mu p M2 M2r y38_2 y38_2r := uy38_2
        have ty38_2 := cx_up tM2 uy38_2
        have wP125_14_y38_2 := ag_up uy38_2 wP125_14_M2
        have wP125_16_y38_2 := ag_up uy38_2 AM2
        have vtp_y38_2 : TPL mu y38_2 y38_2r := vtp_y38_2
        exact rl_some ⟨(up_tr (up_tr uM1 uM2) uy38_2), vtp_y38_2⟩
    · refine rl_bnd (Q := fun (y z : Int32) => y = z) ?_ ?_
      · refine rl_if (fun c11 => ?_) (fun c11 => ?_)
        · have dc11 := tl_eq (rfl : TI p0 p0.toInt) tn_0 c11
          exact rl_some rfl
        · refine rl_bnd (Q := fun (y z : Int32) => y = z ∧ (0 ≤ y.toInt ∧ y.toInt ≤ 2)) ?_ ?_
          · refine rl_if (fun c12 => ?_) (fun c12 => ?_)
            · have dc12 := tl_le tn_4 (rfl : TI p1 p1.toInt) c12
              refine rl_ltI (av_mod (rfl : TI p1 p1.toInt) tn_2 (by omega) (by omega)) (fun x36 ix36 => ?_)
              refine rl_ltI (av_add tn_1 ix36 (by omega) (by omega)) (fun x37 ix37 => ?_)
              exact rl_some ⟨rfl, (ti_bd ix37 (by omega) (by omega))⟩
            · have dc12 := tl_nle tn_4 (rfl : TI p1 p1.toInt) c12
              exact rl_some ⟨rfl, (ti_bd tn_0 (by omega) (by omega))⟩
          · rintro y34 y34r ⟨ey34, ly34⟩
            obtain rfl : y34 = y34r := ey34
            have ly34 : 0 ≤ y34.toInt ∧ y34.toInt ≤ 2 := ly34
            have iy34 : TI y34 y34.toInt := rfl
            exact rl_some rfl
      · rintro y5 y5r ey5
        obtain rfl : y5 = y5r := ey5
        refine rl_ltA (fun x6 => ?_)
        refine rl_ltA (fun x7 => ?_)
        refine rl_bnd (Q := fun (y z : Int32) => y = z) ?_ ?_
        · refine rl_if (fun c13 => ?_) (fun c13 => ?_)
          · have dc13 := tl_eq (rfl : TI p0 p0.toInt) tn_0 c13
            exact rl_some rfl
          · refine rl_bnd (Q := fun (y z : Int32) => y = z) ?_ ?_
            · refine rl_if (fun c14 => ?_) (fun c14 => ?_)
              · have dc14 := tl_le tn_4 (rfl : TI p1 p1.toInt) c14
                refine rl_chk (fun h => h) (fun _ => ?_)
                refine rl_ltB (tb_16 _) (fun x32 lx32 => ?_)
                have ix32 : TI x32 x32.toInt := rfl
                exact rl_some rfl
              · have dc14 := tl_nle tn_4 (rfl : TI p1 p1.toInt) c14
                exact rl_some rfl
            · rintro y30 y30r ey30
              obtain rfl : y30 = y30r := ey30
              exact rl_some rfl
        · rintro y8 y8r ey8
          obtain rfl : y8 = y8r := ey8
          refine rl_bnd (Q := fun (y z : Int32) => y = z) ?_ ?_
          · refine rl_if (fun c16 => ?_) (fun c16 => ?_)
            · have dc16 := tl_eq (rfl : TI p0 p0.toInt) tn_0 c16
              exact rl_some rfl
            · refine rl_bnd (Q := fun (y z : Int32) => y = z) ?_ ?_
              · refine rl_if (fun c17 => ?_) (fun c17 => ?_)
                · have dc17 := tl_le tn_4 (rfl : TI p1 p1.toInt) c17
                  refine rl_ltA (fun x27 => ?_)
                  refine rl_chk (fun h => h) (fun _ => ?_)
                  refine rl_ltB (tb_16 _) (fun x28 lx28 => ?_)
                  have ix28 : TI x28 x28.toInt := rfl
                  exact rl_some rfl
                · have dc17 := tl_nle tn_4 (rfl : TI p1 p1.toInt) c17
                  exact rl_some rfl
              · rintro y25 y25r ey25
                obtain rfl : y25 = y25r := ey25
                exact rl_some rfl
          · rintro y9 y9r ey9
            obtain rfl : y9 = y9r := ey9
            refine rl_bnd (Q := fun (y z : DD) => Up mu p M2 M2r y z ∧ TPL mu y z) ?_ ?_
            · refine rl_if (fun c19 => ?_) (fun c19 => ?_)
              · have dc19 := tl_eq (rfl : TI y5 y5.toInt) tn_0 c19
                refine rl_bnd (c_addGroup tM2 hl wtp_M2) ?_
                rintro y22 y22r ⟨uy22', vtp_y22⟩
                have uy22 : Up mu p M2 M2r y22 y22r := uy22'
                have ty22 := cx_up tM2 uy22
                have wP125_14_y22 := ag_up uy22 wP125_14_M2
                have wP125_16_y22 := ag_up uy22 AM2
                refine rl_bnd (c_addPart ty22 hl vtp_y22) ?_
                rintro y23 y23r ⟨uy23', vtp_y23⟩
                have uy23 : Up mu p y22 y22r y23 y23r := uy23'
                have ty23 := cx_up ty22 uy23
                have wP125_14_y23 := ag_up uy23 wP125_14_y22
                have wP125_16_y23 := ag_up uy23 wP125_16_y22
                exact rl_some ⟨(up_tr uy22 uy23), vtp_y23⟩
              · refine rl_bnd (Q := fun (y z : DD) => Up mu p M2 M2r y z ∧ TPL mu y z) ?_ ?_
                · refine rl_if (fun c20 => ?_) (fun c20 => ?_)
                  · have dc20 := tl_eq (rfl : TI y5 y5.toInt) tn_1 c20
                    refine rl_bnd (c_addGroup tM2 hl wtp_M2) ?_
                    rintro y18 y18r ⟨uy18', vtp_y18⟩
                    have uy18 : Up mu p M2 M2r y18 y18r := uy18'
                    have ty18 := cx_up tM2 uy18
                    have wP125_14_y18 := ag_up uy18 wP125_14_M2
                    have wP125_16_y18 := ag_up uy18 AM2
                    refine rl_bnd (c_addPart ty18 hl vtp_y18) ?_
                    rintro y19 y19r ⟨uy19', vtp_y19⟩
                    have uy19 : Up mu p y18 y18r y19 y19r := uy19'
                    have ty19 := cx_up ty18 uy19
                    have wP125_14_y19 := ag_up uy19 wP125_14_y18
                    have wP125_16_y19 := ag_up uy19 wP125_16_y18
                    refine rl_bnd (c_addGroup ty19 hl vtp_y19) ?_
                    rintro y20 y20r ⟨uy20', vtp_y20⟩
                    have uy20 : Up mu p y19 y19r y20 y20r := uy20'
                    have ty20 := cx_up ty19 uy20
                    have wP125_14_y20 := ag_up uy20 wP125_14_y19
                    have wP125_16_y20 := ag_up uy20 wP125_16_y19
                    refine rl_bnd (c_addPart ty20 hl vtp_y20) ?_
                    rintro y21 y21r ⟨uy21', vtp_y21⟩
                    have uy21 : Up mu p y20 y20r y21 y21r := uy21'
                    have ty21 := cx_up ty20 uy21
                    have wP125_14_y21 := ag_up uy21 wP125_14_y20
                    have wP125_16_y21 := ag_up uy21 wP125_16_y20
                    exact rl_some ⟨(up_tr (up_tr (up_tr uy18 uy19) uy20) uy21), vtp_y21⟩
                  · refine rl_bnd (c_addGroup tM2 hl wtp_M2) ?_
                    rintro y14 y14r ⟨uy14', vtp_y14⟩
                    have uy14 : Up mu p M2 M2r y14 y14r := uy14'
                    have ty14 := cx_up tM2 uy14
                    have wP125_14_y14 := ag_up uy14 wP125_14_M2
                    have wP125_16_y14 := ag_up uy14 AM2
                    refine rl_bnd (c_addPart ty14 hl vtp_y14) ?_
                    rintro y15 y15r ⟨uy15', vtp_y15⟩
                    have uy15 : Up mu p y14 y14r y15 y15r := uy15'
                    have ty15 := cx_up ty14 uy15
                    have wP125_14_y15 := ag_up uy15 wP125_14_y14
                    have wP125_16_y15 := ag_up uy15 wP125_16_y14
                    refine rl_bnd (c_addGroup ty15 hl vtp_y15) ?_
                    rintro y16 y16r ⟨uy16', vtp_y16⟩
                    have uy16 : Up mu p y15 y15r y16 y16r := uy16'
                    have ty16 := cx_up ty15 uy16
                    have wP125_14_y16 := ag_up uy16 wP125_14_y15
                    have wP125_16_y16 := ag_up uy16 wP125_16_y15
                    refine rl_bnd (c_addPart ty16 hl vtp_y16) ?_
                    rintro y17 y17r ⟨uy17', vtp_y17⟩
                    have uy17 : Up mu p y16 y16r y17 y17r := uy17'
                    have ty17 := cx_up ty16 uy17
                    have wP125_14_y17 := ag_up uy17 wP125_14_y16
                    have wP125_16_y17 := ag_up uy17 wP125_16_y16
                    exact rl_some ⟨(up_tr (up_tr (up_tr uy14 uy15) uy16) uy17), vtp_y17⟩
                · rintro y12 y12r ⟨uy12, wtp_y12⟩
                  have uy12 : Up mu p M2 M2r y12 y12r := uy12
                  have ty12 := cx_up tM2 uy12
                  have wP125_14_y12 := ag_up uy12 wP125_14_M2
                  have wP125_16_y12 := ag_up uy12 AM2
                  have wtp_y12 : TPL mu y12 y12r := wtp_y12
                  exact rl_some ⟨uy12, wtp_y12⟩
            · rintro y10 y10r ⟨uy10, wtp_y10⟩
              have uy10 : Up mu p M2 M2r y10 y10r := uy10
              have ty10 := cx_up tM2 uy10
              have wP125_14_y10 := ag_up uy10 wP125_14_M2
              have wP125_16_y10 := ag_up uy10 AM2
              have wtp_y10 : TPL mu y10 y10r := wtp_y10
              exact rl_some ⟨(up_tr (up_tr uM1 uM2) uy10), wtp_y10⟩
