/-! two runs in lockstep, printed out of the functions' trees -/
theorem r_predictRegion {mu : Nat → Nat} {G H : GG} {M N : DD} {p : Nat} {L : List Nat} (t : CX mu G H M N p L) {p0 p0r : Option Nat} (e0 : p0 = some 125 ∧ p0r = some (mu 125)) {p1 : Int32} {p2 : Int32} {a2 : Int} (i2 : TI p2 a2) {p3 : Int32} {a3 : Int} (i3 : TI p3 a3) {p4 : Int32} {a4 : Int} (i4 : TI p4 a4) (h0 : 0 ≤ a2) (h1 : a2 ≤ 15) (h2 : a3 = 4 ∨ a3 = 8 ∧ a2 % 4 = 0 ∨ a3 = 16 ∧ a2 = 0) (h3 : a4 = 1) (hm : WG mu M N 144 0 6 (fun j => j)) (hv : (EN M 0 (M.1 144 0) ∧ EN M 1 (M.1 144 3)) ∨ (EN M 0 (M.1 144 0) ∧ (M.1 144 3).toInt < 0) ∨ ((M.1 144 0).toInt < 0 ∧ EN M 1 (M.1 144 3))) : LKS (FX6_predictRegion G M 138 p0 p1 p2 p3 p4) (FX6_predictRegion H N (mu 138) p0r p1 p2 p3 p4) (fun y z => Up mu 144 M N y z ∧ WQ mu y z 139 a3 a3 (fun r x => 16 * (8 * (a2 / 8) + 4 * (a2 / 2 % 2)) + (8 * (a2 / 4 % 2) + 4 * (a2 % 2)) + r * 16 + x) ∧ WQ mu y z 139 (a3 / 2) (a3 / 2) (fun r x => 256 + 0 + 4 * (8 * (a2 / 8) + 4 * (a2 / 2 % 2)) + (8 * (a2 / 4 % 2) + 4 * (a2 % 2)) / 2 + r * 8 + x) ∧ WQ mu y z 139 (a3 / 2) (a3 / 2) (fun r x => 256 + 64 + 4 * (8 * (a2 / 8) + 4 * (a2 / 2 % 2)) + (8 * (a2 / 4 % 2) + 4 * (a2 % 2)) / 2 + r * 8 + x)) := by
  unfold FX6_predictRegion
  obtain ⟨rfl, rfl⟩ := e0
  rcases h2 with rfl | ⟨rfl, h2⟩ | ⟨rfl, rfl⟩
  · rcases hv with ⟨h0, h1⟩ | ⟨h0, h1⟩ | ⟨h0, h1⟩
    · refine rl_bnd (r_pieceX t i2 (by omega) (by omega)) ?_
      rintro ⟨y1_1, y1_2⟩ ⟨y1_1r, y1_2r⟩ ⟨uy1_1', ey1_2, iy1_2⟩
      have uy1_1 : Up mu 144 M N y1_1 y1_1r := uy1_1'
      have ty1_1 := cx_up t uy1_1
      have wm_y1_1 := wg_up uy1_1 hm
      obtain rfl : y1_2 = y1_2r := ey1_2
      refine rl_bnd (r_pieceY ty1_1 i2 (by omega) (by omega)) ?_
      rintro ⟨y2_1, y2_2⟩ ⟨y2_1r, y2_2r⟩ ⟨uy2_1', ey2_2, iy2_2⟩
      have uy2_1 : Up mu 144 y1_1 y1_1r y2_1 y2_1r := uy2_1'
      have ty2_1 := cx_up ty1_1 uy2_1
      have wm_y2_1 := wg_up uy2_1 wm_y1_1
      obtain rfl : y2_2 = y2_2r := ey2_2
      refine rl_dr (cx_U ty2_1) ⟨rfl, rfl⟩ (fun gb3 => ?_)
      refine rl_dr (cx_U ty2_1) (rx_p ty2_1) (fun gb4 => ?_)
      refine rl_rd (cx_q (j := 0) (k := 1) ty2_1 (cx_p t) rfl) (fun x5 => ?_)
      refine rl_chk (fun h => h) (fun k1 => ?_)
      refine rl_ltA (fun x6 => ?_)
      refine rl_ltA (fun x7 => ?_)
      refine rl_ltA (fun x8 => ?_)
      refine rl_rd (cx_q (j := 0) (k := 1) ty2_1 (cx_p t) rfl) (fun x9 => ?_)
      refine rl_chk (fun h => h) (fun k2 => ?_)
      refine rl_ltA (fun x10 => ?_)
      refine rl_ltA (fun x11 => ?_)
      refine rl_ltA (fun x12 => ?_)
      refine rl_ltI (av_mul tn_16 iy2_2 (by omega) (by omega)) (fun x13 ix13 => ?_)
      refine rl_ltI (av_add ix13 iy1_2 (by omega) (by omega)) (fun x14 ix14 => ?_)
      have kx14 : x14.toInt = _ := ix14
      refine rl_ltI (av_mul tn_4 iy2_2 (by omega) (by omega)) (fun x15 ix15 => ?_)
      refine rl_ltI (av_add tn_256 ix15 (by omega) (by omega)) (fun x16 ix16 => ?_)
      refine rl_ltI (av_div iy1_2 tn_2 (by omega) (by omega)) (fun x17 ix17 => ?_)
      refine rl_ltI (av_add ix16 ix17 (by omega) (by omega)) (fun x18 ix18 => ?_)
      have kx18 : x18.toInt = _ := ix18
      refine rl_bndK ?_
      refine rl_itQ (fun (y z : Int32 × DD) => y.1 = z.1 ∧ (0 ≤ y.1.toInt ∧ y.1.toInt ≤ 0) ∧ Up mu 144 y2_1 y2_1r y.2 z.2) ⟨rfl, (ti_bd tn_0 (by omega) (by omega)), (up_0 mu (κ := 144) _ _)⟩ ?_
      rintro ⟨s20_1, s20_2⟩ ⟨s20_1r, s20_2r⟩ ⟨es20_1, ls20_1, us20_2⟩
      obtain rfl : s20_1 = s20_1r := es20_1
      have ls20_1 : 0 ≤ s20_1.toInt ∧ s20_1.toInt ≤ 0 := ls20_1
      have is20_1 : TI s20_1 (0) := ti_c ls20_1
      have us20_2 : Up mu 144 y2_1 y2_1r s20_2 s20_2r := us20_2
      have ts20_2 := cx_up ty2_1 us20_2
      have wm_s20_2 := wg_up us20_2 wm_y2_1
      refine rl_it1 ?_
      refine rl_if (fun c3 => ?_) (fun c3 => ?_)
      · have dc3 := tl_le tn_2 is20_1 c3
        exfalso
        omega
      · have dc3 := tl_nle tn_2 is20_1 c3
        refine rl_ltI (av_mul tn_3 is20_1 (by omega) (by omega)) (fun x41 ix41 => ?_)
        refine rl_dr (cx_U ts20_2) (rx_c (a := 138) (k := 5) (b := 144) ts20_2 (Or.inr (Or.inl rfl)) rfl (by decide)) (fun gb42 => ?_)
        refine rl_chk (chkl (cx_U ts20_2) gb42) (fun k4 => ?_)
        refine rl_rdE (wg_id wm_s20_2 ix41 (by omega) (by omega)) (fun x43 ex43 => ?_)
        have mx43 : x43.toInt = (M.1 144 0).toInt := by rw [ex43, ti_n ix41, ((up_tr (up_tr uy1_1 uy2_1) us20_2)).2.2.2.1]; rfl
        have lx43 : 0 ≤ x43.toInt ∧ x43.toInt ≤ 7 := by rw [mx43]; exact h0.1
        refine rl_bnd (Q := fun (y z : Option Nat) => (∃ q, q ∈ L ∧ (y = some q ∧ z = some (mu q)))) ?_ ?_
        · refine rl_if (fun c5 => ?_) (fun c5 => ?_)
          · have dc5 := tl_lt (rfl : TI x43 x43.toInt) tn_0 c5
            exfalso
            omega
          · have dc5 := tl_nlt (rfl : TI x43 x43.toInt) tn_0 c5
            refine rl_bnd (Q := fun (y z : Option Nat) => (∃ q, q ∈ L ∧ (y = some q ∧ z = some (mu q)))) ?_ ?_
            · refine rl_if (fun c6 => ?_) (fun c6 => ?_)
              · have dc6 := tl_le (rfl : TI x43 x43.toInt) tn_8 c6
                refine rl_ltI (av_mul tn_9 is20_1 (by omega) (by omega)) (fun x70 ix70 => ?_)
                refine rl_ltI (av_add ix70 (rfl : TI x43 x43.toInt) (by omega) (by omega)) (fun x71 ix71 => ?_)
                refine rl_dr (cx_U ts20_2) (rx_c (a := 125) (k := 3) (b := 126) ts20_2 (Or.inl rfl) rfl (by decide)) (fun gb72 => ?_)
                refine rl_chk (chkl (cx_U ts20_2) gb72) (fun k7 => ?_)
                exact rl_some (or_ne (rx_l ts20_2 _) (by rw [((up_tr (up_tr uy1_1 uy2_1) us20_2)).1.1, ti_n ix71, mx43]; exact en_ix h0 0 (by omega)))
              · have dc6 := tl_nle (rfl : TI x43 x43.toInt) tn_8 c6
                exfalso
                omega
            · rintro y68 y68r ⟨qy68, hqy68, oy68⟩
              exact rl_some ⟨qy68, hqy68, oy68⟩
        · rintro y44 y44r ⟨qy44, hqy44, oy44⟩
          refine rl_bnd (Q := fun (y z : DD) => Up mu 144 s20_2 s20_2r y z ∧ WQ mu y z 140 4 4 (fun r x => x14.toInt + r * 16 + x) ∧ WQ mu y z 140 (4 / 2) (4 / 2) (fun r x => x18.toInt + 0 + r * 8 + x) ∧ WQ mu y z 140 (4 / 2) (4 / 2) (fun r x => x18.toInt + 64 + r * 8 + x)) ?_ ?_
          · refine rl_ifD (or_iff (mu := mu) (L := L) (Or.inr ⟨qy44, hqy44, oy44⟩)) (fun c8 => ?_) (fun c8 => ?_)
            · exact absurd c8 (by rw [oy44.1]; exact Option.some_ne_none _)
            · refine rl_ltA (fun x48 => ?_)
              refine rl_ltI (av_mul tn_3 is20_1 (by omega) (by omega)) (fun x49 ix49 => ?_)
              refine rl_ltI (av_add ix49 tn_1 (by omega) (by omega)) (fun x50 ix50 => ?_)
              refine rl_chk (chkl (cx_U ts20_2) gb42) (fun k9 => ?_)
              refine rl_rd (wg_id wm_s20_2 ix50 (by omega) (by omega)) (fun x51 => ?_)
              refine rl_ltA (fun x52 => ?_)
              refine rl_ltA (fun x53 => ?_)
              refine rl_ltI (av_mul tn_3 is20_1 (by omega) (by omega)) (fun x54 ix54 => ?_)
              refine rl_ltI (av_add ix54 tn_2 (by omega) (by omega)) (fun x55 ix55 => ?_)
              refine rl_chk (chkl (cx_U ts20_2) gb42) (fun k10 => ?_)
              refine rl_rd (wg_id wm_s20_2 ix55 (by omega) (by omega)) (fun x56 => ?_)
              refine rl_ltA (fun x57 => ?_)
              refine rl_bnd (Q := fun (y z : Option Nat) => (y = some 140 ∧ z = some (mu 140))) ?_ ?_
              · refine rl_if (fun c11 => ?_) (fun c11 => ?_)
                · have dc11 := tl_eq is20_1 tn_0 c11
                  exact rl_some (rx_c (a := 138) (k := 1) (b := 140) ts20_2 (Or.inr (Or.inl rfl)) rfl (by decide))
                · have dc11 := tl_ne is20_1 tn_0 c11
                  exfalso
                  omega
              · rintro y58 y58r oy58
                refine rl_bnd (r_predictLuma ts20_2 oy44 hqy44 (rfl : TI x52 x52.toInt) (rfl : TI x57 x57.toInt) i3 oy58 (Or.inl rfl) ix14 (by omega) (by omega) (by omega)) ?_
                rintro y59 y59r ⟨uy59', vFL_y59'⟩
                have uy59 : Up mu 144 s20_2 s20_2r y59 y59r := uy59'
                have ty59 := cx_up ts20_2 uy59
                have wm_y59 := wg_up uy59 wm_s20_2
                have vFL_y59 : WQ mu y59 y59r 140 4 4 (fun r x => x14.toInt + r * 16 + x) := wg_wq vFL_y59' (fun r x => r * 4 + x) (fun r x h1 h2 h3 h4 => by (try dsimp only); refine ⟨⟨by omega, by omega⟩, by omega⟩)
                refine rl_bnd (Q := fun (y z : DD) => Up mu 144 y59 y59r y z ∧ WQ mu y z 140 (4 / 2) (4 / 2) (fun r x => x18.toInt + 0 + r * 8 + x) ∧ WQ mu y z 140 (4 / 2) (4 / 2) (fun r x => x18.toInt + 64 + r * 8 + x)) ?_ ?_
                · refine rl_if (fun c12 => ?_) (fun c12 => ?_)
                  · have dc12 := tl_eq i4 tn_0 c12
                    exfalso
                    omega
                  · have dc12 := tl_ne i4 tn_0 c12
                    refine rl_ltI (av_div i3 tn_2 (by omega) (by omega)) (fun x62 ix62 => ?_)
                    refine rl_bnd (Q := fun (y z : Option Nat) => (y = some 140 ∧ z = some (mu 140))) ?_ ?_
                    · refine rl_if (fun c13 => ?_) (fun c13 => ?_)
                      · have dc13 := tl_eq is20_1 tn_0 c13
                        exact rl_some (rx_c (a := 138) (k := 1) (b := 140) ty59 (Or.inr (Or.inl rfl)) rfl (by decide))
                      · have dc13 := tl_ne is20_1 tn_0 c13
                        exfalso
                        omega
                    · rintro y63 y63r oy63
                      refine rl_bnd (r_predictColours ty59 oy44 hqy44 (rfl : TI x52 x52.toInt) (rfl : TI x57 x57.toInt) ix62 oy63 (Or.inl rfl) ix18 (by omega) (by omega) (by omega)) ?_
                      rintro y64 y64r ⟨uy64', vFU_y64', vFV_y64'⟩
                      have uy64 : Up mu 144 y59 y59r y64 y64r := uy64'
                      have ty64 := cx_up ty59 uy64
                      have wm_y64 := wg_up uy64 wm_y59
                      have wFL_y64 := wq_up uy64 vFL_y59
                      have vFU_y64 : WQ mu y64 y64r 140 (4 / 2) (4 / 2) (fun r x => x18.toInt + 0 + r * 8 + x) := wg_wq vFU_y64' (fun r x => r * (4 / 2) + x) (fun r x h1 h2 h3 h4 => by (try dsimp only); refine ⟨⟨by omega, by omega⟩, by omega⟩)
                      have vFV_y64 : WQ mu y64 y64r 140 (4 / 2) (4 / 2) (fun r x => x18.toInt + 64 + r * 8 + x) := wg_wq vFV_y64' (fun r x => r * (4 / 2) + x) (fun r x h1 h2 h3 h4 => by (try dsimp only); refine ⟨⟨by omega, by omega⟩, by omega⟩)
                      exact rl_some ⟨uy64, vFU_y64, vFV_y64⟩
                · rintro y60 y60r ⟨uy60, wFU_y60, wFV_y60⟩
                  have uy60 : Up mu 144 y59 y59r y60 y60r := uy60
                  have ty60 := cx_up ty59 uy60
                  have wm_y60 := wg_up uy60 wm_y59
                  have wFL_y60 := wq_up uy60 vFL_y59
                  have wFU_y60 : WQ mu y60 y60r 140 (4 / 2) (4 / 2) (fun r x => x18.toInt + 0 + r * 8 + x) := wFU_y60
                  have wFV_y60 : WQ mu y60 y60r 140 (4 / 2) (4 / 2) (fun r x => x18.toInt + 64 + r * 8 + x) := wFV_y60
                  exact rl_some ⟨(up_tr uy59 uy60), wFL_y60, wFU_y60, wFV_y60⟩
          · rintro y45 y45r ⟨uy45, wFL_y45, wFU_y45, wFV_y45⟩
            have uy45 : Up mu 144 s20_2 s20_2r y45 y45r := uy45
            have ty45 := cx_up ts20_2 uy45
            have wm_y45 := wg_up uy45 wm_s20_2
            have wFL_y45 : WQ mu y45 y45r 140 4 4 (fun r x => x14.toInt + r * 16 + x) := wFL_y45
            have wFU_y45 : WQ mu y45 y45r 140 (4 / 2) (4 / 2) (fun r x => x18.toInt + 0 + r * 8 + x) := wFU_y45
            have wFV_y45 : WQ mu y45 y45r 140 (4 / 2) (4 / 2) (fun r x => x18.toInt + 64 + r * 8 + x) := wFV_y45
            refine rl_ltI (av_add is20_1 tn_1 (by omega) (by omega)) (fun x46 ix46 => ?_)
            refine rl_inlQ (fun (y z : Int32 × DD) => y.1 = z.1 ∧ (1 ≤ y.1.toInt ∧ y.1.toInt ≤ 1) ∧ Up mu 144 y2_1 y2_1r y.2 z.2 ∧ WQ mu y.2 z.2 140 4 4 (fun r x => x14.toInt + r * 16 + x) ∧ WQ mu y.2 z.2 140 (4 / 2) (4 / 2) (fun r x => x18.toInt + 0 + r * 8 + x) ∧ WQ mu y.2 z.2 140 (4 / 2) (4 / 2) (fun r x => x18.toInt + 64 + r * 8 + x)) ⟨rfl, (ti_bd ix46 (by omega) (by omega)), (up_tr us20_2 uy45), wFL_y45, wFU_y45, wFV_y45⟩ ?_
            rintro ⟨s20_1, s20_2⟩ ⟨s20_1r, s20_2r⟩ ⟨es20_1, ls20_1, us20_2, wFL_s20_2, wFU_s20_2, wFV_s20_2⟩
            obtain rfl : s20_1 = s20_1r := es20_1
            have ls20_1 : 1 ≤ s20_1.toInt ∧ s20_1.toInt ≤ 1 := ls20_1
            have is20_1 : TI s20_1 (1) := ti_c ls20_1
            have us20_2 : Up mu 144 y2_1 y2_1r s20_2 s20_2r := us20_2
            have ts20_2 := cx_up ty2_1 us20_2
            have wm_s20_2 := wg_up us20_2 wm_y2_1
            have wFL_s20_2 : WQ mu s20_2 s20_2r 140 4 4 (fun r x => x14.toInt + r * 16 + x) := wFL_s20_2
            have wFU_s20_2 : WQ mu s20_2 s20_2r 140 (4 / 2) (4 / 2) (fun r x => x18.toInt + 0 + r * 8 + x) := wFU_s20_2
            have wFV_s20_2 : WQ mu s20_2 s20_2r 140 (4 / 2) (4 / 2) (fun r x => x18.toInt + 64 + r * 8 + x) := wFV_s20_2
            refine rl_it1 ?_
            refine rl_if (fun c14 => ?_) (fun c14 => ?_)
            · have dc14 := tl_le tn_2 is20_1 c14
              exfalso
              omega
            · have dc14 := tl_nle tn_2 is20_1 c14
              refine rl_ltI (av_mul tn_3 is20_1 (by omega) (by omega)) (fun x41 ix41 => ?_)
              refine rl_dr (cx_U ts20_2) (rx_c (a := 138) (k := 5) (b := 144) ts20_2 (Or.inr (Or.inl rfl)) rfl (by decide)) (fun gb42 => ?_)
              refine rl_chk (chkl (cx_U ts20_2) gb42) (fun k15 => ?_)
              refine rl_rdE (wg_id wm_s20_2 ix41 (by omega) (by omega)) (fun x43 ex43 => ?_)
              have mx43 : x43.toInt = (M.1 144 3).toInt := by rw [ex43, ti_n ix41, ((up_tr (up_tr uy1_1 uy2_1) us20_2)).2.2.2.1]; rfl
              have lx43 : 0 ≤ x43.toInt ∧ x43.toInt ≤ 7 := by rw [mx43]; exact h1.1
              refine rl_bnd (Q := fun (y z : Option Nat) => (∃ q, q ∈ L ∧ (y = some q ∧ z = some (mu q)))) ?_ ?_
              · refine rl_if (fun c16 => ?_) (fun c16 => ?_)
                · have dc16 := tl_lt (rfl : TI x43 x43.toInt) tn_0 c16
                  exfalso
                  omega
                · have dc16 := tl_nlt (rfl : TI x43 x43.toInt) tn_0 c16
                  refine rl_bnd (Q := fun (y z : Option Nat) => (∃ q, q ∈ L ∧ (y = some q ∧ z = some (mu q)))) ?_ ?_
                  · refine rl_if (fun c17 => ?_) (fun c17 => ?_)
                    · have dc17 := tl_le (rfl : TI x43 x43.toInt) tn_8 c17
                      refine rl_ltI (av_mul tn_9 is20_1 (by omega) (by omega)) (fun x70 ix70 => ?_)
                      refine rl_ltI (av_add ix70 (rfl : TI x43 x43.toInt) (by omega) (by omega)) (fun x71 ix71 => ?_)
                      refine rl_dr (cx_U ts20_2) (rx_c (a := 125) (k := 3) (b := 126) ts20_2 (Or.inl rfl) rfl (by decide)) (fun gb72 => ?_)
                      refine rl_chk (chkl (cx_U ts20_2) gb72) (fun k18 => ?_)
                      exact rl_some (or_ne (rx_l ts20_2 _) (by rw [((up_tr (up_tr uy1_1 uy2_1) us20_2)).1.1, ti_n ix71, mx43]; exact en_ix h1 1 (by omega)))
                    · have dc17 := tl_nle (rfl : TI x43 x43.toInt) tn_8 c17
                      exfalso
                      omega
                  · rintro y68 y68r ⟨qy68, hqy68, oy68⟩
                    exact rl_some ⟨qy68, hqy68, oy68⟩
              · rintro y44 y44r ⟨qy44, hqy44, oy44⟩
                refine rl_bnd (Q := fun (y z : DD) => Up mu 144 s20_2 s20_2r y z ∧ WQ mu y z 141 4 4 (fun r x => x14.toInt + r * 16 + x) ∧ WQ mu y z 141 (4 / 2) (4 / 2) (fun r x => x18.toInt + 0 + r * 8 + x) ∧ WQ mu y z 141 (4 / 2) (4 / 2) (fun r x => x18.toInt + 64 + r * 8 + x)) ?_ ?_
                · refine rl_ifD (or_iff (mu := mu) (L := L) (Or.inr ⟨qy44, hqy44, oy44⟩)) (fun c19 => ?_) (fun c19 => ?_)
                  · exact absurd c19 (by rw [oy44.1]; exact Option.some_ne_none _)
                  · refine rl_ltA (fun x48 => ?_)
                    refine rl_ltI (av_mul tn_3 is20_1 (by omega) (by omega)) (fun x49 ix49 => ?_)
                    refine rl_ltI (av_add ix49 tn_1 (by omega) (by omega)) (fun x50 ix50 => ?_)
                    refine rl_chk (chkl (cx_U ts20_2) gb42) (fun k20 => ?_)
                    refine rl_rd (wg_id wm_s20_2 ix50 (by omega) (by omega)) (fun x51 => ?_)
                    refine rl_ltA (fun x52 => ?_)
                    refine rl_ltA (fun x53 => ?_)
                    refine rl_ltI (av_mul tn_3 is20_1 (by omega) (by omega)) (fun x54 ix54 => ?_)
                    refine rl_ltI (av_add ix54 tn_2 (by omega) (by omega)) (fun x55 ix55 => ?_)
                    refine rl_chk (chkl (cx_U ts20_2) gb42) (fun k21 => ?_)
                    refine rl_rd (wg_id wm_s20_2 ix55 (by omega) (by omega)) (fun x56 => ?_)
                    refine rl_ltA (fun x57 => ?_)
                    refine rl_bnd (Q := fun (y z : Option Nat) => (y = some 141 ∧ z = some (mu 141))) ?_ ?_
                    · refine rl_if (fun c22 => ?_) (fun c22 => ?_)
                      · have dc22 := tl_eq is20_1 tn_0 c22
                        exfalso
                        omega
                      · have dc22 := tl_ne is20_1 tn_0 c22
                        exact rl_some (rx_c (a := 138) (k := 2) (b := 141) ts20_2 (Or.inr (Or.inl rfl)) rfl (by decide))
                    · rintro y58 y58r oy58
                      refine rl_bnd (r_predictLuma ts20_2 oy44 hqy44 (rfl : TI x52 x52.toInt) (rfl : TI x57 x57.toInt) i3 oy58 (Or.inr rfl) ix14 (by omega) (by omega) (by omega)) ?_
                      rintro y59 y59r ⟨uy59', vSL_y59'⟩
                      have uy59 : Up mu 144 s20_2 s20_2r y59 y59r := uy59'
                      have ty59 := cx_up ts20_2 uy59
                      have wm_y59 := wg_up uy59 wm_s20_2
                      have wFL_y59 := wq_up uy59 wFL_s20_2
                      have wFU_y59 := wq_up uy59 wFU_s20_2
                      have wFV_y59 := wq_up uy59 wFV_s20_2
                      have vSL_y59 : WQ mu y59 y59r 141 4 4 (fun r x => x14.toInt + r * 16 + x) := wg_wq vSL_y59' (fun r x => r * 4 + x) (fun r x h1 h2 h3 h4 => by (try dsimp only); refine ⟨⟨by omega, by omega⟩, by omega⟩)
                      refine rl_bnd (Q := fun (y z : DD) => Up mu 144 y59 y59r y z ∧ WQ mu y z 141 (4 / 2) (4 / 2) (fun r x => x18.toInt + 0 + r * 8 + x) ∧ WQ mu y z 141 (4 / 2) (4 / 2) (fun r x => x18.toInt + 64 + r * 8 + x)) ?_ ?_
                      · refine rl_if (fun c23 => ?_) (fun c23 => ?_)
                        · have dc23 := tl_eq i4 tn_0 c23
                          exfalso
                          omega
                        · have dc23 := tl_ne i4 tn_0 c23
                          refine rl_ltI (av_div i3 tn_2 (by omega) (by omega)) (fun x62 ix62 => ?_)
                          refine rl_bnd (Q := fun (y z : Option Nat) => (y = some 141 ∧ z = some (mu 141))) ?_ ?_
                          · refine rl_if (fun c24 => ?_) (fun c24 => ?_)
                            · have dc24 := tl_eq is20_1 tn_0 c24
                              exfalso
                              omega
                            · have dc24 := tl_ne is20_1 tn_0 c24
                              exact rl_some (rx_c (a := 138) (k := 2) (b := 141) ty59 (Or.inr (Or.inl rfl)) rfl (by decide))
                          · rintro y63 y63r oy63
                            refine rl_bnd (r_predictColours ty59 oy44 hqy44 (rfl : TI x52 x52.toInt) (rfl : TI x57 x57.toInt) ix62 oy63 (Or.inr rfl) ix18 (by omega) (by omega) (by omega)) ?_
                            rintro y64 y64r ⟨uy64', vSU_y64', vSV_y64'⟩
                            have uy64 : Up mu 144 y59 y59r y64 y64r := uy64'
                            have ty64 := cx_up ty59 uy64
                            have wm_y64 := wg_up uy64 wm_y59
                            have wFL_y64 := wq_up uy64 wFL_y59
                            have wFU_y64 := wq_up uy64 wFU_y59
                            have wFV_y64 := wq_up uy64 wFV_y59
                            have wSL_y64 := wq_up uy64 vSL_y59
                            have vSU_y64 : WQ mu y64 y64r 141 (4 / 2) (4 / 2) (fun r x => x18.toInt + 0 + r * 8 + x) := wg_wq vSU_y64' (fun r x => r * (4 / 2) + x) (fun r x h1 h2 h3 h4 => by (try dsimp only); refine ⟨⟨by omega, by omega⟩, by omega⟩)
                            have vSV_y64 : WQ mu y64 y64r 141 (4 / 2) (4 / 2) (fun r x => x18.toInt + 64 + r * 8 + x) := wg_wq vSV_y64' (fun r x => r * (4 / 2) + x) (fun r x h1 h2 h3 h4 => by (try dsimp only); refine ⟨⟨by omega, by omega⟩, by omega⟩)
                            exact rl_some ⟨uy64, vSU_y64, vSV_y64⟩
                      · rintro y60 y60r ⟨uy60, wSU_y60, wSV_y60⟩
                        have uy60 : Up mu 144 y59 y59r y60 y60r := uy60
                        have ty60 := cx_up ty59 uy60
                        have wm_y60 := wg_up uy60 wm_y59
                        have wFL_y60 := wq_up uy60 wFL_y59
                        have wFU_y60 := wq_up uy60 wFU_y59
                        have wFV_y60 := wq_up uy60 wFV_y59
                        have wSL_y60 := wq_up uy60 vSL_y59
                        have wSU_y60 : WQ mu y60 y60r 141 (4 / 2) (4 / 2) (fun r x => x18.toInt + 0 + r * 8 + x) := wSU_y60
                        have wSV_y60 : WQ mu y60 y60r 141 (4 / 2) (4 / 2) (fun r x => x18.toInt + 64 + r * 8 + x) := wSV_y60
                        exact rl_some ⟨(up_tr uy59 uy60), wSL_y60, wSU_y60, wSV_y60⟩
                · rintro y45 y45r ⟨uy45, wSL_y45, wSU_y45, wSV_y45⟩
                  have uy45 : Up mu 144 s20_2 s20_2r y45 y45r := uy45
                  have ty45 := cx_up ts20_2 uy45
                  have wm_y45 := wg_up uy45 wm_s20_2
                  have wFL_y45 := wq_up uy45 wFL_s20_2
                  have wFU_y45 := wq_up uy45 wFU_s20_2
                  have wFV_y45 := wq_up uy45 wFV_s20_2
                  have wSL_y45 : WQ mu y45 y45r 141 4 4 (fun r x => x14.toInt + r * 16 + x) := wSL_y45
                  have wSU_y45 : WQ mu y45 y45r 141 (4 / 2) (4 / 2) (fun r x => x18.toInt + 0 + r * 8 + x) := wSU_y45
                  have wSV_y45 : WQ mu y45 y45r 141 (4 / 2) (4 / 2) (fun r x => x18.toInt + 64 + r * 8 + x) := wSV_y45
                  refine rl_ltI (av_add is20_1 tn_1 (by omega) (by omega)) (fun x46 ix46 => ?_)
                  refine rl_inlQ (fun (y z : Int32 × DD) => y.1 = z.1 ∧ (2 ≤ y.1.toInt ∧ y.1.toInt ≤ 2) ∧ Up mu 144 y2_1 y2_1r y.2 z.2 ∧ WQ mu y.2 z.2 140 4 4 (fun r x => x14.toInt + r * 16 + x) ∧ WQ mu y.2 z.2 140 (4 / 2) (4 / 2) (fun r x => x18.toInt + 0 + r * 8 + x) ∧ WQ mu y.2 z.2 140 (4 / 2) (4 / 2) (fun r x => x18.toInt + 64 + r * 8 + x) ∧ WQ mu y.2 z.2 141 4 4 (fun r x => x14.toInt + r * 16 + x) ∧ WQ mu y.2 z.2 141 (4 / 2) (4 / 2) (fun r x => x18.toInt + 0 + r * 8 + x) ∧ WQ mu y.2 z.2 141 (4 / 2) (4 / 2) (fun r x => x18.toInt + 64 + r * 8 + x)) ⟨rfl, (ti_bd ix46 (by omega) (by omega)), (up_tr us20_2 uy45), wFL_y45, wFU_y45, wFV_y45, wSL_y45, wSU_y45, wSV_y45⟩ ?_
                  rintro ⟨s20_1, s20_2⟩ ⟨s20_1r, s20_2r⟩ ⟨es20_1, ls20_1, us20_2, wFL_s20_2, wFU_s20_2, wFV_s20_2, wSL_s20_2, wSU_s20_2, wSV_s20_2⟩
                  obtain rfl : s20_1 = s20_1r := es20_1
                  have ls20_1 : 2 ≤ s20_1.toInt ∧ s20_1.toInt ≤ 2 := ls20_1
                  have is20_1 : TI s20_1 (2) := ti_c ls20_1
                  have us20_2 : Up mu 144 y2_1 y2_1r s20_2 s20_2r := us20_2
                  have ts20_2 := cx_up ty2_1 us20_2
                  have wm_s20_2 := wg_up us20_2 wm_y2_1
                  have wFL_s20_2 : WQ mu s20_2 s20_2r 140 4 4 (fun r x => x14.toInt + r * 16 + x) := wFL_s20_2
                  have wFU_s20_2 : WQ mu s20_2 s20_2r 140 (4 / 2) (4 / 2) (fun r x => x18.toInt + 0 + r * 8 + x) := wFU_s20_2
                  have wFV_s20_2 : WQ mu s20_2 s20_2r 140 (4 / 2) (4 / 2) (fun r x => x18.toInt + 64 + r * 8 + x) := wFV_s20_2
                  have wSL_s20_2 : WQ mu s20_2 s20_2r 141 4 4 (fun r x => x14.toInt + r * 16 + x) := wSL_s20_2
                  have wSU_s20_2 : WQ mu s20_2 s20_2r 141 (4 / 2) (4 / 2) (fun r x => x18.toInt + 0 + r * 8 + x) := wSU_s20_2
                  have wSV_s20_2 : WQ mu s20_2 s20_2r 141 (4 / 2) (4 / 2) (fun r x => x18.toInt + 64 + r * 8 + x) := wSV_s20_2
                  refine rl_it1 ?_
                  refine rl_if (fun c25 => ?_) (fun c25 => ?_)
                  · have dc25 := tl_le tn_2 is20_1 c25
                    refine rl_inrQ (fun (y z : Int32 × DD) => y.1 = z.1 ∧ Up mu 144 y2_1 y2_1r y.2 z.2 ∧ WQ mu y.2 z.2 140 4 4 (fun r x => x14.toInt + r * 16 + x) ∧ WQ mu y.2 z.2 140 (4 / 2) (4 / 2) (fun r x => x18.toInt + 0 + r * 8 + x) ∧ WQ mu y.2 z.2 140 (4 / 2) (4 / 2) (fun r x => x18.toInt + 64 + r * 8 + x) ∧ WQ mu y.2 z.2 141 4 4 (fun r x => x14.toInt + r * 16 + x) ∧ WQ mu y.2 z.2 141 (4 / 2) (4 / 2) (fun r x => x18.toInt + 0 + r * 8 + x) ∧ WQ mu y.2 z.2 141 (4 / 2) (4 / 2) (fun r x => x18.toInt + 64 + r * 8 + x)) ⟨rfl, us20_2, wFL_s20_2, wFU_s20_2, wFV_s20_2, wSL_s20_2, wSU_s20_2, wSV_s20_2⟩ ?_
                    rintro ⟨y19_1, y19_2⟩ ⟨y19_1r, y19_2r⟩ ⟨ey19_1, uy19_2, wFL_y19_2, wFU_y19_2, wFV_y19_2, wSL_y19_2, wSU_y19_2, wSV_y19_2⟩
                    obtain rfl : y19_1 = y19_1r := ey19_1
                    have uy19_2 : Up mu 144 y2_1 y2_1r y19_2 y19_2r := uy19_2
                    have ty19_2 := cx_up ty2_1 uy19_2
                    have wm_y19_2 := wg_up uy19_2 wm_y2_1
                    have wFL_y19_2 : WQ mu y19_2 y19_2r 140 4 4 (fun r x => x14.toInt + r * 16 + x) := wFL_y19_2
                    have wFU_y19_2 : WQ mu y19_2 y19_2r 140 (4 / 2) (4 / 2) (fun r x => x18.toInt + 0 + r * 8 + x) := wFU_y19_2
                    have wFV_y19_2 : WQ mu y19_2 y19_2r 140 (4 / 2) (4 / 2) (fun r x => x18.toInt + 64 + r * 8 + x) := wFV_y19_2
                    have wSL_y19_2 : WQ mu y19_2 y19_2r 141 4 4 (fun r x => x14.toInt + r * 16 + x) := wSL_y19_2
                    have wSU_y19_2 : WQ mu y19_2 y19_2r 141 (4 / 2) (4 / 2) (fun r x => x18.toInt + 0 + r * 8 + x) := wSU_y19_2
                    have wSV_y19_2 : WQ mu y19_2 y19_2r 141 (4 / 2) (4 / 2) (fun r x => x18.toInt + 64 + r * 8 + x) := wSV_y19_2
                    refine rl_bndK ?_
                    refine rl_itQ (fun (y z : Int32 × DD) => y.1 = z.1 ∧ (0 ≤ y.1.toInt ∧ y.1.toInt ≤ 0) ∧ Up mu 144 y19_2 y19_2r y.2 z.2) ⟨rfl, (ti_bd tn_0 (by omega) (by omega)), (up_0 mu (κ := 144) _ _)⟩ ?_
                    rintro ⟨s23_1, s23_2⟩ ⟨s23_1r, s23_2r⟩ ⟨es23_1, ls23_1, us23_2⟩
                    obtain rfl : s23_1 = s23_1r := es23_1
                    have ls23_1 : 0 ≤ s23_1.toInt ∧ s23_1.toInt ≤ 0 := ls23_1
                    have is23_1 : TI s23_1 (0) := ti_c ls23_1
                    have us23_2 : Up mu 144 y19_2 y19_2r s23_2 s23_2r := us23_2
                    have ts23_2 := cx_up ty19_2 us23_2
                    have wm_s23_2 := wg_up us23_2 wm_y19_2
                    have wFL_s23_2 := wq_up us23_2 wFL_y19_2
                    have wFU_s23_2 := wq_up us23_2 wFU_y19_2
                    have wFV_s23_2 := wq_up us23_2 wFV_y19_2
                    have wSL_s23_2 := wq_up us23_2 wSL_y19_2
                    have wSU_s23_2 := wq_up us23_2 wSU_y19_2
                    have wSV_s23_2 := wq_up us23_2 wSV_y19_2
                    refine rl_it1 ?_
                    refine rl_bnd (Q := fun (y z : Int32) => y = z ∧ (3 ≤ y.toInt ∧ y.toInt ≤ 3)) ?_ ?_
                    · refine rl_if (fun c26 => ?_) (fun c26 => ?_)
                      · have dc26 := tl_eq i4 tn_0 c26
                        exfalso
                        omega
                      · have dc26 := tl_ne i4 tn_0 c26
                        exact rl_some ⟨rfl, (ti_bd tn_3 (by omega) (by omega))⟩
                    · rintro y26 y26r ⟨ey26, ly26⟩
                      obtain rfl : y26 = y26r := ey26
                      have ly26 : 3 ≤ y26.toInt ∧ y26.toInt ≤ 3 := ly26
                      have iy26 : TI y26 (3) := ti_c ly26
                      refine rl_if (fun c27 => ?_) (fun c27 => ?_)
                      · have dc27 := tl_le iy26 is23_1 c27
                        exfalso
                        omega
                      · have dc27 := tl_nle iy26 is23_1 c27
                        refine rl_bnd (r_chooseWeights ts23_2 ⟨rfl, rfl⟩ is23_1 (by omega) (by omega) wm_s23_2) ?_
                        rintro ⟨y28_1, y28_2⟩ ⟨y28_1r, y28_2r⟩ ⟨uy28_1', ey28_2, ly28_2, vk9_y28_1, vk11_y28_1, vk10_y28_1, vk12_y28_1, vk13_y28_1⟩
                        have uy28_1 : Up mu 144 s23_2 s23_2r y28_1 y28_1r := uy28_1'
                        have ty28_1 := cx_up ts23_2 uy28_1
                        have wm_y28_1 := wg_up uy28_1 wm_s23_2
                        have wFL_y28_1 := wq_up uy28_1 wFL_s23_2
                        have wFU_y28_1 := wq_up uy28_1 wFU_s23_2
                        have wFV_y28_1 := wq_up uy28_1 wFV_s23_2
                        have wSL_y28_1 := wq_up uy28_1 wSL_s23_2
                        have wSU_y28_1 := wq_up uy28_1 wSU_s23_2
                        have wSV_y28_1 := wq_up uy28_1 wSV_s23_2
                        obtain rfl : y28_2 = y28_2r := ey28_2
                        dsimp only at ly28_2
                        have iy28_2 : TI y28_2 y28_2.toInt := rfl
                        have n0 : (s23_2.1 144 0).toInt = (M.1 144 0).toInt := by rw [((up_tr (up_tr (up_tr uy1_1 uy2_1) uy19_2) us23_2)).2.2.2.1]
                        have n3 : (s23_2.1 144 3).toInt = (M.1 144 3).toInt := by rw [((up_tr (up_tr (up_tr uy1_1 uy2_1) uy19_2) us23_2)).2.2.2.1]
                        have g0 := h0.1.1
                        have g1 := h1.1.1
                        refine rl_bnd (Q := fun (y z : DD) => Up mu 144 y28_1 y28_1r y z ∧ WQ mu y z 139 4 4 (fun r x => x14.toInt + r * 16 + x)) ?_ ?_
                        · refine rl_if (fun c28 => ?_) (fun c28 => ?_)
                          · have dc28 := tl_eq is23_1 tn_0 c28
                            refine rl_bnd (r_blend ty28_1 iy28_2 ix14 tn_16 i3 (by omega) (by omega) (by omega) (by omega) (by omega) (by omega) (fun _ => wq_cs wFL_y28_1 (Int.le_refl _) (Int.le_refl _) (fun r x h1 h2 h3 h4 => by (try dsimp only) <;> omega)) (fun _ => wq_cs wSL_y28_1 (Int.le_refl _) (Int.le_refl _) (fun r x h1 h2 h3 h4 => by (try dsimp only) <;> omega)) vk9_y28_1 (fun h => vk10_y28_1 ⟨h, by rw [n3]; exact h1.1.1⟩) vk11_y28_1 (fun h => vk12_y28_1 ⟨h, by rw [n3]; exact h1.1.1⟩) vk13_y28_1) ?_
                            rintro y37 y37r ⟨uy37', vGY_y37'⟩
                            have uy37 : Up mu 144 y28_1 y28_1r y37 y37r := uy37'
                            have ty37 := cx_up ty28_1 uy37
                            have wm_y37 := wg_up uy37 wm_y28_1
                            have wFL_y37 := wq_up uy37 wFL_y28_1
                            have wFU_y37 := wq_up uy37 wFU_y28_1
                            have wFV_y37 := wq_up uy37 wFV_y28_1
                            have wSL_y37 := wq_up uy37 wSL_y28_1
                            have wSU_y37 := wq_up uy37 wSU_y28_1
                            have wSV_y37 := wq_up uy37 wSV_y28_1
                            have wk9_y37 := fun h => ag_up uy37 (vk9_y28_1 h)
                            have wk11_y37 := fun h => ag_up uy37 (vk11_y28_1 h)
                            have wk10_y37 := fun h => ag_up uy37 (vk10_y28_1 h)
                            have wk12_y37 := fun h => ag_up uy37 (vk12_y28_1 h)
                            have wk13_y37 := fun h => ag_up uy37 (vk13_y28_1 h)
                            have vGY_y37 : WQ mu y37 y37r 139 4 4 (fun r x => x14.toInt + r * 16 + x) := wq_cs vGY_y37' (by omega) (by omega) (fun r x h1 h2 h3 h4 => by (try dsimp only) <;> omega)
                            exact rl_some ⟨uy37, vGY_y37⟩
                          · have dc28 := tl_ne is23_1 tn_0 c28
                            exfalso
                            omega
                        · rintro y29 y29r ⟨uy29, wGY_y29⟩
                          have uy29 : Up mu 144 y28_1 y28_1r y29 y29r := uy29
                          have ty29 := cx_up ty28_1 uy29
                          have wm_y29 := wg_up uy29 wm_y28_1
                          have wFL_y29 := wq_up uy29 wFL_y28_1
                          have wFU_y29 := wq_up uy29 wFU_y28_1
                          have wFV_y29 := wq_up uy29 wFV_y28_1
                          have wSL_y29 := wq_up uy29 wSL_y28_1
                          have wSU_y29 := wq_up uy29 wSU_y28_1
                          have wSV_y29 := wq_up uy29 wSV_y28_1
                          have wk9_y29 := fun h => ag_up uy29 (vk9_y28_1 h)
                          have wk11_y29 := fun h => ag_up uy29 (vk11_y28_1 h)
                          have wk10_y29 := fun h => ag_up uy29 (vk10_y28_1 h)
                          have wk12_y29 := fun h => ag_up uy29 (vk12_y28_1 h)
                          have wk13_y29 := fun h => ag_up uy29 (vk13_y28_1 h)
                          have wGY_y29 : WQ mu y29 y29r 139 4 4 (fun r x => x14.toInt + r * 16 + x) := wGY_y29
                          refine rl_ltI (av_add is23_1 tn_1 (by omega) (by omega)) (fun x30 ix30 => ?_)
                          refine rl_inlQ (fun (y z : Int32 × DD) => y.1 = z.1 ∧ (1 ≤ y.1.toInt ∧ y.1.toInt ≤ 1) ∧ Up mu 144 y19_2 y19_2r y.2 z.2 ∧ WQ mu y.2 z.2 139 4 4 (fun r x => x14.toInt + r * 16 + x)) ⟨rfl, (ti_bd ix30 (by omega) (by omega)), (up_tr (up_tr us23_2 uy28_1) uy29), wGY_y29⟩ ?_
                          rintro ⟨s23_1, s23_2⟩ ⟨s23_1r, s23_2r⟩ ⟨es23_1, ls23_1, us23_2, wGY_s23_2⟩
                          obtain rfl : s23_1 = s23_1r := es23_1
                          have ls23_1 : 1 ≤ s23_1.toInt ∧ s23_1.toInt ≤ 1 := ls23_1
                          have is23_1 : TI s23_1 (1) := ti_c ls23_1
                          have us23_2 : Up mu 144 y19_2 y19_2r s23_2 s23_2r := us23_2
                          have ts23_2 := cx_up ty19_2 us23_2
                          have wm_s23_2 := wg_up us23_2 wm_y19_2
                          have wFL_s23_2 := wq_up us23_2 wFL_y19_2
                          have wFU_s23_2 := wq_up us23_2 wFU_y19_2
                          have wFV_s23_2 := wq_up us23_2 wFV_y19_2
                          have wSL_s23_2 := wq_up us23_2 wSL_y19_2
                          have wSU_s23_2 := wq_up us23_2 wSU_y19_2
                          have wSV_s23_2 := wq_up us23_2 wSV_y19_2
                          have wGY_s23_2 : WQ mu s23_2 s23_2r 139 4 4 (fun r x => x14.toInt + r * 16 + x) := wGY_s23_2
                          refine rl_it1 ?_
                          refine rl_bnd (Q := fun (y z : Int32) => y = z ∧ (3 ≤ y.toInt ∧ y.toInt ≤ 3)) ?_ ?_
                          · refine rl_if (fun c29 => ?_) (fun c29 => ?_)
                            · have dc29 := tl_eq i4 tn_0 c29
                              exfalso
                              omega
                            · have dc29 := tl_ne i4 tn_0 c29
                              exact rl_some ⟨rfl, (ti_bd tn_3 (by omega) (by omega))⟩
                          · rintro y26 y26r ⟨ey26, ly26⟩
                            obtain rfl : y26 = y26r := ey26
                            have ly26 : 3 ≤ y26.toInt ∧ y26.toInt ≤ 3 := ly26
                            have iy26 : TI y26 (3) := ti_c ly26
                            refine rl_if (fun c30 => ?_) (fun c30 => ?_)
                            · have dc30 := tl_le iy26 is23_1 c30
                              exfalso
                              omega
                            · have dc30 := tl_nle iy26 is23_1 c30
                              refine rl_bnd (r_chooseWeights ts23_2 ⟨rfl, rfl⟩ is23_1 (by omega) (by omega) wm_s23_2) ?_
                              rintro ⟨y28_1, y28_2⟩ ⟨y28_1r, y28_2r⟩ ⟨uy28_1', ey28_2, ly28_2, vk9_y28_1, vk11_y28_1, vk10_y28_1, vk12_y28_1, vk13_y28_1⟩
                              have uy28_1 : Up mu 144 s23_2 s23_2r y28_1 y28_1r := uy28_1'
                              have ty28_1 := cx_up ts23_2 uy28_1
                              have wm_y28_1 := wg_up uy28_1 wm_s23_2
                              have wFL_y28_1 := wq_up uy28_1 wFL_s23_2
                              have wFU_y28_1 := wq_up uy28_1 wFU_s23_2
                              have wFV_y28_1 := wq_up uy28_1 wFV_s23_2
                              have wSL_y28_1 := wq_up uy28_1 wSL_s23_2
                              have wSU_y28_1 := wq_up uy28_1 wSU_s23_2
                              have wSV_y28_1 := wq_up uy28_1 wSV_s23_2
                              have wGY_y28_1 := wq_up uy28_1 wGY_s23_2
                              obtain rfl : y28_2 = y28_2r := ey28_2
                              dsimp only at ly28_2
                              have iy28_2 : TI y28_2 y28_2.toInt := rfl
                              have n0 : (s23_2.1 144 0).toInt = (M.1 144 0).toInt := by rw [((up_tr (up_tr (up_tr uy1_1 uy2_1) uy19_2) us23_2)).2.2.2.1]
                              have n3 : (s23_2.1 144 3).toInt = (M.1 144 3).toInt := by rw [((up_tr (up_tr (up_tr uy1_1 uy2_1) uy19_2) us23_2)).2.2.2.1]
                              have g0 := h0.1.1
                              have g1 := h1.1.1
                              refine rl_bnd (Q := fun (y z : DD) => Up mu 144 y28_1 y28_1r y z ∧ WQ mu y z 139 (4 / 2) (4 / 2) (fun r x => x18.toInt + 0 + r * 8 + x)) ?_ ?_
                              · refine rl_if (fun c31 => ?_) (fun c31 => ?_)
                                · have dc31 := tl_eq is23_1 tn_0 c31
                                  exfalso
                                  omega
                                · have dc31 := tl_ne is23_1 tn_0 c31
                                  refine rl_ltI (av_sub is23_1 tn_1 (by omega) (by omega)) (fun x32 ix32 => ?_)
                                  refine rl_ltI (av_mul tn_64 ix32 (by omega) (by omega)) (fun x33 ix33 => ?_)
                                  refine rl_ltI (av_add ix18 ix33 (by omega) (by omega)) (fun x34 ix34 => ?_)
                                  refine rl_ltI (av_div i3 tn_2 (by omega) (by omega)) (fun x35 ix35 => ?_)
                                  refine rl_bnd (r_blend ty28_1 iy28_2 ix34 tn_8 ix35 (by omega) (by omega) (by omega) (by omega) (by omega) (by omega) (fun _ => wq_cs wFU_y28_1 (Int.le_refl _) (Int.le_refl _) (fun r x h1 h2 h3 h4 => by (try dsimp only) <;> omega)) (fun _ => wq_cs wSU_y28_1 (Int.le_refl _) (Int.le_refl _) (fun r x h1 h2 h3 h4 => by (try dsimp only) <;> omega)) vk9_y28_1 (fun h => vk10_y28_1 ⟨h, by rw [n3]; exact h1.1.1⟩) vk11_y28_1 (fun h => vk12_y28_1 ⟨h, by rw [n3]; exact h1.1.1⟩) vk13_y28_1) ?_
                                  rintro y36 y36r ⟨uy36', vGU_y36'⟩
                                  have uy36 : Up mu 144 y28_1 y28_1r y36 y36r := uy36'
                                  have ty36 := cx_up ty28_1 uy36
                                  have wm_y36 := wg_up uy36 wm_y28_1
                                  have wFL_y36 := wq_up uy36 wFL_y28_1
                                  have wFU_y36 := wq_up uy36 wFU_y28_1
                                  have wFV_y36 := wq_up uy36 wFV_y28_1
                                  have wSL_y36 := wq_up uy36 wSL_y28_1
                                  have wSU_y36 := wq_up uy36 wSU_y28_1
                                  have wSV_y36 := wq_up uy36 wSV_y28_1
                                  have wGY_y36 := wq_up uy36 wGY_y28_1
                                  have wk9_y36 := fun h => ag_up uy36 (vk9_y28_1 h)
                                  have wk11_y36 := fun h => ag_up uy36 (vk11_y28_1 h)
                                  have wk10_y36 := fun h => ag_up uy36 (vk10_y28_1 h)
                                  have wk12_y36 := fun h => ag_up uy36 (vk12_y28_1 h)
                                  have wk13_y36 := fun h => ag_up uy36 (vk13_y28_1 h)
                                  have vGU_y36 : WQ mu y36 y36r 139 (4 / 2) (4 / 2) (fun r x => x18.toInt + 0 + r * 8 + x) := wq_cs vGU_y36' (by omega) (by omega) (fun r x h1 h2 h3 h4 => by (try dsimp only) <;> omega)
                                  exact rl_some ⟨uy36, vGU_y36⟩
                              · rintro y29 y29r ⟨uy29, wGU_y29⟩
                                have uy29 : Up mu 144 y28_1 y28_1r y29 y29r := uy29
                                have ty29 := cx_up ty28_1 uy29
                                have wm_y29 := wg_up uy29 wm_y28_1
                                have wFL_y29 := wq_up uy29 wFL_y28_1
                                have wFU_y29 := wq_up uy29 wFU_y28_1
                                have wFV_y29 := wq_up uy29 wFV_y28_1
                                have wSL_y29 := wq_up uy29 wSL_y28_1
                                have wSU_y29 := wq_up uy29 wSU_y28_1
                                have wSV_y29 := wq_up uy29 wSV_y28_1
                                have wGY_y29 := wq_up uy29 wGY_y28_1
                                have wk9_y29 := fun h => ag_up uy29 (vk9_y28_1 h)
                                have wk11_y29 := fun h => ag_up uy29 (vk11_y28_1 h)
                                have wk10_y29 := fun h => ag_up uy29 (vk10_y28_1 h)
                                have wk12_y29 := fun h => ag_up uy29 (vk12_y28_1 h)
                                have wk13_y29 := fun h => ag_up uy29 (vk13_y28_1 h)
                                have wGU_y29 : WQ mu y29 y29r 139 (4 / 2) (4 / 2) (fun r x => x18.toInt + 0 + r * 8 + x) := wGU_y29
                                refine rl_ltI (av_add is23_1 tn_1 (by omega) (by omega)) (fun x30 ix30 => ?_)
                                refine rl_inlQ (fun (y z : Int32 × DD) => y.1 = z.1 ∧ (2 ≤ y.1.toInt ∧ y.1.toInt ≤ 2) ∧ Up mu 144 y19_2 y19_2r y.2 z.2 ∧ WQ mu y.2 z.2 139 4 4 (fun r x => x14.toInt + r * 16 + x) ∧ WQ mu y.2 z.2 139 (4 / 2) (4 / 2) (fun r x => x18.toInt + 0 + r * 8 + x)) ⟨rfl, (ti_bd ix30 (by omega) (by omega)), (up_tr (up_tr us23_2 uy28_1) uy29), wGY_y29, wGU_y29⟩ ?_
                                rintro ⟨s23_1, s23_2⟩ ⟨s23_1r, s23_2r⟩ ⟨es23_1, ls23_1, us23_2, wGY_s23_2, wGU_s23_2⟩
                                obtain rfl : s23_1 = s23_1r := es23_1
                                have ls23_1 : 2 ≤ s23_1.toInt ∧ s23_1.toInt ≤ 2 := ls23_1
                                have is23_1 : TI s23_1 (2) := ti_c ls23_1
                                have us23_2 : Up mu 144 y19_2 y19_2r s23_2 s23_2r := us23_2
                                have ts23_2 := cx_up ty19_2 us23_2
                                have wm_s23_2 := wg_up us23_2 wm_y19_2
                                have wFL_s23_2 := wq_up us23_2 wFL_y19_2
                                have wFU_s23_2 := wq_up us23_2 wFU_y19_2
                                have wFV_s23_2 := wq_up us23_2 wFV_y19_2
                                have wSL_s23_2 := wq_up us23_2 wSL_y19_2
                                have wSU_s23_2 := wq_up us23_2 wSU_y19_2
                                have wSV_s23_2 := wq_up us23_2 wSV_y19_2
                                have wGY_s23_2 : WQ mu s23_2 s23_2r 139 4 4 (fun r x => x14.toInt + r * 16 + x) := wGY_s23_2
                                have wGU_s23_2 : WQ mu s23_2 s23_2r 139 (4 / 2) (4 / 2) (fun r x => x18.toInt + 0 + r * 8 + x) := wGU_s23_2
                                refine rl_it1 ?_
                                refine rl_bnd (Q := fun (y z : Int32) => y = z ∧ (3 ≤ y.toInt ∧ y.toInt ≤ 3)) ?_ ?_
                                · refine rl_if (fun c32 => ?_) (fun c32 => ?_)
                                  · have dc32 := tl_eq i4 tn_0 c32
                                    exfalso
                                    omega
                                  · have dc32 := tl_ne i4 tn_0 c32
                                    exact rl_some ⟨rfl, (ti_bd tn_3 (by omega) (by omega))⟩
                                · rintro y26 y26r ⟨ey26, ly26⟩
                                  obtain rfl : y26 = y26r := ey26
                                  have ly26 : 3 ≤ y26.toInt ∧ y26.toInt ≤ 3 := ly26
                                  have iy26 : TI y26 (3) := ti_c ly26
                                  refine rl_if (fun c33 => ?_) (fun c33 => ?_)
                                  · have dc33 := tl_le iy26 is23_1 c33
                                    exfalso
                                    omega
                                  · have dc33 := tl_nle iy26 is23_1 c33
                                    refine rl_bnd (r_chooseWeights ts23_2 ⟨rfl, rfl⟩ is23_1 (by omega) (by omega) wm_s23_2) ?_
                                    rintro ⟨y28_1, y28_2⟩ ⟨y28_1r, y28_2r⟩ ⟨uy28_1', ey28_2, ly28_2, vk9_y28_1, vk11_y28_1, vk10_y28_1, vk12_y28_1, vk13_y28_1⟩
                                    have uy28_1 : Up mu 144 s23_2 s23_2r y28_1 y28_1r := uy28_1'
                                    have ty28_1 := cx_up ts23_2 uy28_1
                                    have wm_y28_1 := wg_up uy28_1 wm_s23_2
                                    have wFL_y28_1 := wq_up uy28_1 wFL_s23_2
                                    have wFU_y28_1 := wq_up uy28_1 wFU_s23_2
                                    have wFV_y28_1 := wq_up uy28_1 wFV_s23_2
                                    have wSL_y28_1 := wq_up uy28_1 wSL_s23_2
                                    have wSU_y28_1 := wq_up uy28_1 wSU_s23_2
                                    have wSV_y28_1 := wq_up uy28_1 wSV_s23_2
                                    have wGY_y28_1 := wq_up uy28_1 wGY_s23_2
                                    have wGU_y28_1 := wq_up uy28_1 wGU_s23_2
                                    obtain rfl : y28_2 = y28_2r := ey28_2
                                    dsimp only at ly28_2
                                    have iy28_2 : TI y28_2 y28_2.toInt := rfl
                                    have n0 : (s23_2.1 144 0).toInt = (M.1 144 0).toInt := by rw [((up_tr (up_tr (up_tr uy1_1 uy2_1) uy19_2) us23_2)).2.2.2.1]
                                    have n3 : (s23_2.1 144 3).toInt = (M.1 144 3).toInt := by rw [((up_tr (up_tr (up_tr uy1_1 uy2_1) uy19_2) us23_2)).2.2.2.1]
                                    have g0 := h0.1.1
                                    have g1 := h1.1.1
                                    refine rl_bnd (Q := fun (y z : DD) => Up mu 144 y28_1 y28_1r y z ∧ WQ mu y z 139 (4 / 2) (4 / 2) (fun r x => x18.toInt + 64 + r * 8 + x)) ?_ ?_
                                    · refine rl_if (fun c34 => ?_) (fun c34 => ?_)
                                      · have dc34 := tl_eq is23_1 tn_0 c34
                                        exfalso
                                        omega
                                      · have dc34 := tl_ne is23_1 tn_0 c34
                                        refine rl_ltI (av_sub is23_1 tn_1 (by omega) (by omega)) (fun x32 ix32 => ?_)
                                        refine rl_ltI (av_mul tn_64 ix32 (by omega) (by omega)) (fun x33 ix33 => ?_)
                                        refine rl_ltI (av_add ix18 ix33 (by omega) (by omega)) (fun x34 ix34 => ?_)
                                        refine rl_ltI (av_div i3 tn_2 (by omega) (by omega)) (fun x35 ix35 => ?_)
                                        refine rl_bnd (r_blend ty28_1 iy28_2 ix34 tn_8 ix35 (by omega) (by omega) (by omega) (by omega) (by omega) (by omega) (fun _ => wq_cs wFV_y28_1 (Int.le_refl _) (Int.le_refl _) (fun r x h1 h2 h3 h4 => by (try dsimp only) <;> omega)) (fun _ => wq_cs wSV_y28_1 (Int.le_refl _) (Int.le_refl _) (fun r x h1 h2 h3 h4 => by (try dsimp only) <;> omega)) vk9_y28_1 (fun h => vk10_y28_1 ⟨h, by rw [n3]; exact h1.1.1⟩) vk11_y28_1 (fun h => vk12_y28_1 ⟨h, by rw [n3]; exact h1.1.1⟩) vk13_y28_1) ?_
                                        rintro y36 y36r ⟨uy36', vGV_y36'⟩
                                        have uy36 : Up mu 144 y28_1 y28_1r y36 y36r := uy36'
                                        have ty36 := cx_up ty28_1 uy36
                                        have wm_y36 := wg_up uy36 wm_y28_1
                                        have wFL_y36 := wq_up uy36 wFL_y28_1
                                        have wFU_y36 := wq_up uy36 wFU_y28_1
                                        have wFV_y36 := wq_up uy36 wFV_y28_1
                                        have wSL_y36 := wq_up uy36 wSL_y28_1
                                        have wSU_y36 := wq_up uy36 wSU_y28_1
                                        have wSV_y36 := wq_up uy36 wSV_y28_1
                                        have wGY_y36 := wq_up uy36 wGY_y28_1
                                        have wGU_y36 := wq_up uy36 wGU_y28_1
                                        have wk9_y36 := fun h => ag_up uy36 (vk9_y28_1 h)
                                        have wk11_y36 := fun h => ag_up uy36 (vk11_y28_1 h)
                                        have wk10_y36 := fun h => ag_up uy36 (vk10_y28_1 h)
                                        have wk12_y36 := fun h => ag_up uy36 (vk12_y28_1 h)
                                        have wk13_y36 := fun h => ag_up uy36 (vk13_y28_1 h)
                                        have vGV_y36 : WQ mu y36 y36r 139 (4 / 2) (4 / 2) (fun r x => x18.toInt + 64 + r * 8 + x) := wq_cs vGV_y36' (by omega) (by omega) (fun r x h1 h2 h3 h4 => by (try dsimp only) <;> omega)
                                        exact rl_some ⟨uy36, vGV_y36⟩
                                    · rintro y29 y29r ⟨uy29, wGV_y29⟩
                                      have uy29 : Up mu 144 y28_1 y28_1r y29 y29r := uy29
                                      have ty29 := cx_up ty28_1 uy29
                                      have wm_y29 := wg_up uy29 wm_y28_1
                                      have wFL_y29 := wq_up uy29 wFL_y28_1
                                      have wFU_y29 := wq_up uy29 wFU_y28_1
                                      have wFV_y29 := wq_up uy29 wFV_y28_1
                                      have wSL_y29 := wq_up uy29 wSL_y28_1
                                      have wSU_y29 := wq_up uy29 wSU_y28_1
                                      have wSV_y29 := wq_up uy29 wSV_y28_1
                                      have wGY_y29 := wq_up uy29 wGY_y28_1
                                      have wGU_y29 := wq_up uy29 wGU_y28_1
                                      have wk9_y29 := fun h => ag_up uy29 (vk9_y28_1 h)
                                      have wk11_y29 := fun h => ag_up uy29 (vk11_y28_1 h)
                                      have wk10_y29 := fun h => ag_up uy29 (vk10_y28_1 h)
                                      have wk12_y29 := fun h => ag_up uy29 (vk12_y28_1 h)
                                      have wk13_y29 := fun h => ag_up uy29 (vk13_y28_1 h)
                                      have wGV_y29 : WQ mu y29 y29r 139 (4 / 2) (4 / 2) (fun r x => x18.toInt + 64 + r * 8 + x) := wGV_y29
                                      refine rl_ltI (av_add is23_1 tn_1 (by omega) (by omega)) (fun x30 ix30 => ?_)
                                      refine rl_inlQ (fun (y z : Int32 × DD) => y.1 = z.1 ∧ (3 ≤ y.1.toInt ∧ y.1.toInt ≤ 3) ∧ Up mu 144 y19_2 y19_2r y.2 z.2 ∧ WQ mu y.2 z.2 139 4 4 (fun r x => x14.toInt + r * 16 + x) ∧ WQ mu y.2 z.2 139 (4 / 2) (4 / 2) (fun r x => x18.toInt + 0 + r * 8 + x) ∧ WQ mu y.2 z.2 139 (4 / 2) (4 / 2) (fun r x => x18.toInt + 64 + r * 8 + x)) ⟨rfl, (ti_bd ix30 (by omega) (by omega)), (up_tr (up_tr us23_2 uy28_1) uy29), wGY_y29, wGU_y29, wGV_y29⟩ ?_
                                      rintro ⟨s23_1, s23_2⟩ ⟨s23_1r, s23_2r⟩ ⟨es23_1, ls23_1, us23_2, wGY_s23_2, wGU_s23_2, wGV_s23_2⟩
                                      obtain rfl : s23_1 = s23_1r := es23_1
                                      have ls23_1 : 3 ≤ s23_1.toInt ∧ s23_1.toInt ≤ 3 := ls23_1
                                      have is23_1 : TI s23_1 (3) := ti_c ls23_1
                                      have us23_2 : Up mu 144 y19_2 y19_2r s23_2 s23_2r := us23_2
                                      have ts23_2 := cx_up ty19_2 us23_2
                                      have wm_s23_2 := wg_up us23_2 wm_y19_2
                                      have wFL_s23_2 := wq_up us23_2 wFL_y19_2
                                      have wFU_s23_2 := wq_up us23_2 wFU_y19_2
                                      have wFV_s23_2 := wq_up us23_2 wFV_y19_2
                                      have wSL_s23_2 := wq_up us23_2 wSL_y19_2
                                      have wSU_s23_2 := wq_up us23_2 wSU_y19_2
                                      have wSV_s23_2 := wq_up us23_2 wSV_y19_2
                                      have wGY_s23_2 : WQ mu s23_2 s23_2r 139 4 4 (fun r x => x14.toInt + r * 16 + x) := wGY_s23_2
                                      have wGU_s23_2 : WQ mu s23_2 s23_2r 139 (4 / 2) (4 / 2) (fun r x => x18.toInt + 0 + r * 8 + x) := wGU_s23_2
                                      have wGV_s23_2 : WQ mu s23_2 s23_2r 139 (4 / 2) (4 / 2) (fun r x => x18.toInt + 64 + r * 8 + x) := wGV_s23_2
                                      refine rl_it1 ?_
                                      refine rl_bnd (Q := fun (y z : Int32) => y = z ∧ (3 ≤ y.toInt ∧ y.toInt ≤ 3)) ?_ ?_
                                      · refine rl_if (fun c35 => ?_) (fun c35 => ?_)
                                        · have dc35 := tl_eq i4 tn_0 c35
                                          exfalso
                                          omega
                                        · have dc35 := tl_ne i4 tn_0 c35
                                          exact rl_some ⟨rfl, (ti_bd tn_3 (by omega) (by omega))⟩
                                      · rintro y26 y26r ⟨ey26, ly26⟩
                                        obtain rfl : y26 = y26r := ey26
                                        have ly26 : 3 ≤ y26.toInt ∧ y26.toInt ≤ 3 := ly26
                                        have iy26 : TI y26 (3) := ti_c ly26
                                        refine rl_if (fun c36 => ?_) (fun c36 => ?_)
                                        · have dc36 := tl_le iy26 is23_1 c36
                                          refine rl_inrQ (fun (y z : Int32 × DD) => y.1 = z.1 ∧ Up mu 144 y19_2 y19_2r y.2 z.2 ∧ WQ mu y.2 z.2 139 4 4 (fun r x => x14.toInt + r * 16 + x) ∧ WQ mu y.2 z.2 139 (4 / 2) (4 / 2) (fun r x => x18.toInt + 0 + r * 8 + x) ∧ WQ mu y.2 z.2 139 (4 / 2) (4 / 2) (fun r x => x18.toInt + 64 + r * 8 + x)) ⟨rfl, us23_2, wGY_s23_2, wGU_s23_2, wGV_s23_2⟩ ?_
                                          rintro ⟨y22_1, y22_2⟩ ⟨y22_1r, y22_2r⟩ ⟨ey22_1, uy22_2, wGY_y22_2, wGU_y22_2, wGV_y22_2⟩
                                          obtain rfl : y22_1 = y22_1r := ey22_1
                                          have uy22_2 : Up mu 144 y19_2 y19_2r y22_2 y22_2r := uy22_2
                                          have ty22_2 := cx_up ty19_2 uy22_2
                                          have wm_y22_2 := wg_up uy22_2 wm_y19_2
                                          have wFL_y22_2 := wq_up uy22_2 wFL_y19_2
                                          have wFU_y22_2 := wq_up uy22_2 wFU_y19_2
                                          have wFV_y22_2 := wq_up uy22_2 wFV_y19_2
                                          have wSL_y22_2 := wq_up uy22_2 wSL_y19_2
                                          have wSU_y22_2 := wq_up uy22_2 wSU_y19_2
                                          have wSV_y22_2 := wq_up uy22_2 wSV_y19_2
                                          have wGY_y22_2 : WQ mu y22_2 y22_2r 139 4 4 (fun r x => x14.toInt + r * 16 + x) := wGY_y22_2
                                          have wGU_y22_2 : WQ mu y22_2 y22_2r 139 (4 / 2) (4 / 2) (fun r x => x18.toInt + 0 + r * 8 + x) := wGU_y22_2
                                          have wGV_y22_2 : WQ mu y22_2 y22_2r 139 (4 / 2) (4 / 2) (fun r x => x18.toInt + 64 + r * 8 + x) := wGV_y22_2
                                          exact rl_some ⟨(up_tr (up_tr (up_tr uy1_1 uy2_1) uy19_2) uy22_2), (wq_cs wGY_y22_2 (Int.le_refl _) (Int.le_refl _) (fun r x h1 h2 h3 h4 => by (try dsimp only) <;> omega)), (wq_cs wGU_y22_2 (Int.le_refl _) (Int.le_refl _) (fun r x h1 h2 h3 h4 => by (try dsimp only) <;> omega)), (wq_cs wGV_y22_2 (Int.le_refl _) (Int.le_refl _) (fun r x h1 h2 h3 h4 => by (try dsimp only) <;> omega))⟩
                                        · have dc36 := tl_nle iy26 is23_1 c36
                                          exfalso
                                          omega
                  · have dc25 := tl_nle tn_2 is20_1 c25
                    exfalso
                    omega
    · refine rl_bnd (r_pieceX t i2 (by omega) (by omega)) ?_
      rintro ⟨y1_1, y1_2⟩ ⟨y1_1r, y1_2r⟩ ⟨uy1_1', ey1_2, iy1_2⟩
      have uy1_1 : Up mu 144 M N y1_1 y1_1r := uy1_1'
      have ty1_1 := cx_up t uy1_1
      have wm_y1_1 := wg_up uy1_1 hm
      obtain rfl : y1_2 = y1_2r := ey1_2
      refine rl_bnd (r_pieceY ty1_1 i2 (by omega) (by omega)) ?_
      rintro ⟨y2_1, y2_2⟩ ⟨y2_1r, y2_2r⟩ ⟨uy2_1', ey2_2, iy2_2⟩
      have uy2_1 : Up mu 144 y1_1 y1_1r y2_1 y2_1r := uy2_1'
      have ty2_1 := cx_up ty1_1 uy2_1
      have wm_y2_1 := wg_up uy2_1 wm_y1_1
      obtain rfl : y2_2 = y2_2r := ey2_2
      refine rl_dr (cx_U ty2_1) ⟨rfl, rfl⟩ (fun gb3 => ?_)
      refine rl_dr (cx_U ty2_1) (rx_p ty2_1) (fun gb4 => ?_)
      refine rl_rd (cx_q (j := 0) (k := 1) ty2_1 (cx_p t) rfl) (fun x5 => ?_)
      refine rl_chk (fun h => h) (fun k1 => ?_)
      refine rl_ltA (fun x6 => ?_)
      refine rl_ltA (fun x7 => ?_)
      refine rl_ltA (fun x8 => ?_)
      refine rl_rd (cx_q (j := 0) (k := 1) ty2_1 (cx_p t) rfl) (fun x9 => ?_)
      refine rl_chk (fun h => h) (fun k2 => ?_)
      refine rl_ltA (fun x10 => ?_)
      refine rl_ltA (fun x11 => ?_)
      refine rl_ltA (fun x12 => ?_)
      refine rl_ltI (av_mul tn_16 iy2_2 (by omega) (by omega)) (fun x13 ix13 => ?_)
      refine rl_ltI (av_add ix13 iy1_2 (by omega) (by omega)) (fun x14 ix14 => ?_)
      have kx14 : x14.toInt = _ := ix14
      refine rl_ltI (av_mul tn_4 iy2_2 (by omega) (by omega)) (fun x15 ix15 => ?_)
      refine rl_ltI (av_add tn_256 ix15 (by omega) (by omega)) (fun x16 ix16 => ?_)
      refine rl_ltI (av_div iy1_2 tn_2 (by omega) (by omega)) (fun x17 ix17 => ?_)
      refine rl_ltI (av_add ix16 ix17 (by omega) (by omega)) (fun x18 ix18 => ?_)
      have kx18 : x18.toInt = _ := ix18
      refine rl_bndK ?_
      refine rl_itQ (fun (y z : Int32 × DD) => y.1 = z.1 ∧ (0 ≤ y.1.toInt ∧ y.1.toInt ≤ 0) ∧ Up mu 144 y2_1 y2_1r y.2 z.2) ⟨rfl, (ti_bd tn_0 (by omega) (by omega)), (up_0 mu (κ := 144) _ _)⟩ ?_
      rintro ⟨s20_1, s20_2⟩ ⟨s20_1r, s20_2r⟩ ⟨es20_1, ls20_1, us20_2⟩
      obtain rfl : s20_1 = s20_1r := es20_1
      have ls20_1 : 0 ≤ s20_1.toInt ∧ s20_1.toInt ≤ 0 := ls20_1
      have is20_1 : TI s20_1 (0) := ti_c ls20_1
      have us20_2 : Up mu 144 y2_1 y2_1r s20_2 s20_2r := us20_2
      have ts20_2 := cx_up ty2_1 us20_2
      have wm_s20_2 := wg_up us20_2 wm_y2_1
      refine rl_it1 ?_
      refine rl_if (fun c3 => ?_) (fun c3 => ?_)
      · have dc3 := tl_le tn_2 is20_1 c3
        exfalso
        omega
      · have dc3 := tl_nle tn_2 is20_1 c3
        refine rl_ltI (av_mul tn_3 is20_1 (by omega) (by omega)) (fun x41 ix41 => ?_)
        refine rl_dr (cx_U ts20_2) (rx_c (a := 138) (k := 5) (b := 144) ts20_2 (Or.inr (Or.inl rfl)) rfl (by decide)) (fun gb42 => ?_)
        refine rl_chk (chkl (cx_U ts20_2) gb42) (fun k4 => ?_)
        refine rl_rdE (wg_id wm_s20_2 ix41 (by omega) (by omega)) (fun x43 ex43 => ?_)
        have mx43 : x43.toInt = (M.1 144 0).toInt := by rw [ex43, ti_n ix41, ((up_tr (up_tr uy1_1 uy2_1) us20_2)).2.2.2.1]; rfl
        have lx43 : 0 ≤ x43.toInt ∧ x43.toInt ≤ 7 := by rw [mx43]; exact h0.1
        refine rl_bnd (Q := fun (y z : Option Nat) => (∃ q, q ∈ L ∧ (y = some q ∧ z = some (mu q)))) ?_ ?_
        · refine rl_if (fun c5 => ?_) (fun c5 => ?_)
          · have dc5 := tl_lt (rfl : TI x43 x43.toInt) tn_0 c5
            exfalso
            omega
          · have dc5 := tl_nlt (rfl : TI x43 x43.toInt) tn_0 c5
            refine rl_bnd (Q := fun (y z : Option Nat) => (∃ q, q ∈ L ∧ (y = some q ∧ z = some (mu q)))) ?_ ?_
            · refine rl_if (fun c6 => ?_) (fun c6 => ?_)
              · have dc6 := tl_le (rfl : TI x43 x43.toInt) tn_8 c6
                refine rl_ltI (av_mul tn_9 is20_1 (by omega) (by omega)) (fun x70 ix70 => ?_)
                refine rl_ltI (av_add ix70 (rfl : TI x43 x43.toInt) (by omega) (by omega)) (fun x71 ix71 => ?_)
                refine rl_dr (cx_U ts20_2) (rx_c (a := 125) (k := 3) (b := 126) ts20_2 (Or.inl rfl) rfl (by decide)) (fun gb72 => ?_)
                refine rl_chk (chkl (cx_U ts20_2) gb72) (fun k7 => ?_)
                exact rl_some (or_ne (rx_l ts20_2 _) (by rw [((up_tr (up_tr uy1_1 uy2_1) us20_2)).1.1, ti_n ix71, mx43]; exact en_ix h0 0 (by omega)))
              · have dc6 := tl_nle (rfl : TI x43 x43.toInt) tn_8 c6
                exfalso
                omega
            · rintro y68 y68r ⟨qy68, hqy68, oy68⟩
              exact rl_some ⟨qy68, hqy68, oy68⟩
        · rintro y44 y44r ⟨qy44, hqy44, oy44⟩
          refine rl_bnd (Q := fun (y z : DD) => Up mu 144 s20_2 s20_2r y z ∧ WQ mu y z 140 4 4 (fun r x => x14.toInt + r * 16 + x) ∧ WQ mu y z 140 (4 / 2) (4 / 2) (fun r x => x18.toInt + 0 + r * 8 + x) ∧ WQ mu y z 140 (4 / 2) (4 / 2) (fun r x => x18.toInt + 64 + r * 8 + x)) ?_ ?_
          · refine rl_ifD (or_iff (mu := mu) (L := L) (Or.inr ⟨qy44, hqy44, oy44⟩)) (fun c8 => ?_) (fun c8 => ?_)
            · exact absurd c8 (by rw [oy44.1]; exact Option.some_ne_none _)
            · refine rl_ltA (fun x48 => ?_)
              refine rl_ltI (av_mul tn_3 is20_1 (by omega) (by omega)) (fun x49 ix49 => ?_)
              refine rl_ltI (av_add ix49 tn_1 (by omega) (by omega)) (fun x50 ix50 => ?_)
              refine rl_chk (chkl (cx_U ts20_2) gb42) (fun k9 => ?_)
              refine rl_rd (wg_id wm_s20_2 ix50 (by omega) (by omega)) (fun x51 => ?_)
              refine rl_ltA (fun x52 => ?_)
              refine rl_ltA (fun x53 => ?_)
              refine rl_ltI (av_mul tn_3 is20_1 (by omega) (by omega)) (fun x54 ix54 => ?_)
              refine rl_ltI (av_add ix54 tn_2 (by omega) (by omega)) (fun x55 ix55 => ?_)
              refine rl_chk (chkl (cx_U ts20_2) gb42) (fun k10 => ?_)
              refine rl_rd (wg_id wm_s20_2 ix55 (by omega) (by omega)) (fun x56 => ?_)
              refine rl_ltA (fun x57 => ?_)
              refine rl_bnd (Q := fun (y z : Option Nat) => (y = some 140 ∧ z = some (mu 140))) ?_ ?_
              · refine rl_if (fun c11 => ?_) (fun c11 => ?_)
                · have dc11 := tl_eq is20_1 tn_0 c11
                  exact rl_some (rx_c (a := 138) (k := 1) (b := 140) ts20_2 (Or.inr (Or.inl rfl)) rfl (by decide))
                · have dc11 := tl_ne is20_1 tn_0 c11
                  exfalso
                  omega
              · rintro y58 y58r oy58
                refine rl_bnd (r_predictLuma ts20_2 oy44 hqy44 (rfl : TI x52 x52.toInt) (rfl : TI x57 x57.toInt) i3 oy58 (Or.inl rfl) ix14 (by omega) (by omega) (by omega)) ?_
                rintro y59 y59r ⟨uy59', vFL_y59'⟩
                have uy59 : Up mu 144 s20_2 s20_2r y59 y59r := uy59'
                have ty59 := cx_up ts20_2 uy59
                have wm_y59 := wg_up uy59 wm_s20_2
                have vFL_y59 : WQ mu y59 y59r 140 4 4 (fun r x => x14.toInt + r * 16 + x) := wg_wq vFL_y59' (fun r x => r * 4 + x) (fun r x h1 h2 h3 h4 => by (try dsimp only); refine ⟨⟨by omega, by omega⟩, by omega⟩)
                refine rl_bnd (Q := fun (y z : DD) => Up mu 144 y59 y59r y z ∧ WQ mu y z 140 (4 / 2) (4 / 2) (fun r x => x18.toInt + 0 + r * 8 + x) ∧ WQ mu y z 140 (4 / 2) (4 / 2) (fun r x => x18.toInt + 64 + r * 8 + x)) ?_ ?_
                · refine rl_if (fun c12 => ?_) (fun c12 => ?_)
                  · have dc12 := tl_eq i4 tn_0 c12
                    exfalso
                    omega
                  · have dc12 := tl_ne i4 tn_0 c12
                    refine rl_ltI (av_div i3 tn_2 (by omega) (by omega)) (fun x62 ix62 => ?_)
                    refine rl_bnd (Q := fun (y z : Option Nat) => (y = some 140 ∧ z = some (mu 140))) ?_ ?_
                    · refine rl_if (fun c13 => ?_) (fun c13 => ?_)
                      · have dc13 := tl_eq is20_1 tn_0 c13
                        exact rl_some (rx_c (a := 138) (k := 1) (b := 140) ty59 (Or.inr (Or.inl rfl)) rfl (by decide))
                      · have dc13 := tl_ne is20_1 tn_0 c13
                        exfalso
                        omega
                    · rintro y63 y63r oy63
                      refine rl_bnd (r_predictColours ty59 oy44 hqy44 (rfl : TI x52 x52.toInt) (rfl : TI x57 x57.toInt) ix62 oy63 (Or.inl rfl) ix18 (by omega) (by omega) (by omega)) ?_
                      rintro y64 y64r ⟨uy64', vFU_y64', vFV_y64'⟩
                      have uy64 : Up mu 144 y59 y59r y64 y64r := uy64'
                      have ty64 := cx_up ty59 uy64
                      have wm_y64 := wg_up uy64 wm_y59
                      have wFL_y64 := wq_up uy64 vFL_y59
                      have vFU_y64 : WQ mu y64 y64r 140 (4 / 2) (4 / 2) (fun r x => x18.toInt + 0 + r * 8 + x) := wg_wq vFU_y64' (fun r x => r * (4 / 2) + x) (fun r x h1 h2 h3 h4 => by (try dsimp only); refine ⟨⟨by omega, by omega⟩, by omega⟩)
                      have vFV_y64 : WQ mu y64 y64r 140 (4 / 2) (4 / 2) (fun r x => x18.toInt + 64 + r * 8 + x) := wg_wq vFV_y64' (fun r x => r * (4 / 2) + x) (fun r x h1 h2 h3 h4 => by (try dsimp only); refine ⟨⟨by omega, by omega⟩, by omega⟩)
                      exact rl_some ⟨uy64, vFU_y64, vFV_y64⟩
                · rintro y60 y60r ⟨uy60, wFU_y60, wFV_y60⟩
                  have uy60 : Up mu 144 y59 y59r y60 y60r := uy60
                  have ty60 := cx_up ty59 uy60
                  have wm_y60 := wg_up uy60 wm_y59
                  have wFL_y60 := wq_up uy60 vFL_y59
                  have wFU_y60 : WQ mu y60 y60r 140 (4 / 2) (4 / 2) (fun r x => x18.toInt + 0 + r * 8 + x) := wFU_y60
                  have wFV_y60 : WQ mu y60 y60r 140 (4 / 2) (4 / 2) (fun r x => x18.toInt + 64 + r * 8 + x) := wFV_y60
                  exact rl_some ⟨(up_tr uy59 uy60), wFL_y60, wFU_y60, wFV_y60⟩
          · rintro y45 y45r ⟨uy45, wFL_y45, wFU_y45, wFV_y45⟩
            have uy45 : Up mu 144 s20_2 s20_2r y45 y45r := uy45
            have ty45 := cx_up ts20_2 uy45
            have wm_y45 := wg_up uy45 wm_s20_2
            have wFL_y45 : WQ mu y45 y45r 140 4 4 (fun r x => x14.toInt + r * 16 + x) := wFL_y45
            have wFU_y45 : WQ mu y45 y45r 140 (4 / 2) (4 / 2) (fun r x => x18.toInt + 0 + r * 8 + x) := wFU_y45
            have wFV_y45 : WQ mu y45 y45r 140 (4 / 2) (4 / 2) (fun r x => x18.toInt + 64 + r * 8 + x) := wFV_y45
            refine rl_ltI (av_add is20_1 tn_1 (by omega) (by omega)) (fun x46 ix46 => ?_)
            refine rl_inlQ (fun (y z : Int32 × DD) => y.1 = z.1 ∧ (1 ≤ y.1.toInt ∧ y.1.toInt ≤ 1) ∧ Up mu 144 y2_1 y2_1r y.2 z.2 ∧ WQ mu y.2 z.2 140 4 4 (fun r x => x14.toInt + r * 16 + x) ∧ WQ mu y.2 z.2 140 (4 / 2) (4 / 2) (fun r x => x18.toInt + 0 + r * 8 + x) ∧ WQ mu y.2 z.2 140 (4 / 2) (4 / 2) (fun r x => x18.toInt + 64 + r * 8 + x)) ⟨rfl, (ti_bd ix46 (by omega) (by omega)), (up_tr us20_2 uy45), wFL_y45, wFU_y45, wFV_y45⟩ ?_
            rintro ⟨s20_1, s20_2⟩ ⟨s20_1r, s20_2r⟩ ⟨es20_1, ls20_1, us20_2, wFL_s20_2, wFU_s20_2, wFV_s20_2⟩
            obtain rfl : s20_1 = s20_1r := es20_1
            have ls20_1 : 1 ≤ s20_1.toInt ∧ s20_1.toInt ≤ 1 := ls20_1
            have is20_1 : TI s20_1 (1) := ti_c ls20_1
            have us20_2 : Up mu 144 y2_1 y2_1r s20_2 s20_2r := us20_2
            have ts20_2 := cx_up ty2_1 us20_2
            have wm_s20_2 := wg_up us20_2 wm_y2_1
            have wFL_s20_2 : WQ mu s20_2 s20_2r 140 4 4 (fun r x => x14.toInt + r * 16 + x) := wFL_s20_2
            have wFU_s20_2 : WQ mu s20_2 s20_2r 140 (4 / 2) (4 / 2) (fun r x => x18.toInt + 0 + r * 8 + x) := wFU_s20_2
            have wFV_s20_2 : WQ mu s20_2 s20_2r 140 (4 / 2) (4 / 2) (fun r x => x18.toInt + 64 + r * 8 + x) := wFV_s20_2
            refine rl_it1 ?_
            refine rl_if (fun c14 => ?_) (fun c14 => ?_)
            · have dc14 := tl_le tn_2 is20_1 c14
              exfalso
              omega
            · have dc14 := tl_nle tn_2 is20_1 c14
              refine rl_ltI (av_mul tn_3 is20_1 (by omega) (by omega)) (fun x41 ix41 => ?_)
              refine rl_dr (cx_U ts20_2) (rx_c (a := 138) (k := 5) (b := 144) ts20_2 (Or.inr (Or.inl rfl)) rfl (by decide)) (fun gb42 => ?_)
              refine rl_chk (chkl (cx_U ts20_2) gb42) (fun k15 => ?_)
              refine rl_rdE (wg_id wm_s20_2 ix41 (by omega) (by omega)) (fun x43 ex43 => ?_)
              have mx43 : x43.toInt = (M.1 144 3).toInt := by rw [ex43, ti_n ix41, ((up_tr (up_tr uy1_1 uy2_1) us20_2)).2.2.2.1]; rfl
              have lx43 : x43.toInt < 0 := by rw [mx43]; exact h1
              refine rl_bnd (Q := fun (y z : Option Nat) => (y = none ∧ z = none)) ?_ ?_
              · refine rl_if (fun c16 => ?_) (fun c16 => ?_)
                · have dc16 := tl_lt (rfl : TI x43 x43.toInt) tn_0 c16
                  exact rl_some ⟨rfl, rfl⟩
                · have dc16 := tl_nlt (rfl : TI x43 x43.toInt) tn_0 c16
                  exfalso
                  omega
              · rintro y44 y44r oy44
                refine rl_bnd (Q := fun (y z : DD) => Up mu 144 s20_2 s20_2r y z) ?_ ?_
                · refine rl_ifD (or_iff (mu := mu) (L := L) (Or.inl oy44)) (fun c17 => ?_) (fun c17 => ?_)
                  · exact rl_some (up_0 mu (κ := 144) _ _)
                  · exact absurd oy44.1 c17
                · rintro y45 y45r uy45
                  have uy45 : Up mu 144 s20_2 s20_2r y45 y45r := uy45
                  have ty45 := cx_up ts20_2 uy45
                  have wm_y45 := wg_up uy45 wm_s20_2
                  have wFL_y45 := wq_up uy45 wFL_s20_2
                  have wFU_y45 := wq_up uy45 wFU_s20_2
                  have wFV_y45 := wq_up uy45 wFV_s20_2
                  refine rl_ltI (av_add is20_1 tn_1 (by omega) (by omega)) (fun x46 ix46 => ?_)
                  refine rl_inlQ (fun (y z : Int32 × DD) => y.1 = z.1 ∧ (2 ≤ y.1.toInt ∧ y.1.toInt ≤ 2) ∧ Up mu 144 y2_1 y2_1r y.2 z.2 ∧ WQ mu y.2 z.2 140 4 4 (fun r x => x14.toInt + r * 16 + x) ∧ WQ mu y.2 z.2 140 (4 / 2) (4 / 2) (fun r x => x18.toInt + 0 + r * 8 + x) ∧ WQ mu y.2 z.2 140 (4 / 2) (4 / 2) (fun r x => x18.toInt + 64 + r * 8 + x)) ⟨rfl, (ti_bd ix46 (by omega) (by omega)), (up_tr us20_2 uy45), wFL_y45, wFU_y45, wFV_y45⟩ ?_
                  rintro ⟨s20_1, s20_2⟩ ⟨s20_1r, s20_2r⟩ ⟨es20_1, ls20_1, us20_2, wFL_s20_2, wFU_s20_2, wFV_s20_2⟩
                  obtain rfl : s20_1 = s20_1r := es20_1
                  have ls20_1 : 2 ≤ s20_1.toInt ∧ s20_1.toInt ≤ 2 := ls20_1
                  have is20_1 : TI s20_1 (2) := ti_c ls20_1
                  have us20_2 : Up mu 144 y2_1 y2_1r s20_2 s20_2r := us20_2
                  have ts20_2 := cx_up ty2_1 us20_2
                  have wm_s20_2 := wg_up us20_2 wm_y2_1
                  have wFL_s20_2 : WQ mu s20_2 s20_2r 140 4 4 (fun r x => x14.toInt + r * 16 + x) := wFL_s20_2
                  have wFU_s20_2 : WQ mu s20_2 s20_2r 140 (4 / 2) (4 / 2) (fun r x => x18.toInt + 0 + r * 8 + x) := wFU_s20_2
                  have wFV_s20_2 : WQ mu s20_2 s20_2r 140 (4 / 2) (4 / 2) (fun r x => x18.toInt + 64 + r * 8 + x) := wFV_s20_2
                  refine rl_it1 ?_
                  refine rl_if (fun c18 => ?_) (fun c18 => ?_)
                  · have dc18 := tl_le tn_2 is20_1 c18
                    refine rl_inrQ (fun (y z : Int32 × DD) => y.1 = z.1 ∧ Up mu 144 y2_1 y2_1r y.2 z.2 ∧ WQ mu y.2 z.2 140 4 4 (fun r x => x14.toInt + r * 16 + x) ∧ WQ mu y.2 z.2 140 (4 / 2) (4 / 2) (fun r x => x18.toInt + 0 + r * 8 + x) ∧ WQ mu y.2 z.2 140 (4 / 2) (4 / 2) (fun r x => x18.toInt + 64 + r * 8 + x)) ⟨rfl, us20_2, wFL_s20_2, wFU_s20_2, wFV_s20_2⟩ ?_
                    rintro ⟨y19_1, y19_2⟩ ⟨y19_1r, y19_2r⟩ ⟨ey19_1, uy19_2, wFL_y19_2, wFU_y19_2, wFV_y19_2⟩
                    obtain rfl : y19_1 = y19_1r := ey19_1
                    have uy19_2 : Up mu 144 y2_1 y2_1r y19_2 y19_2r := uy19_2
                    have ty19_2 := cx_up ty2_1 uy19_2
                    have wm_y19_2 := wg_up uy19_2 wm_y2_1
                    have wFL_y19_2 : WQ mu y19_2 y19_2r 140 4 4 (fun r x => x14.toInt + r * 16 + x) := wFL_y19_2
                    have wFU_y19_2 : WQ mu y19_2 y19_2r 140 (4 / 2) (4 / 2) (fun r x => x18.toInt + 0 + r * 8 + x) := wFU_y19_2
                    have wFV_y19_2 : WQ mu y19_2 y19_2r 140 (4 / 2) (4 / 2) (fun r x => x18.toInt + 64 + r * 8 + x) := wFV_y19_2
                    refine rl_bndK ?_
                    refine rl_itQ (fun (y z : Int32 × DD) => y.1 = z.1 ∧ (0 ≤ y.1.toInt ∧ y.1.toInt ≤ 0) ∧ Up mu 144 y19_2 y19_2r y.2 z.2) ⟨rfl, (ti_bd tn_0 (by omega) (by omega)), (up_0 mu (κ := 144) _ _)⟩ ?_
                    rintro ⟨s23_1, s23_2⟩ ⟨s23_1r, s23_2r⟩ ⟨es23_1, ls23_1, us23_2⟩
                    obtain rfl : s23_1 = s23_1r := es23_1
                    have ls23_1 : 0 ≤ s23_1.toInt ∧ s23_1.toInt ≤ 0 := ls23_1
                    have is23_1 : TI s23_1 (0) := ti_c ls23_1
                    have us23_2 : Up mu 144 y19_2 y19_2r s23_2 s23_2r := us23_2
                    have ts23_2 := cx_up ty19_2 us23_2
                    have wm_s23_2 := wg_up us23_2 wm_y19_2
                    have wFL_s23_2 := wq_up us23_2 wFL_y19_2
                    have wFU_s23_2 := wq_up us23_2 wFU_y19_2
                    have wFV_s23_2 := wq_up us23_2 wFV_y19_2
                    refine rl_it1 ?_
                    refine rl_bnd (Q := fun (y z : Int32) => y = z ∧ (3 ≤ y.toInt ∧ y.toInt ≤ 3)) ?_ ?_
                    · refine rl_if (fun c19 => ?_) (fun c19 => ?_)
                      · have dc19 := tl_eq i4 tn_0 c19
                        exfalso
                        omega
                      · have dc19 := tl_ne i4 tn_0 c19
                        exact rl_some ⟨rfl, (ti_bd tn_3 (by omega) (by omega))⟩
                    · rintro y26 y26r ⟨ey26, ly26⟩
                      obtain rfl : y26 = y26r := ey26
                      have ly26 : 3 ≤ y26.toInt ∧ y26.toInt ≤ 3 := ly26
                      have iy26 : TI y26 (3) := ti_c ly26
                      refine rl_if (fun c20 => ?_) (fun c20 => ?_)
                      · have dc20 := tl_le iy26 is23_1 c20
                        exfalso
                        omega
                      · have dc20 := tl_nle iy26 is23_1 c20
                        refine rl_bnd (r_chooseWeights ts23_2 ⟨rfl, rfl⟩ is23_1 (by omega) (by omega) wm_s23_2) ?_
                        rintro ⟨y28_1, y28_2⟩ ⟨y28_1r, y28_2r⟩ ⟨uy28_1', ey28_2, ly28_2, vk9_y28_1, vk11_y28_1, vk10_y28_1, vk12_y28_1, vk13_y28_1⟩
                        have uy28_1 : Up mu 144 s23_2 s23_2r y28_1 y28_1r := uy28_1'
                        have ty28_1 := cx_up ts23_2 uy28_1
                        have wm_y28_1 := wg_up uy28_1 wm_s23_2
                        have wFL_y28_1 := wq_up uy28_1 wFL_s23_2
                        have wFU_y28_1 := wq_up uy28_1 wFU_s23_2
                        have wFV_y28_1 := wq_up uy28_1 wFV_s23_2
                        obtain rfl : y28_2 = y28_2r := ey28_2
                        dsimp only at ly28_2
                        have iy28_2 : TI y28_2 y28_2.toInt := rfl
                        have n0 : (s23_2.1 144 0).toInt = (M.1 144 0).toInt := by rw [((up_tr (up_tr (up_tr uy1_1 uy2_1) uy19_2) us23_2)).2.2.2.1]
                        have n3 : (s23_2.1 144 3).toInt = (M.1 144 3).toInt := by rw [((up_tr (up_tr (up_tr uy1_1 uy2_1) uy19_2) us23_2)).2.2.2.1]
                        have g0 := h0.1.1
                        have g1 := h1
                        refine rl_bnd (Q := fun (y z : DD) => Up mu 144 y28_1 y28_1r y z ∧ WQ mu y z 139 4 4 (fun r x => x14.toInt + r * 16 + x)) ?_ ?_
                        · refine rl_if (fun c21 => ?_) (fun c21 => ?_)
                          · have dc21 := tl_eq is23_1 tn_0 c21
                            refine rl_bnd (r_blend ty28_1 iy28_2 ix14 tn_16 i3 (by omega) (by omega) (by omega) (by omega) (by omega) (by omega) (fun _ => wq_cs wFL_y28_1 (Int.le_refl _) (Int.le_refl _) (fun r x h1 h2 h3 h4 => by (try dsimp only) <;> omega)) (fun h => absurd h (cw_b ly28_2.2 n0 n3 g0 g1)) vk9_y28_1 (fun h => absurd h (cw_c ly28_2.2 n0 n3 g0 g1)) vk11_y28_1 (fun h => absurd h (cw_c ly28_2.2 n0 n3 g0 g1)) vk13_y28_1) ?_
                            rintro y37 y37r ⟨uy37', vGY_y37'⟩
                            have uy37 : Up mu 144 y28_1 y28_1r y37 y37r := uy37'
                            have ty37 := cx_up ty28_1 uy37
                            have wm_y37 := wg_up uy37 wm_y28_1
                            have wFL_y37 := wq_up uy37 wFL_y28_1
                            have wFU_y37 := wq_up uy37 wFU_y28_1
                            have wFV_y37 := wq_up uy37 wFV_y28_1
                            have wk9_y37 := fun h => ag_up uy37 (vk9_y28_1 h)
                            have wk11_y37 := fun h => ag_up uy37 (vk11_y28_1 h)
                            have wk10_y37 := fun h => ag_up uy37 (vk10_y28_1 h)
                            have wk12_y37 := fun h => ag_up uy37 (vk12_y28_1 h)
                            have wk13_y37 := fun h => ag_up uy37 (vk13_y28_1 h)
                            have vGY_y37 : WQ mu y37 y37r 139 4 4 (fun r x => x14.toInt + r * 16 + x) := wq_cs vGY_y37' (by omega) (by omega) (fun r x h1 h2 h3 h4 => by (try dsimp only) <;> omega)
                            exact rl_some ⟨uy37, vGY_y37⟩
                          · have dc21 := tl_ne is23_1 tn_0 c21
                            exfalso
                            omega
                        · rintro y29 y29r ⟨uy29, wGY_y29⟩
                          have uy29 : Up mu 144 y28_1 y28_1r y29 y29r := uy29
                          have ty29 := cx_up ty28_1 uy29
                          have wm_y29 := wg_up uy29 wm_y28_1
                          have wFL_y29 := wq_up uy29 wFL_y28_1
                          have wFU_y29 := wq_up uy29 wFU_y28_1
                          have wFV_y29 := wq_up uy29 wFV_y28_1
                          have wk9_y29 := fun h => ag_up uy29 (vk9_y28_1 h)
                          have wk11_y29 := fun h => ag_up uy29 (vk11_y28_1 h)
                          have wk10_y29 := fun h => ag_up uy29 (vk10_y28_1 h)
                          have wk12_y29 := fun h => ag_up uy29 (vk12_y28_1 h)
                          have wk13_y29 := fun h => ag_up uy29 (vk13_y28_1 h)
                          have wGY_y29 : WQ mu y29 y29r 139 4 4 (fun r x => x14.toInt + r * 16 + x) := wGY_y29
                          refine rl_ltI (av_add is23_1 tn_1 (by omega) (by omega)) (fun x30 ix30 => ?_)
                          refine rl_inlQ (fun (y z : Int32 × DD) => y.1 = z.1 ∧ (1 ≤ y.1.toInt ∧ y.1.toInt ≤ 1) ∧ Up mu 144 y19_2 y19_2r y.2 z.2 ∧ WQ mu y.2 z.2 139 4 4 (fun r x => x14.toInt + r * 16 + x)) ⟨rfl, (ti_bd ix30 (by omega) (by omega)), (up_tr (up_tr us23_2 uy28_1) uy29), wGY_y29⟩ ?_
                          rintro ⟨s23_1, s23_2⟩ ⟨s23_1r, s23_2r⟩ ⟨es23_1, ls23_1, us23_2, wGY_s23_2⟩
                          obtain rfl : s23_1 = s23_1r := es23_1
                          have ls23_1 : 1 ≤ s23_1.toInt ∧ s23_1.toInt ≤ 1 := ls23_1
                          have is23_1 : TI s23_1 (1) := ti_c ls23_1
                          have us23_2 : Up mu 144 y19_2 y19_2r s23_2 s23_2r := us23_2
                          have ts23_2 := cx_up ty19_2 us23_2
                          have wm_s23_2 := wg_up us23_2 wm_y19_2
                          have wFL_s23_2 := wq_up us23_2 wFL_y19_2
                          have wFU_s23_2 := wq_up us23_2 wFU_y19_2
                          have wFV_s23_2 := wq_up us23_2 wFV_y19_2
                          have wGY_s23_2 : WQ mu s23_2 s23_2r 139 4 4 (fun r x => x14.toInt + r * 16 + x) := wGY_s23_2
                          refine rl_it1 ?_
                          refine rl_bnd (Q := fun (y z : Int32) => y = z ∧ (3 ≤ y.toInt ∧ y.toInt ≤ 3)) ?_ ?_
                          · refine rl_if (fun c22 => ?_) (fun c22 => ?_)
                            · have dc22 := tl_eq i4 tn_0 c22
                              exfalso
                              omega
                            · have dc22 := tl_ne i4 tn_0 c22
                              exact rl_some ⟨rfl, (ti_bd tn_3 (by omega) (by omega))⟩
                          · rintro y26 y26r ⟨ey26, ly26⟩
                            obtain rfl : y26 = y26r := ey26
                            have ly26 : 3 ≤ y26.toInt ∧ y26.toInt ≤ 3 := ly26
                            have iy26 : TI y26 (3) := ti_c ly26
                            refine rl_if (fun c23 => ?_) (fun c23 => ?_)
                            · have dc23 := tl_le iy26 is23_1 c23
                              exfalso
                              omega
                            · have dc23 := tl_nle iy26 is23_1 c23
                              refine rl_bnd (r_chooseWeights ts23_2 ⟨rfl, rfl⟩ is23_1 (by omega) (by omega) wm_s23_2) ?_
                              rintro ⟨y28_1, y28_2⟩ ⟨y28_1r, y28_2r⟩ ⟨uy28_1', ey28_2, ly28_2, vk9_y28_1, vk11_y28_1, vk10_y28_1, vk12_y28_1, vk13_y28_1⟩
                              have uy28_1 : Up mu 144 s23_2 s23_2r y28_1 y28_1r := uy28_1'
                              have ty28_1 := cx_up ts23_2 uy28_1
                              have wm_y28_1 := wg_up uy28_1 wm_s23_2
                              have wFL_y28_1 := wq_up uy28_1 wFL_s23_2
                              have wFU_y28_1 := wq_up uy28_1 wFU_s23_2
                              have wFV_y28_1 := wq_up uy28_1 wFV_s23_2
                              have wGY_y28_1 := wq_up uy28_1 wGY_s23_2
                              obtain rfl : y28_2 = y28_2r := ey28_2
                              dsimp only at ly28_2
                              have iy28_2 : TI y28_2 y28_2.toInt := rfl
                              have n0 : (s23_2.1 144 0).toInt = (M.1 144 0).toInt := by rw [((up_tr (up_tr (up_tr uy1_1 uy2_1) uy19_2) us23_2)).2.2.2.1]
                              have n3 : (s23_2.1 144 3).toInt = (M.1 144 3).toInt := by rw [((up_tr (up_tr (up_tr uy1_1 uy2_1) uy19_2) us23_2)).2.2.2.1]
                              have g0 := h0.1.1
                              have g1 := h1
                              refine rl_bnd (Q := fun (y z : DD) => Up mu 144 y28_1 y28_1r y z ∧ WQ mu y z 139 (4 / 2) (4 / 2) (fun r x => x18.toInt + 0 + r * 8 + x)) ?_ ?_
                              · refine rl_if (fun c24 => ?_) (fun c24 => ?_)
                                · have dc24 := tl_eq is23_1 tn_0 c24
                                  exfalso
                                  omega
                                · have dc24 := tl_ne is23_1 tn_0 c24
                                  refine rl_ltI (av_sub is23_1 tn_1 (by omega) (by omega)) (fun x32 ix32 => ?_)
                                  refine rl_ltI (av_mul tn_64 ix32 (by omega) (by omega)) (fun x33 ix33 => ?_)
                                  refine rl_ltI (av_add ix18 ix33 (by omega) (by omega)) (fun x34 ix34 => ?_)
                                  refine rl_ltI (av_div i3 tn_2 (by omega) (by omega)) (fun x35 ix35 => ?_)
                                  refine rl_bnd (r_blend ty28_1 iy28_2 ix34 tn_8 ix35 (by omega) (by omega) (by omega) (by omega) (by omega) (by omega) (fun _ => wq_cs wFU_y28_1 (Int.le_refl _) (Int.le_refl _) (fun r x h1 h2 h3 h4 => by (try dsimp only) <;> omega)) (fun h => absurd h (cw_b ly28_2.2 n0 n3 g0 g1)) vk9_y28_1 (fun h => absurd h (cw_c ly28_2.2 n0 n3 g0 g1)) vk11_y28_1 (fun h => absurd h (cw_c ly28_2.2 n0 n3 g0 g1)) vk13_y28_1) ?_
                                  rintro y36 y36r ⟨uy36', vGU_y36'⟩
                                  have uy36 : Up mu 144 y28_1 y28_1r y36 y36r := uy36'
                                  have ty36 := cx_up ty28_1 uy36
                                  have wm_y36 := wg_up uy36 wm_y28_1
                                  have wFL_y36 := wq_up uy36 wFL_y28_1
                                  have wFU_y36 := wq_up uy36 wFU_y28_1
                                  have wFV_y36 := wq_up uy36 wFV_y28_1
                                  have wGY_y36 := wq_up uy36 wGY_y28_1
                                  have wk9_y36 := fun h => ag_up uy36 (vk9_y28_1 h)
                                  have wk11_y36 := fun h => ag_up uy36 (vk11_y28_1 h)
                                  have wk10_y36 := fun h => ag_up uy36 (vk10_y28_1 h)
                                  have wk12_y36 := fun h => ag_up uy36 (vk12_y28_1 h)
                                  have wk13_y36 := fun h => ag_up uy36 (vk13_y28_1 h)
                                  have vGU_y36 : WQ mu y36 y36r 139 (4 / 2) (4 / 2) (fun r x => x18.toInt + 0 + r * 8 + x) := wq_cs vGU_y36' (by omega) (by omega) (fun r x h1 h2 h3 h4 => by (try dsimp only) <;> omega)
                                  exact rl_some ⟨uy36, vGU_y36⟩
                              · rintro y29 y29r ⟨uy29, wGU_y29⟩
                                have uy29 : Up mu 144 y28_1 y28_1r y29 y29r := uy29
                                have ty29 := cx_up ty28_1 uy29
                                have wm_y29 := wg_up uy29 wm_y28_1
                                have wFL_y29 := wq_up uy29 wFL_y28_1
                                have wFU_y29 := wq_up uy29 wFU_y28_1
                                have wFV_y29 := wq_up uy29 wFV_y28_1
                                have wGY_y29 := wq_up uy29 wGY_y28_1
                                have wk9_y29 := fun h => ag_up uy29 (vk9_y28_1 h)
                                have wk11_y29 := fun h => ag_up uy29 (vk11_y28_1 h)
                                have wk10_y29 := fun h => ag_up uy29 (vk10_y28_1 h)
                                have wk12_y29 := fun h => ag_up uy29 (vk12_y28_1 h)
                                have wk13_y29 := fun h => ag_up uy29 (vk13_y28_1 h)
                                have wGU_y29 : WQ mu y29 y29r 139 (4 / 2) (4 / 2) (fun r x => x18.toInt + 0 + r * 8 + x) := wGU_y29
                                refine rl_ltI (av_add is23_1 tn_1 (by omega) (by omega)) (fun x30 ix30 => ?_)
                                refine rl_inlQ (fun (y z : Int32 × DD) => y.1 = z.1 ∧ (2 ≤ y.1.toInt ∧ y.1.toInt ≤ 2) ∧ Up mu 144 y19_2 y19_2r y.2 z.2 ∧ WQ mu y.2 z.2 139 4 4 (fun r x => x14.toInt + r * 16 + x) ∧ WQ mu y.2 z.2 139 (4 / 2) (4 / 2) (fun r x => x18.toInt + 0 + r * 8 + x)) ⟨rfl, (ti_bd ix30 (by omega) (by omega)), (up_tr (up_tr us23_2 uy28_1) uy29), wGY_y29, wGU_y29⟩ ?_
                                rintro ⟨s23_1, s23_2⟩ ⟨s23_1r, s23_2r⟩ ⟨es23_1, ls23_1, us23_2, wGY_s23_2, wGU_s23_2⟩
                                obtain rfl : s23_1 = s23_1r := es23_1
                                have ls23_1 : 2 ≤ s23_1.toInt ∧ s23_1.toInt ≤ 2 := ls23_1
                                have is23_1 : TI s23_1 (2) := ti_c ls23_1
                                have us23_2 : Up mu 144 y19_2 y19_2r s23_2 s23_2r := us23_2
                                have ts23_2 := cx_up ty19_2 us23_2
                                have wm_s23_2 := wg_up us23_2 wm_y19_2
                                have wFL_s23_2 := wq_up us23_2 wFL_y19_2
                                have wFU_s23_2 := wq_up us23_2 wFU_y19_2
                                have wFV_s23_2 := wq_up us23_2 wFV_y19_2
                                have wGY_s23_2 : WQ mu s23_2 s23_2r 139 4 4 (fun r x => x14.toInt + r * 16 + x) := wGY_s23_2
                                have wGU_s23_2 : WQ mu s23_2 s23_2r 139 (4 / 2) (4 / 2) (fun r x => x18.toInt + 0 + r * 8 + x) := wGU_s23_2
                                refine rl_it1 ?_
                                refine rl_bnd (Q := fun (y z : Int32) => y = z ∧ (3 ≤ y.toInt ∧ y.toInt ≤ 3)) ?_ ?_
                                · refine rl_if (fun c25 => ?_) (fun c25 => ?_)
                                  · have dc25 := tl_eq i4 tn_0 c25
                                    exfalso
                                    omega
                                  · have dc25 := tl_ne i4 tn_0 c25
                                    exact rl_some ⟨rfl, (ti_bd tn_3 (by omega) (by omega))⟩
                                · rintro y26 y26r ⟨ey26, ly26⟩
                                  obtain rfl : y26 = y26r := ey26
                                  have ly26 : 3 ≤ y26.toInt ∧ y26.toInt ≤ 3 := ly26
                                  have iy26 : TI y26 (3) := ti_c ly26
                                  refine rl_if (fun c26 => ?_) (fun c26 => ?_)
                                  · have dc26 := tl_le iy26 is23_1 c26
                                    exfalso
                                    omega
                                  · have dc26 := tl_nle iy26 is23_1 c26
                                    refine rl_bnd (r_chooseWeights ts23_2 ⟨rfl, rfl⟩ is23_1 (by omega) (by omega) wm_s23_2) ?_
                                    rintro ⟨y28_1, y28_2⟩ ⟨y28_1r, y28_2r⟩ ⟨uy28_1', ey28_2, ly28_2, vk9_y28_1, vk11_y28_1, vk10_y28_1, vk12_y28_1, vk13_y28_1⟩
                                    have uy28_1 : Up mu 144 s23_2 s23_2r y28_1 y28_1r := uy28_1'
                                    have ty28_1 := cx_up ts23_2 uy28_1
                                    have wm_y28_1 := wg_up uy28_1 wm_s23_2
                                    have wFL_y28_1 := wq_up uy28_1 wFL_s23_2
                                    have wFU_y28_1 := wq_up uy28_1 wFU_s23_2
                                    have wFV_y28_1 := wq_up uy28_1 wFV_s23_2
                                    have wGY_y28_1 := wq_up uy28_1 wGY_s23_2
                                    have wGU_y28_1 := wq_up uy28_1 wGU_s23_2
                                    obtain rfl : y28_2 = y28_2r := ey28_2
                                    dsimp only at ly28_2
                                    have iy28_2 : TI y28_2 y28_2.toInt := rfl
                                    have n0 : (s23_2.1 144 0).toInt = (M.1 144 0).toInt := by rw [((up_tr (up_tr (up_tr uy1_1 uy2_1) uy19_2) us23_2)).2.2.2.1]
                                    have n3 : (s23_2.1 144 3).toInt = (M.1 144 3).toInt := by rw [((up_tr (up_tr (up_tr uy1_1 uy2_1) uy19_2) us23_2)).2.2.2.1]
                                    have g0 := h0.1.1
                                    have g1 := h1
                                    refine rl_bnd (Q := fun (y z : DD) => Up mu 144 y28_1 y28_1r y z ∧ WQ mu y z 139 (4 / 2) (4 / 2) (fun r x => x18.toInt + 64 + r * 8 + x)) ?_ ?_
                                    · refine rl_if (fun c27 => ?_) (fun c27 => ?_)
                                      · have dc27 := tl_eq is23_1 tn_0 c27
                                        exfalso
                                        omega
                                      · have dc27 := tl_ne is23_1 tn_0 c27
                                        refine rl_ltI (av_sub is23_1 tn_1 (by omega) (by omega)) (fun x32 ix32 => ?_)
                                        refine rl_ltI (av_mul tn_64 ix32 (by omega) (by omega)) (fun x33 ix33 => ?_)
                                        refine rl_ltI (av_add ix18 ix33 (by omega) (by omega)) (fun x34 ix34 => ?_)
                                        refine rl_ltI (av_div i3 tn_2 (by omega) (by omega)) (fun x35 ix35 => ?_)
                                        refine rl_bnd (r_blend ty28_1 iy28_2 ix34 tn_8 ix35 (by omega) (by omega) (by omega) (by omega) (by omega) (by omega) (fun _ => wq_cs wFV_y28_1 (Int.le_refl _) (Int.le_refl _) (fun r x h1 h2 h3 h4 => by (try dsimp only) <;> omega)) (fun h => absurd h (cw_b ly28_2.2 n0 n3 g0 g1)) vk9_y28_1 (fun h => absurd h (cw_c ly28_2.2 n0 n3 g0 g1)) vk11_y28_1 (fun h => absurd h (cw_c ly28_2.2 n0 n3 g0 g1)) vk13_y28_1) ?_
                                        rintro y36 y36r ⟨uy36', vGV_y36'⟩
                                        have uy36 : Up mu 144 y28_1 y28_1r y36 y36r := uy36'
                                        have ty36 := cx_up ty28_1 uy36
                                        have wm_y36 := wg_up uy36 wm_y28_1
                                        have wFL_y36 := wq_up uy36 wFL_y28_1
                                        have wFU_y36 := wq_up uy36 wFU_y28_1
                                        have wFV_y36 := wq_up uy36 wFV_y28_1
                                        have wGY_y36 := wq_up uy36 wGY_y28_1
                                        have wGU_y36 := wq_up uy36 wGU_y28_1
                                        have wk9_y36 := fun h => ag_up uy36 (vk9_y28_1 h)
                                        have wk11_y36 := fun h => ag_up uy36 (vk11_y28_1 h)
                                        have wk10_y36 := fun h => ag_up uy36 (vk10_y28_1 h)
                                        have wk12_y36 := fun h => ag_up uy36 (vk12_y28_1 h)
                                        have wk13_y36 := fun h => ag_up uy36 (vk13_y28_1 h)
                                        have vGV_y36 : WQ mu y36 y36r 139 (4 / 2) (4 / 2) (fun r x => x18.toInt + 64 + r * 8 + x) := wq_cs vGV_y36' (by omega) (by omega) (fun r x h1 h2 h3 h4 => by (try dsimp only) <;> omega)
                                        exact rl_some ⟨uy36, vGV_y36⟩
                                    · rintro y29 y29r ⟨uy29, wGV_y29⟩
                                      have uy29 : Up mu 144 y28_1 y28_1r y29 y29r := uy29
                                      have ty29 := cx_up ty28_1 uy29
                                      have wm_y29 := wg_up uy29 wm_y28_1
                                      have wFL_y29 := wq_up uy29 wFL_y28_1
                                      have wFU_y29 := wq_up uy29 wFU_y28_1
                                      have wFV_y29 := wq_up uy29 wFV_y28_1
                                      have wGY_y29 := wq_up uy29 wGY_y28_1
                                      have wGU_y29 := wq_up uy29 wGU_y28_1
                                      have wk9_y29 := fun h => ag_up uy29 (vk9_y28_1 h)
                                      have wk11_y29 := fun h => ag_up uy29 (vk11_y28_1 h)
                                      have wk10_y29 := fun h => ag_up uy29 (vk10_y28_1 h)
                                      have wk12_y29 := fun h => ag_up uy29 (vk12_y28_1 h)
                                      have wk13_y29 := fun h => ag_up uy29 (vk13_y28_1 h)
                                      have wGV_y29 : WQ mu y29 y29r 139 (4 / 2) (4 / 2) (fun r x => x18.toInt + 64 + r * 8 + x) := wGV_y29
                                      refine rl_ltI (av_add is23_1 tn_1 (by omega) (by omega)) (fun x30 ix30 => ?_)
                                      refine rl_inlQ (fun (y z : Int32 × DD) => y.1 = z.1 ∧ (3 ≤ y.1.toInt ∧ y.1.toInt ≤ 3) ∧ Up mu 144 y19_2 y19_2r y.2 z.2 ∧ WQ mu y.2 z.2 139 4 4 (fun r x => x14.toInt + r * 16 + x) ∧ WQ mu y.2 z.2 139 (4 / 2) (4 / 2) (fun r x => x18.toInt + 0 + r * 8 + x) ∧ WQ mu y.2 z.2 139 (4 / 2) (4 / 2) (fun r x => x18.toInt + 64 + r * 8 + x)) ⟨rfl, (ti_bd ix30 (by omega) (by omega)), (up_tr (up_tr us23_2 uy28_1) uy29), wGY_y29, wGU_y29, wGV_y29⟩ ?_
                                      rintro ⟨s23_1, s23_2⟩ ⟨s23_1r, s23_2r⟩ ⟨es23_1, ls23_1, us23_2, wGY_s23_2, wGU_s23_2, wGV_s23_2⟩
                                      obtain rfl : s23_1 = s23_1r := es23_1
                                      have ls23_1 : 3 ≤ s23_1.toInt ∧ s23_1.toInt ≤ 3 := ls23_1
                                      have is23_1 : TI s23_1 (3) := ti_c ls23_1
                                      have us23_2 : Up mu 144 y19_2 y19_2r s23_2 s23_2r := us23_2
                                      have ts23_2 := cx_up ty19_2 us23_2
                                      have wm_s23_2 := wg_up us23_2 wm_y19_2
                                      have wFL_s23_2 := wq_up us23_2 wFL_y19_2
                                      have wFU_s23_2 := wq_up us23_2 wFU_y19_2
                                      have wFV_s23_2 := wq_up us23_2 wFV_y19_2
                                      have wGY_s23_2 : WQ mu s23_2 s23_2r 139 4 4 (fun r x => x14.toInt + r * 16 + x) := wGY_s23_2
                                      have wGU_s23_2 : WQ mu s23_2 s23_2r 139 (4 / 2) (4 / 2) (fun r x => x18.toInt + 0 + r * 8 + x) := wGU_s23_2
                                      have wGV_s23_2 : WQ mu s23_2 s23_2r 139 (4 / 2) (4 / 2) (fun r x => x18.toInt + 64 + r * 8 + x) := wGV_s23_2
                                      refine rl_it1 ?_
                                      refine rl_bnd (Q := fun (y z : Int32) => y = z ∧ (3 ≤ y.toInt ∧ y.toInt ≤ 3)) ?_ ?_
                                      · refine rl_if (fun c28 => ?_) (fun c28 => ?_)
                                        · have dc28 := tl_eq i4 tn_0 c28
                                          exfalso
                                          omega
                                        · have dc28 := tl_ne i4 tn_0 c28
                                          exact rl_some ⟨rfl, (ti_bd tn_3 (by omega) (by omega))⟩
                                      · rintro y26 y26r ⟨ey26, ly26⟩
                                        obtain rfl : y26 = y26r := ey26
                                        have ly26 : 3 ≤ y26.toInt ∧ y26.toInt ≤ 3 := ly26
                                        have iy26 : TI y26 (3) := ti_c ly26
                                        refine rl_if (fun c29 => ?_) (fun c29 => ?_)
                                        · have dc29 := tl_le iy26 is23_1 c29
                                          refine rl_inrQ (fun (y z : Int32 × DD) => y.1 = z.1 ∧ Up mu 144 y19_2 y19_2r y.2 z.2 ∧ WQ mu y.2 z.2 139 4 4 (fun r x => x14.toInt + r * 16 + x) ∧ WQ mu y.2 z.2 139 (4 / 2) (4 / 2) (fun r x => x18.toInt + 0 + r * 8 + x) ∧ WQ mu y.2 z.2 139 (4 / 2) (4 / 2) (fun r x => x18.toInt + 64 + r * 8 + x)) ⟨rfl, us23_2, wGY_s23_2, wGU_s23_2, wGV_s23_2⟩ ?_
                                          rintro ⟨y22_1, y22_2⟩ ⟨y22_1r, y22_2r⟩ ⟨ey22_1, uy22_2, wGY_y22_2, wGU_y22_2, wGV_y22_2⟩
                                          obtain rfl : y22_1 = y22_1r := ey22_1
                                          have uy22_2 : Up mu 144 y19_2 y19_2r y22_2 y22_2r := uy22_2
                                          have ty22_2 := cx_up ty19_2 uy22_2
                                          have wm_y22_2 := wg_up uy22_2 wm_y19_2
                                          have wFL_y22_2 := wq_up uy22_2 wFL_y19_2
                                          have wFU_y22_2 := wq_up uy22_2 wFU_y19_2
                                          have wFV_y22_2 := wq_up uy22_2 wFV_y19_2
                                          have wGY_y22_2 : WQ mu y22_2 y22_2r 139 4 4 (fun r x => x14.toInt + r * 16 + x) := wGY_y22_2
                                          have wGU_y22_2 : WQ mu y22_2 y22_2r 139 (4 / 2) (4 / 2) (fun r x => x18.toInt + 0 + r * 8 + x) := wGU_y22_2
                                          have wGV_y22_2 : WQ mu y22_2 y22_2r 139 (4 / 2) (4 / 2) (fun r x => x18.toInt + 64 + r * 8 + x) := wGV_y22_2
                                          exact rl_some ⟨(up_tr (up_tr (up_tr uy1_1 uy2_1) uy19_2) uy22_2), (wq_cs wGY_y22_2 (Int.le_refl _) (Int.le_refl _) (fun r x h1 h2 h3 h4 => by (try dsimp only) <;> omega)), (wq_cs wGU_y22_2 (Int.le_refl _) (Int.le_refl _) (fun r x h1 h2 h3 h4 => by (try dsimp only) <;> omega)), (wq_cs wGV_y22_2 (Int.le_refl _) (Int.le_refl _) (fun r x h1 h2 h3 h4 => by (try dsimp only) <;> omega))⟩
                                        · have dc29 := tl_nle iy26 is23_1 c29
                                          exfalso
                                          omega
                  · have dc18 := tl_nle tn_2 is20_1 c18
                    exfalso
                    omega
    · refine rl_bnd (r_pieceX t i2 (by omega) (by omega)) ?_
      rintro ⟨y1_1, y1_2⟩ ⟨y1_1r, y1_2r⟩ ⟨uy1_1', ey1_2, iy1_2⟩
      have uy1_1 : Up mu 144 M N y1_1 y1_1r := uy1_1'
      have ty1_1 := cx_up t uy1_1
      have wm_y1_1 := wg_up uy1_1 hm
      obtain rfl : y1_2 = y1_2r := ey1_2
      refine rl_bnd (r_pieceY ty1_1 i2 (by omega) (by omega)) ?_
      rintro ⟨y2_1, y2_2⟩ ⟨y2_1r, y2_2r⟩ ⟨uy2_1', ey2_2, iy2_2⟩
      have uy2_1 : Up mu 144 y1_1 y1_1r y2_1 y2_1r := uy2_1'
      have ty2_1 := cx_up ty1_1 uy2_1
      have wm_y2_1 := wg_up uy2_1 wm_y1_1
      obtain rfl : y2_2 = y2_2r := ey2_2
      refine rl_dr (cx_U ty2_1) ⟨rfl, rfl⟩ (fun gb3 => ?_)
      refine rl_dr (cx_U ty2_1) (rx_p ty2_1) (fun gb4 => ?_)
      refine rl_rd (cx_q (j := 0) (k := 1) ty2_1 (cx_p t) rfl) (fun x5 => ?_)
      refine rl_chk (fun h => h) (fun k1 => ?_)
      refine rl_ltA (fun x6 => ?_)
      refine rl_ltA (fun x7 => ?_)
      refine rl_ltA (fun x8 => ?_)
      refine rl_rd (cx_q (j := 0) (k := 1) ty2_1 (cx_p t) rfl) (fun x9 => ?_)
      refine rl_chk (fun h => h) (fun k2 => ?_)
      refine rl_ltA (fun x10 => ?_)
      refine rl_ltA (fun x11 => ?_)
      refine rl_ltA (fun x12 => ?_)
      refine rl_ltI (av_mul tn_16 iy2_2 (by omega) (by omega)) (fun x13 ix13 => ?_)
      refine rl_ltI (av_add ix13 iy1_2 (by omega) (by omega)) (fun x14 ix14 => ?_)
      have kx14 : x14.toInt = _ := ix14
      refine rl_ltI (av_mul tn_4 iy2_2 (by omega) (by omega)) (fun x15 ix15 => ?_)
      refine rl_ltI (av_add tn_256 ix15 (by omega) (by omega)) (fun x16 ix16 => ?_)
      refine rl_ltI (av_div iy1_2 tn_2 (by omega) (by omega)) (fun x17 ix17 => ?_)
      refine rl_ltI (av_add ix16 ix17 (by omega) (by omega)) (fun x18 ix18 => ?_)
      have kx18 : x18.toInt = _ := ix18
      refine rl_bndK ?_
      refine rl_itQ (fun (y z : Int32 × DD) => y.1 = z.1 ∧ (0 ≤ y.1.toInt ∧ y.1.toInt ≤ 0) ∧ Up mu 144 y2_1 y2_1r y.2 z.2) ⟨rfl, (ti_bd tn_0 (by omega) (by omega)), (up_0 mu (κ := 144) _ _)⟩ ?_
      rintro ⟨s20_1, s20_2⟩ ⟨s20_1r, s20_2r⟩ ⟨es20_1, ls20_1, us20_2⟩
      obtain rfl : s20_1 = s20_1r := es20_1
      have ls20_1 : 0 ≤ s20_1.toInt ∧ s20_1.toInt ≤ 0 := ls20_1
      have is20_1 : TI s20_1 (0) := ti_c ls20_1
      have us20_2 : Up mu 144 y2_1 y2_1r s20_2 s20_2r := us20_2
      have ts20_2 := cx_up ty2_1 us20_2
      have wm_s20_2 := wg_up us20_2 wm_y2_1
      refine rl_it1 ?_
      refine rl_if (fun c3 => ?_) (fun c3 => ?_)
      · have dc3 := tl_le tn_2 is20_1 c3
        exfalso
        omega
      · have dc3 := tl_nle tn_2 is20_1 c3
        refine rl_ltI (av_mul tn_3 is20_1 (by omega) (by omega)) (fun x41 ix41 => ?_)
        refine rl_dr (cx_U ts20_2) (rx_c (a := 138) (k := 5) (b := 144) ts20_2 (Or.inr (Or.inl rfl)) rfl (by decide)) (fun gb42 => ?_)
        refine rl_chk (chkl (cx_U ts20_2) gb42) (fun k4 => ?_)
        refine rl_rdE (wg_id wm_s20_2 ix41 (by omega) (by omega)) (fun x43 ex43 => ?_)
        have mx43 : x43.toInt = (M.1 144 0).toInt := by rw [ex43, ti_n ix41, ((up_tr (up_tr uy1_1 uy2_1) us20_2)).2.2.2.1]; rfl
        have lx43 : x43.toInt < 0 := by rw [mx43]; exact h0
        refine rl_bnd (Q := fun (y z : Option Nat) => (y = none ∧ z = none)) ?_ ?_
        · refine rl_if (fun c5 => ?_) (fun c5 => ?_)
          · have dc5 := tl_lt (rfl : TI x43 x43.toInt) tn_0 c5
            exact rl_some ⟨rfl, rfl⟩
          · have dc5 := tl_nlt (rfl : TI x43 x43.toInt) tn_0 c5
            exfalso
            omega
        · rintro y44 y44r oy44
          refine rl_bnd (Q := fun (y z : DD) => Up mu 144 s20_2 s20_2r y z) ?_ ?_
          · refine rl_ifD (or_iff (mu := mu) (L := L) (Or.inl oy44)) (fun c6 => ?_) (fun c6 => ?_)
            · exact rl_some (up_0 mu (κ := 144) _ _)
            · exact absurd oy44.1 c6
          · rintro y45 y45r uy45
            have uy45 : Up mu 144 s20_2 s20_2r y45 y45r := uy45
            have ty45 := cx_up ts20_2 uy45
            have wm_y45 := wg_up uy45 wm_s20_2
            refine rl_ltI (av_add is20_1 tn_1 (by omega) (by omega)) (fun x46 ix46 => ?_)
            refine rl_inlQ (fun (y z : Int32 × DD) => y.1 = z.1 ∧ (1 ≤ y.1.toInt ∧ y.1.toInt ≤ 1) ∧ Up mu 144 y2_1 y2_1r y.2 z.2) ⟨rfl, (ti_bd ix46 (by omega) (by omega)), (up_tr us20_2 uy45)⟩ ?_
            rintro ⟨s20_1, s20_2⟩ ⟨s20_1r, s20_2r⟩ ⟨es20_1, ls20_1, us20_2⟩
            obtain rfl : s20_1 = s20_1r := es20_1
            have ls20_1 : 1 ≤ s20_1.toInt ∧ s20_1.toInt ≤ 1 := ls20_1
            have is20_1 : TI s20_1 (1) := ti_c ls20_1
            have us20_2 : Up mu 144 y2_1 y2_1r s20_2 s20_2r := us20_2
            have ts20_2 := cx_up ty2_1 us20_2
            have wm_s20_2 := wg_up us20_2 wm_y2_1
            refine rl_it1 ?_
            refine rl_if (fun c7 => ?_) (fun c7 => ?_)
            · have dc7 := tl_le tn_2 is20_1 c7
              exfalso
              omega
            · have dc7 := tl_nle tn_2 is20_1 c7
              refine rl_ltI (av_mul tn_3 is20_1 (by omega) (by omega)) (fun x41 ix41 => ?_)
              refine rl_dr (cx_U ts20_2) (rx_c (a := 138) (k := 5) (b := 144) ts20_2 (Or.inr (Or.inl rfl)) rfl (by decide)) (fun gb42 => ?_)
              refine rl_chk (chkl (cx_U ts20_2) gb42) (fun k8 => ?_)
              refine rl_rdE (wg_id wm_s20_2 ix41 (by omega) (by omega)) (fun x43 ex43 => ?_)
              have mx43 : x43.toInt = (M.1 144 3).toInt := by rw [ex43, ti_n ix41, ((up_tr (up_tr uy1_1 uy2_1) us20_2)).2.2.2.1]; rfl
              have lx43 : 0 ≤ x43.toInt ∧ x43.toInt ≤ 7 := by rw [mx43]; exact h1.1
              refine rl_bnd (Q := fun (y z : Option Nat) => (∃ q, q ∈ L ∧ (y = some q ∧ z = some (mu q)))) ?_ ?_
              · refine rl_if (fun c9 => ?_) (fun c9 => ?_)
                · have dc9 := tl_lt (rfl : TI x43 x43.toInt) tn_0 c9
                  exfalso
                  omega
                · have dc9 := tl_nlt (rfl : TI x43 x43.toInt) tn_0 c9
                  refine rl_bnd (Q := fun (y z : Option Nat) => (∃ q, q ∈ L ∧ (y = some q ∧ z = some (mu q)))) ?_ ?_
                  · refine rl_if (fun c10 => ?_) (fun c10 => ?_)
                    · have dc10 := tl_le (rfl : TI x43 x43.toInt) tn_8 c10
                      refine rl_ltI (av_mul tn_9 is20_1 (by omega) (by omega)) (fun x70 ix70 => ?_)
                      refine rl_ltI (av_add ix70 (rfl : TI x43 x43.toInt) (by omega) (by omega)) (fun x71 ix71 => ?_)
                      refine rl_dr (cx_U ts20_2) (rx_c (a := 125) (k := 3) (b := 126) ts20_2 (Or.inl rfl) rfl (by decide)) (fun gb72 => ?_)
                      refine rl_chk (chkl (cx_U ts20_2) gb72) (fun k11 => ?_)
                      exact rl_some (or_ne (rx_l ts20_2 _) (by rw [((up_tr (up_tr uy1_1 uy2_1) us20_2)).1.1, ti_n ix71, mx43]; exact en_ix h1 1 (by omega)))
                    · have dc10 := tl_nle (rfl : TI x43 x43.toInt) tn_8 c10
                      exfalso
                      omega
                  · rintro y68 y68r ⟨qy68, hqy68, oy68⟩
                    exact rl_some ⟨qy68, hqy68, oy68⟩
              · rintro y44 y44r ⟨qy44, hqy44, oy44⟩
                refine rl_bnd (Q := fun (y z : DD) => Up mu 144 s20_2 s20_2r y z ∧ WQ mu y z 141 4 4 (fun r x => x14.toInt + r * 16 + x) ∧ WQ mu y z 141 (4 / 2) (4 / 2) (fun r x => x18.toInt + 0 + r * 8 + x) ∧ WQ mu y z 141 (4 / 2) (4 / 2) (fun r x => x18.toInt + 64 + r * 8 + x)) ?_ ?_
                · refine rl_ifD (or_iff (mu := mu) (L := L) (Or.inr ⟨qy44, hqy44, oy44⟩)) (fun c12 => ?_) (fun c12 => ?_)
                  · exact absurd c12 (by rw [oy44.1]; exact Option.some_ne_none _)
                  · refine rl_ltA (fun x48 => ?_)
                    refine rl_ltI (av_mul tn_3 is20_1 (by omega) (by omega)) (fun x49 ix49 => ?_)
                    refine rl_ltI (av_add ix49 tn_1 (by omega) (by omega)) (fun x50 ix50 => ?_)
                    refine rl_chk (chkl (cx_U ts20_2) gb42) (fun k13 => ?_)
                    refine rl_rd (wg_id wm_s20_2 ix50 (by omega) (by omega)) (fun x51 => ?_)
                    refine rl_ltA (fun x52 => ?_)
                    refine rl_ltA (fun x53 => ?_)
                    refine rl_ltI (av_mul tn_3 is20_1 (by omega) (by omega)) (fun x54 ix54 => ?_)
                    refine rl_ltI (av_add ix54 tn_2 (by omega) (by omega)) (fun x55 ix55 => ?_)
                    refine rl_chk (chkl (cx_U ts20_2) gb42) (fun k14 => ?_)
                    refine rl_rd (wg_id wm_s20_2 ix55 (by omega) (by omega)) (fun x56 => ?_)
                    refine rl_ltA (fun x57 => ?_)
                    refine rl_bnd (Q := fun (y z : Option Nat) => (y = some 141 ∧ z = some (mu 141))) ?_ ?_
                    · refine rl_if (fun c15 => ?_) (fun c15 => ?_)
                      · have dc15 := tl_eq is20_1 tn_0 c15
                        exfalso
                        omega
                      · have dc15 := tl_ne is20_1 tn_0 c15
                        exact rl_some (rx_c (a := 138) (k := 2) (b := 141) ts20_2 (Or.inr (Or.inl rfl)) rfl (by decide))
                    · rintro y58 y58r oy58
                      refine rl_bnd (r_predictLuma ts20_2 oy44 hqy44 (rfl : TI x52 x52.toInt) (rfl : TI x57 x57.toInt) i3 oy58 (Or.inr rfl) ix14 (by omega) (by omega) (by omega)) ?_
                      rintro y59 y59r ⟨uy59', vSL_y59'⟩
                      have uy59 : Up mu 144 s20_2 s20_2r y59 y59r := uy59'
                      have ty59 := cx_up ts20_2 uy59
                      have wm_y59 := wg_up uy59 wm_s20_2
                      have vSL_y59 : WQ mu y59 y59r 141 4 4 (fun r x => x14.toInt + r * 16 + x) := wg_wq vSL_y59' (fun r x => r * 4 + x) (fun r x h1 h2 h3 h4 => by (try dsimp only); refine ⟨⟨by omega, by omega⟩, by omega⟩)
                      refine rl_bnd (Q := fun (y z : DD) => Up mu 144 y59 y59r y z ∧ WQ mu y z 141 (4 / 2) (4 / 2) (fun r x => x18.toInt + 0 + r * 8 + x) ∧ WQ mu y z 141 (4 / 2) (4 / 2) (fun r x => x18.toInt + 64 + r * 8 + x)) ?_ ?_
                      · refine rl_if (fun c16 => ?_) (fun c16 => ?_)
                        · have dc16 := tl_eq i4 tn_0 c16
                          exfalso
                          omega
                        · have dc16 := tl_ne i4 tn_0 c16
                          refine rl_ltI (av_div i3 tn_2 (by omega) (by omega)) (fun x62 ix62 => ?_)
                          refine rl_bnd (Q := fun (y z : Option Nat) => (y = some 141 ∧ z = some (mu 141))) ?_ ?_
                          · refine rl_if (fun c17 => ?_) (fun c17 => ?_)
                            · have dc17 := tl_eq is20_1 tn_0 c17
                              exfalso
                              omega
                            · have dc17 := tl_ne is20_1 tn_0 c17
                              exact rl_some (rx_c (a := 138) (k := 2) (b := 141) ty59 (Or.inr (Or.inl rfl)) rfl (by decide))
                          · rintro y63 y63r oy63
                            refine rl_bnd (r_predictColours ty59 oy44 hqy44 (rfl : TI x52 x52.toInt) (rfl : TI x57 x57.toInt) ix62 oy63 (Or.inr rfl) ix18 (by omega) (by omega) (by omega)) ?_
                            rintro y64 y64r ⟨uy64', vSU_y64', vSV_y64'⟩
                            have uy64 : Up mu 144 y59 y59r y64 y64r := uy64'
                            have ty64 := cx_up ty59 uy64
                            have wm_y64 := wg_up uy64 wm_y59
                            have wSL_y64 := wq_up uy64 vSL_y59
                            have vSU_y64 : WQ mu y64 y64r 141 (4 / 2) (4 / 2) (fun r x => x18.toInt + 0 + r * 8 + x) := wg_wq vSU_y64' (fun r x => r * (4 / 2) + x) (fun r x h1 h2 h3 h4 => by (try dsimp only); refine ⟨⟨by omega, by omega⟩, by omega⟩)
                            have vSV_y64 : WQ mu y64 y64r 141 (4 / 2) (4 / 2) (fun r x => x18.toInt + 64 + r * 8 + x) := wg_wq vSV_y64' (fun r x => r * (4 / 2) + x) (fun r x h1 h2 h3 h4 => by (try dsimp only); refine ⟨⟨by omega, by omega⟩, by omega⟩)
                            exact rl_some ⟨uy64, vSU_y64, vSV_y64⟩
                      · rintro y60 y60r ⟨uy60, wSU_y60, wSV_y60⟩
                        have uy60 : Up mu 144 y59 y59r y60 y60r := uy60
                        have ty60 := cx_up ty59 uy60
                        have wm_y60 := wg_up uy60 wm_y59
                        have wSL_y60 := wq_up uy60 vSL_y59
                        have wSU_y60 : WQ mu y60 y60r 141 (4 / 2) (4 / 2) (fun r x => x18.toInt + 0 + r * 8 + x) := wSU_y60
                        have wSV_y60 : WQ mu y60 y60r 141 (4 / 2) (4 / 2) (fun r x => x18.toInt + 64 + r * 8 + x) := wSV_y60
                        exact rl_some ⟨(up_tr uy59 uy60), wSL_y60, wSU_y60, wSV_y60⟩
                · rintro y45 y45r ⟨uy45, wSL_y45, wSU_y45, wSV_y45⟩
                  have uy45 : Up mu 144 s20_2 s20_2r y45 y45r := uy45
                  have ty45 := cx_up ts20_2 uy45
                  have wm_y45 := wg_up uy45 wm_s20_2
                  have wSL_y45 : WQ mu y45 y45r 141 4 4 (fun r x => x14.toInt + r * 16 + x) := wSL_y45
                  have wSU_y45 : WQ mu y45 y45r 141 (4 / 2) (4 / 2) (fun r x => x18.toInt + 0 + r * 8 + x) := wSU_y45
                  have wSV_y45 : WQ mu y45 y45r 141 (4 / 2) (4 / 2) (fun r x => x18.toInt + 64 + r * 8 + x) := wSV_y45
                  refine rl_ltI (av_add is20_1 tn_1 (by omega) (by omega)) (fun x46 ix46 => ?_)
                  refine rl_inlQ (fun (y z : Int32 × DD) => y.1 = z.1 ∧ (2 ≤ y.1.toInt ∧ y.1.toInt ≤ 2) ∧ Up mu 144 y2_1 y2_1r y.2 z.2 ∧ WQ mu y.2 z.2 141 4 4 (fun r x => x14.toInt + r * 16 + x) ∧ WQ mu y.2 z.2 141 (4 / 2) (4 / 2) (fun r x => x18.toInt + 0 + r * 8 + x) ∧ WQ mu y.2 z.2 141 (4 / 2) (4 / 2) (fun r x => x18.toInt + 64 + r * 8 + x)) ⟨rfl, (ti_bd ix46 (by omega) (by omega)), (up_tr us20_2 uy45), wSL_y45, wSU_y45, wSV_y45⟩ ?_
                  rintro ⟨s20_1, s20_2⟩ ⟨s20_1r, s20_2r⟩ ⟨es20_1, ls20_1, us20_2, wSL_s20_2, wSU_s20_2, wSV_s20_2⟩
                  obtain rfl : s20_1 = s20_1r := es20_1
                  have ls20_1 : 2 ≤ s20_1.toInt ∧ s20_1.toInt ≤ 2 := ls20_1
                  have is20_1 : TI s20_1 (2) := ti_c ls20_1
                  have us20_2 : Up mu 144 y2_1 y2_1r s20_2 s20_2r := us20_2
                  have ts20_2 := cx_up ty2_1 us20_2
                  have wm_s20_2 := wg_up us20_2 wm_y2_1
                  have wSL_s20_2 : WQ mu s20_2 s20_2r 141 4 4 (fun r x => x14.toInt + r * 16 + x) := wSL_s20_2
                  have wSU_s20_2 : WQ mu s20_2 s20_2r 141 (4 / 2) (4 / 2) (fun r x => x18.toInt + 0 + r * 8 + x) := wSU_s20_2
                  have wSV_s20_2 : WQ mu s20_2 s20_2r 141 (4 / 2) (4 / 2) (fun r x => x18.toInt + 64 + r * 8 + x) := wSV_s20_2
                  refine rl_it1 ?_
                  refine rl_if (fun c18 => ?_) (fun c18 => ?_)
                  · have dc18 := tl_le tn_2 is20_1 c18
                    refine rl_inrQ (fun (y z : Int32 × DD) => y.1 = z.1 ∧ Up mu 144 y2_1 y2_1r y.2 z.2 ∧ WQ mu y.2 z.2 141 4 4 (fun r x => x14.toInt + r * 16 + x) ∧ WQ mu y.2 z.2 141 (4 / 2) (4 / 2) (fun r x => x18.toInt + 0 + r * 8 + x) ∧ WQ mu y.2 z.2 141 (4 / 2) (4 / 2) (fun r x => x18.toInt + 64 + r * 8 + x)) ⟨rfl, us20_2, wSL_s20_2, wSU_s20_2, wSV_s20_2⟩ ?_
                    rintro ⟨y19_1, y19_2⟩ ⟨y19_1r, y19_2r⟩ ⟨ey19_1, uy19_2, wSL_y19_2, wSU_y19_2, wSV_y19_2⟩
                    obtain rfl : y19_1 = y19_1r := ey19_1
                    have uy19_2 : Up mu 144 y2_1 y2_1r y19_2 y19_2r := uy19_2
                    have ty19_2 := cx_up ty2_1 uy19_2
                    have wm_y19_2 := wg_up uy19_2 wm_y2_1
                    have wSL_y19_2 : WQ mu y19_2 y19_2r 141 4 4 (fun r x => x14.toInt + r * 16 + x) := wSL_y19_2
                    have wSU_y19_2 : WQ mu y19_2 y19_2r 141 (4 / 2) (4 / 2) (fun r x => x18.toInt + 0 + r * 8 + x) := wSU_y19_2
                    have wSV_y19_2 : WQ mu y19_2 y19_2r 141 (4 / 2) (4 / 2) (fun r x => x18.toInt + 64 + r * 8 + x) := wSV_y19_2
                    refine rl_bndK ?_
                    refine rl_itQ (fun (y z : Int32 × DD) => y.1 = z.1 ∧ (0 ≤ y.1.toInt ∧ y.1.toInt ≤ 0) ∧ Up mu 144 y19_2 y19_2r y.2 z.2) ⟨rfl, (ti_bd tn_0 (by omega) (by omega)), (up_0 mu (κ := 144) _ _)⟩ ?_
                    rintro ⟨s23_1, s23_2⟩ ⟨s23_1r, s23_2r⟩ ⟨es23_1, ls23_1, us23_2⟩
                    obtain rfl : s23_1 = s23_1r := es23_1
                    have ls23_1 : 0 ≤ s23_1.toInt ∧ s23_1.toInt ≤ 0 := ls23_1
                    have is23_1 : TI s23_1 (0) := ti_c ls23_1
                    have us23_2 : Up mu 144 y19_2 y19_2r s23_2 s23_2r := us23_2
                    have ts23_2 := cx_up ty19_2 us23_2
                    have wm_s23_2 := wg_up us23_2 wm_y19_2
                    have wSL_s23_2 := wq_up us23_2 wSL_y19_2
                    have wSU_s23_2 := wq_up us23_2 wSU_y19_2
                    have wSV_s23_2 := wq_up us23_2 wSV_y19_2
                    refine rl_it1 ?_
                    refine rl_bnd (Q := fun (y z : Int32) => y = z ∧ (3 ≤ y.toInt ∧ y.toInt ≤ 3)) ?_ ?_
                    · refine rl_if (fun c19 => ?_) (fun c19 => ?_)
                      · have dc19 := tl_eq i4 tn_0 c19
                        exfalso
                        omega
                      · have dc19 := tl_ne i4 tn_0 c19
                        exact rl_some ⟨rfl, (ti_bd tn_3 (by omega) (by omega))⟩
                    · rintro y26 y26r ⟨ey26, ly26⟩
                      obtain rfl : y26 = y26r := ey26
                      have ly26 : 3 ≤ y26.toInt ∧ y26.toInt ≤ 3 := ly26
                      have iy26 : TI y26 (3) := ti_c ly26
                      refine rl_if (fun c20 => ?_) (fun c20 => ?_)
                      · have dc20 := tl_le iy26 is23_1 c20
                        exfalso
                        omega
                      · have dc20 := tl_nle iy26 is23_1 c20
                        refine rl_bnd (r_chooseWeights ts23_2 ⟨rfl, rfl⟩ is23_1 (by omega) (by omega) wm_s23_2) ?_
                        rintro ⟨y28_1, y28_2⟩ ⟨y28_1r, y28_2r⟩ ⟨uy28_1', ey28_2, ly28_2, vk9_y28_1, vk11_y28_1, vk10_y28_1, vk12_y28_1, vk13_y28_1⟩
                        have uy28_1 : Up mu 144 s23_2 s23_2r y28_1 y28_1r := uy28_1'
                        have ty28_1 := cx_up ts23_2 uy28_1
                        have wm_y28_1 := wg_up uy28_1 wm_s23_2
                        have wSL_y28_1 := wq_up uy28_1 wSL_s23_2
                        have wSU_y28_1 := wq_up uy28_1 wSU_s23_2
                        have wSV_y28_1 := wq_up uy28_1 wSV_s23_2
                        obtain rfl : y28_2 = y28_2r := ey28_2
                        dsimp only at ly28_2
                        have iy28_2 : TI y28_2 y28_2.toInt := rfl
                        have n0 : (s23_2.1 144 0).toInt = (M.1 144 0).toInt := by rw [((up_tr (up_tr (up_tr uy1_1 uy2_1) uy19_2) us23_2)).2.2.2.1]
                        have n3 : (s23_2.1 144 3).toInt = (M.1 144 3).toInt := by rw [((up_tr (up_tr (up_tr uy1_1 uy2_1) uy19_2) us23_2)).2.2.2.1]
                        have g0 := h0
                        have g1 := h1.1.1
                        refine rl_bnd (Q := fun (y z : DD) => Up mu 144 y28_1 y28_1r y z ∧ WQ mu y z 139 4 4 (fun r x => x14.toInt + r * 16 + x)) ?_ ?_
                        · refine rl_if (fun c21 => ?_) (fun c21 => ?_)
                          · have dc21 := tl_eq is23_1 tn_0 c21
                            refine rl_bnd (r_blend ty28_1 iy28_2 ix14 tn_16 i3 (by omega) (by omega) (by omega) (by omega) (by omega) (by omega) (fun h => absurd h (cw_a ly28_2.2 n0 g0)) (fun _ => wq_cs wSL_y28_1 (Int.le_refl _) (Int.le_refl _) (fun r x h1 h2 h3 h4 => by (try dsimp only) <;> omega)) vk9_y28_1 (fun h => vk10_y28_1 ⟨h, by rw [n3]; exact h1.1.1⟩) vk11_y28_1 (fun h => vk12_y28_1 ⟨h, by rw [n3]; exact h1.1.1⟩) vk13_y28_1) ?_
                            rintro y37 y37r ⟨uy37', vGY_y37'⟩
                            have uy37 : Up mu 144 y28_1 y28_1r y37 y37r := uy37'
                            have ty37 := cx_up ty28_1 uy37
                            have wm_y37 := wg_up uy37 wm_y28_1
                            have wSL_y37 := wq_up uy37 wSL_y28_1
                            have wSU_y37 := wq_up uy37 wSU_y28_1
                            have wSV_y37 := wq_up uy37 wSV_y28_1
                            have wk9_y37 := fun h => ag_up uy37 (vk9_y28_1 h)
                            have wk11_y37 := fun h => ag_up uy37 (vk11_y28_1 h)
                            have wk10_y37 := fun h => ag_up uy37 (vk10_y28_1 h)
                            have wk12_y37 := fun h => ag_up uy37 (vk12_y28_1 h)
                            have wk13_y37 := fun h => ag_up uy37 (vk13_y28_1 h)
                            have vGY_y37 : WQ mu y37 y37r 139 4 4 (fun r x => x14.toInt + r * 16 + x) := wq_cs vGY_y37' (by omega) (by omega) (fun r x h1 h2 h3 h4 => by (try dsimp only) <;> omega)
                            exact rl_some ⟨uy37, vGY_y37⟩
                          · have dc21 := tl_ne is23_1 tn_0 c21
                            exfalso
                            omega
                        · rintro y29 y29r ⟨uy29, wGY_y29⟩
                          have uy29 : Up mu 144 y28_1 y28_1r y29 y29r := uy29
                          have ty29 := cx_up ty28_1 uy29
                          have wm_y29 := wg_up uy29 wm_y28_1
                          have wSL_y29 := wq_up uy29 wSL_y28_1
                          have wSU_y29 := wq_up uy29 wSU_y28_1
                          have wSV_y29 := wq_up uy29 wSV_y28_1
                          have wk9_y29 := fun h => ag_up uy29 (vk9_y28_1 h)
                          have wk11_y29 := fun h => ag_up uy29 (vk11_y28_1 h)
                          have wk10_y29 := fun h => ag_up uy29 (vk10_y28_1 h)
                          have wk12_y29 := fun h => ag_up uy29 (vk12_y28_1 h)
                          have wk13_y29 := fun h => ag_up uy29 (vk13_y28_1 h)
                          have wGY_y29 : WQ mu y29 y29r 139 4 4 (fun r x => x14.toInt + r * 16 + x) := wGY_y29
                          refine rl_ltI (av_add is23_1 tn_1 (by omega) (by omega)) (fun x30 ix30 => ?_)
                          refine rl_inlQ (fun (y z : Int32 × DD) => y.1 = z.1 ∧ (1 ≤ y.1.toInt ∧ y.1.toInt ≤ 1) ∧ Up mu 144 y19_2 y19_2r y.2 z.2 ∧ WQ mu y.2 z.2 139 4 4 (fun r x => x14.toInt + r * 16 + x)) ⟨rfl, (ti_bd ix30 (by omega) (by omega)), (up_tr (up_tr us23_2 uy28_1) uy29), wGY_y29⟩ ?_
                          rintro ⟨s23_1, s23_2⟩ ⟨s23_1r, s23_2r⟩ ⟨es23_1, ls23_1, us23_2, wGY_s23_2⟩
                          obtain rfl : s23_1 = s23_1r := es23_1
                          have ls23_1 : 1 ≤ s23_1.toInt ∧ s23_1.toInt ≤ 1 := ls23_1
                          have is23_1 : TI s23_1 (1) := ti_c ls23_1
                          have us23_2 : Up mu 144 y19_2 y19_2r s23_2 s23_2r := us23_2
                          have ts23_2 := cx_up ty19_2 us23_2
                          have wm_s23_2 := wg_up us23_2 wm_y19_2
                          have wSL_s23_2 := wq_up us23_2 wSL_y19_2
                          have wSU_s23_2 := wq_up us23_2 wSU_y19_2
                          have wSV_s23_2 := wq_up us23_2 wSV_y19_2
                          have wGY_s23_2 : WQ mu s23_2 s23_2r 139 4 4 (fun r x => x14.toInt + r * 16 + x) := wGY_s23_2
                          refine rl_it1 ?_
                          refine rl_bnd (Q := fun (y z : Int32) => y = z ∧ (3 ≤ y.toInt ∧ y.toInt ≤ 3)) ?_ ?_
                          · refine rl_if (fun c22 => ?_) (fun c22 => ?_)
                            · have dc22 := tl_eq i4 tn_0 c22
                              exfalso
                              omega
                            · have dc22 := tl_ne i4 tn_0 c22
                              exact rl_some ⟨rfl, (ti_bd tn_3 (by omega) (by omega))⟩
                          · rintro y26 y26r ⟨ey26, ly26⟩
                            obtain rfl : y26 = y26r := ey26
                            have ly26 : 3 ≤ y26.toInt ∧ y26.toInt ≤ 3 := ly26
                            have iy26 : TI y26 (3) := ti_c ly26
                            refine rl_if (fun c23 => ?_) (fun c23 => ?_)
                            · have dc23 := tl_le iy26 is23_1 c23
                              exfalso
                              omega
                            · have dc23 := tl_nle iy26 is23_1 c23
                              refine rl_bnd (r_chooseWeights ts23_2 ⟨rfl, rfl⟩ is23_1 (by omega) (by omega) wm_s23_2) ?_
                              rintro ⟨y28_1, y28_2⟩ ⟨y28_1r, y28_2r⟩ ⟨uy28_1', ey28_2, ly28_2, vk9_y28_1, vk11_y28_1, vk10_y28_1, vk12_y28_1, vk13_y28_1⟩
                              have uy28_1 : Up mu 144 s23_2 s23_2r y28_1 y28_1r := uy28_1'
                              have ty28_1 := cx_up ts23_2 uy28_1
                              have wm_y28_1 := wg_up uy28_1 wm_s23_2
                              have wSL_y28_1 := wq_up uy28_1 wSL_s23_2
                              have wSU_y28_1 := wq_up uy28_1 wSU_s23_2
                              have wSV_y28_1 := wq_up uy28_1 wSV_s23_2
                              have wGY_y28_1 := wq_up uy28_1 wGY_s23_2
                              obtain rfl : y28_2 = y28_2r := ey28_2
                              dsimp only at ly28_2
                              have iy28_2 : TI y28_2 y28_2.toInt := rfl
                              have n0 : (s23_2.1 144 0).toInt = (M.1 144 0).toInt := by rw [((up_tr (up_tr (up_tr uy1_1 uy2_1) uy19_2) us23_2)).2.2.2.1]
                              have n3 : (s23_2.1 144 3).toInt = (M.1 144 3).toInt := by rw [((up_tr (up_tr (up_tr uy1_1 uy2_1) uy19_2) us23_2)).2.2.2.1]
                              have g0 := h0
                              have g1 := h1.1.1
                              refine rl_bnd (Q := fun (y z : DD) => Up mu 144 y28_1 y28_1r y z ∧ WQ mu y z 139 (4 / 2) (4 / 2) (fun r x => x18.toInt + 0 + r * 8 + x)) ?_ ?_
                              · refine rl_if (fun c24 => ?_) (fun c24 => ?_)
                                · have dc24 := tl_eq is23_1 tn_0 c24
                                  exfalso
                                  omega
                                · have dc24 := tl_ne is23_1 tn_0 c24
                                  refine rl_ltI (av_sub is23_1 tn_1 (by omega) (by omega)) (fun x32 ix32 => ?_)
                                  refine rl_ltI (av_mul tn_64 ix32 (by omega) (by omega)) (fun x33 ix33 => ?_)
                                  refine rl_ltI (av_add ix18 ix33 (by omega) (by omega)) (fun x34 ix34 => ?_)
                                  refine rl_ltI (av_div i3 tn_2 (by omega) (by omega)) (fun x35 ix35 => ?_)
                                  refine rl_bnd (r_blend ty28_1 iy28_2 ix34 tn_8 ix35 (by omega) (by omega) (by omega) (by omega) (by omega) (by omega) (fun h => absurd h (cw_a ly28_2.2 n0 g0)) (fun _ => wq_cs wSU_y28_1 (Int.le_refl _) (Int.le_refl _) (fun r x h1 h2 h3 h4 => by (try dsimp only) <;> omega)) vk9_y28_1 (fun h => vk10_y28_1 ⟨h, by rw [n3]; exact h1.1.1⟩) vk11_y28_1 (fun h => vk12_y28_1 ⟨h, by rw [n3]; exact h1.1.1⟩) vk13_y28_1) ?_
                                  rintro y36 y36r ⟨uy36', vGU_y36'⟩
                                  have uy36 : Up mu 144 y28_1 y28_1r y36 y36r := uy36'
                                  have ty36 := cx_up ty28_1 uy36
                                  have wm_y36 := wg_up uy36 wm_y28_1
                                  have wSL_y36 := wq_up uy36 wSL_y28_1
                                  have wSU_y36 := wq_up uy36 wSU_y28_1
                                  have wSV_y36 := wq_up uy36 wSV_y28_1
                                  have wGY_y36 := wq_up uy36 wGY_y28_1
                                  have wk9_y36 := fun h => ag_up uy36 (vk9_y28_1 h)
                                  have wk11_y36 := fun h => ag_up uy36 (vk11_y28_1 h)
                                  have wk10_y36 := fun h => ag_up uy36 (vk10_y28_1 h)
                                  have wk12_y36 := fun h => ag_up uy36 (vk12_y28_1 h)
                                  have wk13_y36 := fun h => ag_up uy36 (vk13_y28_1 h)
                                  have vGU_y36 : WQ mu y36 y36r 139 (4 / 2) (4 / 2) (fun r x => x18.toInt + 0 + r * 8 + x) := wq_cs vGU_y36' (by omega) (by omega) (fun r x h1 h2 h3 h4 => by (try dsimp only) <;> omega)
                                  exact rl_some ⟨uy36, vGU_y36⟩
                              · rintro y29 y29r ⟨uy29, wGU_y29⟩
                                have uy29 : Up mu 144 y28_1 y28_1r y29 y29r := uy29
                                have ty29 := cx_up ty28_1 uy29
                                have wm_y29 := wg_up uy29 wm_y28_1
                                have wSL_y29 := wq_up uy29 wSL_y28_1
                                have wSU_y29 := wq_up uy29 wSU_y28_1
                                have wSV_y29 := wq_up uy29 wSV_y28_1
                                have wGY_y29 := wq_up uy29 wGY_y28_1
                                have wk9_y29 := fun h => ag_up uy29 (vk9_y28_1 h)
                                have wk11_y29 := fun h => ag_up uy29 (vk11_y28_1 h)
                                have wk10_y29 := fun h => ag_up uy29 (vk10_y28_1 h)
                                have wk12_y29 := fun h => ag_up uy29 (vk12_y28_1 h)
                                have wk13_y29 := fun h => ag_up uy29 (vk13_y28_1 h)
                                have wGU_y29 : WQ mu y29 y29r 139 (4 / 2) (4 / 2) (fun r x => x18.toInt + 0 + r * 8 + x) := wGU_y29
                                refine rl_ltI (av_add is23_1 tn_1 (by omega) (by omega)) (fun x30 ix30 => ?_)
                                refine rl_inlQ (fun (y z : Int32 × DD) => y.1 = z.1 ∧ (2 ≤ y.1.toInt ∧ y.1.toInt ≤ 2) ∧ Up mu 144 y19_2 y19_2r y.2 z.2 ∧ WQ mu y.2 z.2 139 4 4 (fun r x => x14.toInt + r * 16 + x) ∧ WQ mu y.2 z.2 139 (4 / 2) (4 / 2) (fun r x => x18.toInt + 0 + r * 8 + x)) ⟨rfl, (ti_bd ix30 (by omega) (by omega)), (up_tr (up_tr us23_2 uy28_1) uy29), wGY_y29, wGU_y29⟩ ?_
                                rintro ⟨s23_1, s23_2⟩ ⟨s23_1r, s23_2r⟩ ⟨es23_1, ls23_1, us23_2, wGY_s23_2, wGU_s23_2⟩
                                obtain rfl : s23_1 = s23_1r := es23_1
                                have ls23_1 : 2 ≤ s23_1.toInt ∧ s23_1.toInt ≤ 2 := ls23_1
                                have is23_1 : TI s23_1 (2) := ti_c ls23_1
                                have us23_2 : Up mu 144 y19_2 y19_2r s23_2 s23_2r := us23_2
                                have ts23_2 := cx_up ty19_2 us23_2
                                have wm_s23_2 := wg_up us23_2 wm_y19_2
                                have wSL_s23_2 := wq_up us23_2 wSL_y19_2
                                have wSU_s23_2 := wq_up us23_2 wSU_y19_2
                                have wSV_s23_2 := wq_up us23_2 wSV_y19_2
                                have wGY_s23_2 : WQ mu s23_2 s23_2r 139 4 4 (fun r x => x14.toInt + r * 16 + x) := wGY_s23_2
                                have wGU_s23_2 : WQ mu s23_2 s23_2r 139 (4 / 2) (4 / 2) (fun r x => x18.toInt + 0 + r * 8 + x) := wGU_s23_2
                                refine rl_it1 ?_
                                refine rl_bnd (Q := fun (y z : Int32) => y = z ∧ (3 ≤ y.toInt ∧ y.toInt ≤ 3)) ?_ ?_
                                · refine rl_if (fun c25 => ?_) (fun c25 => ?_)
                                  · have dc25 := tl_eq i4 tn_0 c25
                                    exfalso
                                    omega
                                  · have dc25 := tl_ne i4 tn_0 c25
                                    exact rl_some ⟨rfl, (ti_bd tn_3 (by omega) (by omega))⟩
                                · rintro y26 y26r ⟨ey26, ly26⟩
                                  obtain rfl : y26 = y26r := ey26
                                  have ly26 : 3 ≤ y26.toInt ∧ y26.toInt ≤ 3 := ly26
                                  have iy26 : TI y26 (3) := ti_c ly26
                                  refine rl_if (fun c26 => ?_) (fun c26 => ?_)
                                  · have dc26 := tl_le iy26 is23_1 c26
                                    exfalso
                                    omega
                                  · have dc26 := tl_nle iy26 is23_1 c26
                                    refine rl_bnd (r_chooseWeights ts23_2 ⟨rfl, rfl⟩ is23_1 (by omega) (by omega) wm_s23_2) ?_
                                    rintro ⟨y28_1, y28_2⟩ ⟨y28_1r, y28_2r⟩ ⟨uy28_1', ey28_2, ly28_2, vk9_y28_1, vk11_y28_1, vk10_y28_1, vk12_y28_1, vk13_y28_1⟩
                                    have uy28_1 : Up mu 144 s23_2 s23_2r y28_1 y28_1r := uy28_1'
                                    have ty28_1 := cx_up ts23_2 uy28_1
                                    have wm_y28_1 := wg_up uy28_1 wm_s23_2
                                    have wSL_y28_1 := wq_up uy28_1 wSL_s23_2
                                    have wSU_y28_1 := wq_up uy28_1 wSU_s23_2
                                    have wSV_y28_1 := wq_up uy28_1 wSV_s23_2
                                    have wGY_y28_1 := wq_up uy28_1 wGY_s23_2
                                    have wGU_y28_1 := wq_up uy28_1 wGU_s23_2
                                    obtain rfl : y28_2 = y28_2r := ey28_2
                                    dsimp only at ly28_2
                                    have iy28_2 : TI y28_2 y28_2.toInt := rfl
                                    have n0 : (s23_2.1 144 0).toInt = (M.1 144 0).toInt := by rw [((up_tr (up_tr (up_tr uy1_1 uy2_1) uy19_2) us23_2)).2.2.2.1]
                                    have n3 : (s23_2.1 144 3).toInt = (M.1 144 3).toInt := by rw [((up_tr (up_tr (up_tr uy1_1 uy2_1) uy19_2) us23_2)).2.2.2.1]
                                    have g0 := h0
                                    have g1 := h1.1.1
                                    refine rl_bnd (Q := fun (y z : DD) => Up mu 144 y28_1 y28_1r y z ∧ WQ mu y z 139 (4 / 2) (4 / 2) (fun r x => x18.toInt + 64 + r * 8 + x)) ?_ ?_
                                    · refine rl_if (fun c27 => ?_) (fun c27 => ?_)
                                      · have dc27 := tl_eq is23_1 tn_0 c27
                                        exfalso
                                        omega
                                      · have dc27 := tl_ne is23_1 tn_0 c27
                                        refine rl_ltI (av_sub is23_1 tn_1 (by omega) (by omega)) (fun x32 ix32 => ?_)
                                        refine rl_ltI (av_mul tn_64 ix32 (by omega) (by omega)) (fun x33 ix33 => ?_)
                                        refine rl_ltI (av_add ix18 ix33 (by omega) (by omega)) (fun x34 ix34 => ?_)
                                        refine rl_ltI (av_div i3 tn_2 (by omega) (by omega)) (fun x35 ix35 => ?_)
                                        refine rl_bnd (r_blend ty28_1 iy28_2 ix34 tn_8 ix35 (by omega) (by omega) (by omega) (by omega) (by omega) (by omega) (fun h => absurd h (cw_a ly28_2.2 n0 g0)) (fun _ => wq_cs wSV_y28_1 (Int.le_refl _) (Int.le_refl _) (fun r x h1 h2 h3 h4 => by (try dsimp only) <;> omega)) vk9_y28_1 (fun h => vk10_y28_1 ⟨h, by rw [n3]; exact h1.1.1⟩) vk11_y28_1 (fun h => vk12_y28_1 ⟨h, by rw [n3]; exact h1.1.1⟩) vk13_y28_1) ?_
                                        rintro y36 y36r ⟨uy36', vGV_y36'⟩
                                        have uy36 : Up mu 144 y28_1 y28_1r y36 y36r := uy36'
                                        have ty36 := cx_up ty28_1 uy36
                                        have wm_y36 := wg_up uy36 wm_y28_1
                                        have wSL_y36 := wq_up uy36 wSL_y28_1
                                        have wSU_y36 := wq_up uy36 wSU_y28_1
                                        have wSV_y36 := wq_up uy36 wSV_y28_1
                                        have wGY_y36 := wq_up uy36 wGY_y28_1
                                        have wGU_y36 := wq_up uy36 wGU_y28_1
                                        have wk9_y36 := fun h => ag_up uy36 (vk9_y28_1 h)
                                        have wk11_y36 := fun h => ag_up uy36 (vk11_y28_1 h)
                                        have wk10_y36 := fun h => ag_up uy36 (vk10_y28_1 h)
                                        have wk12_y36 := fun h => ag_up uy36 (vk12_y28_1 h)
                                        have wk13_y36 := fun h => ag_up uy36 (vk13_y28_1 h)
                                        have vGV_y36 : WQ mu y36 y36r 139 (4 / 2) (4 / 2) (fun r x => x18.toInt + 64 + r * 8 + x) := wq_cs vGV_y36' (by omega) (by omega) (fun r x h1 h2 h3 h4 => by (try dsimp only) <;> omega)
                                        exact rl_some ⟨uy36, vGV_y36⟩
                                    · rintro y29 y29r ⟨uy29, wGV_y29⟩
                                      have uy29 : Up mu 144 y28_1 y28_1r y29 y29r := uy29
                                      have ty29 := cx_up ty28_1 uy29
                                      have wm_y29 := wg_up uy29 wm_y28_1
                                      have wSL_y29 := wq_up uy29 wSL_y28_1
                                      have wSU_y29 := wq_up uy29 wSU_y28_1
                                      have wSV_y29 := wq_up uy29 wSV_y28_1
                                      have wGY_y29 := wq_up uy29 wGY_y28_1
                                      have wGU_y29 := wq_up uy29 wGU_y28_1
                                      have wk9_y29 := fun h => ag_up uy29 (vk9_y28_1 h)
                                      have wk11_y29 := fun h => ag_up uy29 (vk11_y28_1 h)
                                      have wk10_y29 := fun h => ag_up uy29 (vk10_y28_1 h)
                                      have wk12_y29 := fun h => ag_up uy29 (vk12_y28_1 h)
                                      have wk13_y29 := fun h => ag_up uy29 (vk13_y28_1 h)
                                      have wGV_y29 : WQ mu y29 y29r 139 (4 / 2) (4 / 2) (fun r x => x18.toInt + 64 + r * 8 + x) := wGV_y29
                                      refine rl_ltI (av_add is23_1 tn_1 (by omega) (by omega)) (fun x30 ix30 => ?_)
                                      refine rl_inlQ (fun (y z : Int32 × DD) => y.1 = z.1 ∧ (3 ≤ y.1.toInt ∧ y.1.toInt ≤ 3) ∧ Up mu 144 y19_2 y19_2r y.2 z.2 ∧ WQ mu y.2 z.2 139 4 4 (fun r x => x14.toInt + r * 16 + x) ∧ WQ mu y.2 z.2 139 (4 / 2) (4 / 2) (fun r x => x18.toInt + 0 + r * 8 + x) ∧ WQ mu y.2 z.2 139 (4 / 2) (4 / 2) (fun r x => x18.toInt + 64 + r * 8 + x)) ⟨rfl, (ti_bd ix30 (by omega) (by omega)), (up_tr (up_tr us23_2 uy28_1) uy29), wGY_y29, wGU_y29, wGV_y29⟩ ?_
                                      rintro ⟨s23_1, s23_2⟩ ⟨s23_1r, s23_2r⟩ ⟨es23_1, ls23_1, us23_2, wGY_s23_2, wGU_s23_2, wGV_s23_2⟩
                                      obtain rfl : s23_1 = s23_1r := es23_1
                                      have ls23_1 : 3 ≤ s23_1.toInt ∧ s23_1.toInt ≤ 3 := ls23_1
                                      have is23_1 : TI s23_1 (3) := ti_c ls23_1
                                      have us23_2 : Up mu 144 y19_2 y19_2r s23_2 s23_2r := us23_2
                                      have ts23_2 := cx_up ty19_2 us23_2
                                      have wm_s23_2 := wg_up us23_2 wm_y19_2
                                      have wSL_s23_2 := wq_up us23_2 wSL_y19_2
                                      have wSU_s23_2 := wq_up us23_2 wSU_y19_2
                                      have wSV_s23_2 := wq_up us23_2 wSV_y19_2
                                      have wGY_s23_2 : WQ mu s23_2 s23_2r 139 4 4 (fun r x => x14.toInt + r * 16 + x) := wGY_s23_2
                                      have wGU_s23_2 : WQ mu s23_2 s23_2r 139 (4 / 2) (4 / 2) (fun r x => x18.toInt + 0 + r * 8 + x) := wGU_s23_2
                                      have wGV_s23_2 : WQ mu s23_2 s23_2r 139 (4 / 2) (4 / 2) (fun r x => x18.toInt + 64 + r * 8 + x) := wGV_s23_2
                                      refine rl_it1 ?_
                                      refine rl_bnd (Q := fun (y z : Int32) => y = z ∧ (3 ≤ y.toInt ∧ y.toInt ≤ 3)) ?_ ?_
                                      · refine rl_if (fun c28 => ?_) (fun c28 => ?_)
                                        · have dc28 := tl_eq i4 tn_0 c28
                                          exfalso
                                          omega
                                        · have dc28 := tl_ne i4 tn_0 c28
                                          exact rl_some ⟨rfl, (ti_bd tn_3 (by omega) (by omega))⟩
                                      · rintro y26 y26r ⟨ey26, ly26⟩
                                        obtain rfl : y26 = y26r := ey26
                                        have ly26 : 3 ≤ y26.toInt ∧ y26.toInt ≤ 3 := ly26
                                        have iy26 : TI y26 (3) := ti_c ly26
                                        refine rl_if (fun c29 => ?_) (fun c29 => ?_)
                                        · have dc29 := tl_le iy26 is23_1 c29
                                          refine rl_inrQ (fun (y z : Int32 × DD) => y.1 = z.1 ∧ Up mu 144 y19_2 y19_2r y.2 z.2 ∧ WQ mu y.2 z.2 139 4 4 (fun r x => x14.toInt + r * 16 + x) ∧ WQ mu y.2 z.2 139 (4 / 2) (4 / 2) (fun r x => x18.toInt + 0 + r * 8 + x) ∧ WQ mu y.2 z.2 139 (4 / 2) (4 / 2) (fun r x => x18.toInt + 64 + r * 8 + x)) ⟨rfl, us23_2, wGY_s23_2, wGU_s23_2, wGV_s23_2⟩ ?_
                                          rintro ⟨y22_1, y22_2⟩ ⟨y22_1r, y22_2r⟩ ⟨ey22_1, uy22_2, wGY_y22_2, wGU_y22_2, wGV_y22_2⟩
                                          obtain rfl : y22_1 = y22_1r := ey22_1
                                          have uy22_2 : Up mu 144 y19_2 y19_2r y22_2 y22_2r := uy22_2
                                          have ty22_2 := cx_up ty19_2 uy22_2
                                          have wm_y22_2 := wg_up uy22_2 wm_y19_2
                                          have wSL_y22_2 := wq_up uy22_2 wSL_y19_2
                                          have wSU_y22_2 := wq_up uy22_2 wSU_y19_2
                                          have wSV_y22_2 := wq_up uy22_2 wSV_y19_2
                                          have wGY_y22_2 : WQ mu y22_2 y22_2r 139 4 4 (fun r x => x14.toInt + r * 16 + x) := wGY_y22_2
                                          have wGU_y22_2 : WQ mu y22_2 y22_2r 139 (4 / 2) (4 / 2) (fun r x => x18.toInt + 0 + r * 8 + x) := wGU_y22_2
                                          have wGV_y22_2 : WQ mu y22_2 y22_2r 139 (4 / 2) (4 / 2) (fun r x => x18.toInt + 64 + r * 8 + x) := wGV_y22_2
                                          exact rl_some ⟨(up_tr (up_tr (up_tr uy1_1 uy2_1) uy19_2) uy22_2), (wq_cs wGY_y22_2 (Int.le_refl _) (Int.le_refl _) (fun r x h1 h2 h3 h4 => by (try dsimp only) <;> omega)), (wq_cs wGU_y22_2 (Int.le_refl _) (Int.le_refl _) (fun r x h1 h2 h3 h4 => by (try dsimp only) <;> omega)), (wq_cs wGV_y22_2 (Int.le_refl _) (Int.le_refl _) (fun r x h1 h2 h3 h4 => by (try dsimp only) <;> omega))⟩
                                        · have dc29 := tl_nle iy26 is23_1 c29
                                          exfalso
                                          omega
                  · have dc18 := tl_nle tn_2 is20_1 c18
                    exfalso
                    omega
  · rcases hv with ⟨h0, h1⟩ | ⟨h0, h1⟩ | ⟨h0, h1⟩
    · refine rl_bnd (r_pieceX t i2 (by omega) (by omega)) ?_
      rintro ⟨y1_1, y1_2⟩ ⟨y1_1r, y1_2r⟩ ⟨uy1_1', ey1_2, iy1_2⟩
      have uy1_1 : Up mu 144 M N y1_1 y1_1r := uy1_1'
      have ty1_1 := cx_up t uy1_1
      have wm_y1_1 := wg_up uy1_1 hm
      obtain rfl : y1_2 = y1_2r := ey1_2
      refine rl_bnd (r_pieceY ty1_1 i2 (by omega) (by omega)) ?_
      rintro ⟨y2_1, y2_2⟩ ⟨y2_1r, y2_2r⟩ ⟨uy2_1', ey2_2, iy2_2⟩
      have uy2_1 : Up mu 144 y1_1 y1_1r y2_1 y2_1r := uy2_1'
      have ty2_1 := cx_up ty1_1 uy2_1
      have wm_y2_1 := wg_up uy2_1 wm_y1_1
      obtain rfl : y2_2 = y2_2r := ey2_2
      refine rl_dr (cx_U ty2_1) ⟨rfl, rfl⟩ (fun gb3 => ?_)
      refine rl_dr (cx_U ty2_1) (rx_p ty2_1) (fun gb4 => ?_)
      refine rl_rd (cx_q (j := 0) (k := 1) ty2_1 (cx_p t) rfl) (fun x5 => ?_)
      refine rl_chk (fun h => h) (fun k1 => ?_)
      refine rl_ltA (fun x6 => ?_)
      refine rl_ltA (fun x7 => ?_)
      refine rl_ltA (fun x8 => ?_)
      refine rl_rd (cx_q (j := 0) (k := 1) ty2_1 (cx_p t) rfl) (fun x9 => ?_)
      refine rl_chk (fun h => h) (fun k2 => ?_)
      refine rl_ltA (fun x10 => ?_)
      refine rl_ltA (fun x11 => ?_)
      refine rl_ltA (fun x12 => ?_)
      refine rl_ltI (av_mul tn_16 iy2_2 (by omega) (by omega)) (fun x13 ix13 => ?_)
      refine rl_ltI (av_add ix13 iy1_2 (by omega) (by omega)) (fun x14 ix14 => ?_)
      have kx14 : x14.toInt = _ := ix14
      refine rl_ltI (av_mul tn_4 iy2_2 (by omega) (by omega)) (fun x15 ix15 => ?_)
      refine rl_ltI (av_add tn_256 ix15 (by omega) (by omega)) (fun x16 ix16 => ?_)
      refine rl_ltI (av_div iy1_2 tn_2 (by omega) (by omega)) (fun x17 ix17 => ?_)
      refine rl_ltI (av_add ix16 ix17 (by omega) (by omega)) (fun x18 ix18 => ?_)
      have kx18 : x18.toInt = _ := ix18
      refine rl_bndK ?_
      refine rl_itQ (fun (y z : Int32 × DD) => y.1 = z.1 ∧ (0 ≤ y.1.toInt ∧ y.1.toInt ≤ 0) ∧ Up mu 144 y2_1 y2_1r y.2 z.2) ⟨rfl, (ti_bd tn_0 (by omega) (by omega)), (up_0 mu (κ := 144) _ _)⟩ ?_
      rintro ⟨s20_1, s20_2⟩ ⟨s20_1r, s20_2r⟩ ⟨es20_1, ls20_1, us20_2⟩
      obtain rfl : s20_1 = s20_1r := es20_1
      have ls20_1 : 0 ≤ s20_1.toInt ∧ s20_1.toInt ≤ 0 := ls20_1
      have is20_1 : TI s20_1 (0) := ti_c ls20_1
      have us20_2 : Up mu 144 y2_1 y2_1r s20_2 s20_2r := us20_2
      have ts20_2 := cx_up ty2_1 us20_2
      have wm_s20_2 := wg_up us20_2 wm_y2_1
      refine rl_it1 ?_
      refine rl_if (fun c3 => ?_) (fun c3 => ?_)
      · have dc3 := tl_le tn_2 is20_1 c3
        exfalso
        omega
      · have dc3 := tl_nle tn_2 is20_1 c3
        refine rl_ltI (av_mul tn_3 is20_1 (by omega) (by omega)) (fun x41 ix41 => ?_)
        refine rl_dr (cx_U ts20_2) (rx_c (a := 138) (k := 5) (b := 144) ts20_2 (Or.inr (Or.inl rfl)) rfl (by decide)) (fun gb42 => ?_)
        refine rl_chk (chkl (cx_U ts20_2) gb42) (fun k4 => ?_)
        refine rl_rdE (wg_id wm_s20_2 ix41 (by omega) (by omega)) (fun x43 ex43 => ?_)
        have mx43 : x43.toInt = (M.1 144 0).toInt := by rw [ex43, ti_n ix41, ((up_tr (up_tr uy1_1 uy2_1) us20_2)).2.2.2.1]; rfl
        have lx43 : 0 ≤ x43.toInt ∧ x43.toInt ≤ 7 := by rw [mx43]; exact h0.1
        refine rl_bnd (Q := fun (y z : Option Nat) => (∃ q, q ∈ L ∧ (y = some q ∧ z = some (mu q)))) ?_ ?_
        · refine rl_if (fun c5 => ?_) (fun c5 => ?_)
          · have dc5 := tl_lt (rfl : TI x43 x43.toInt) tn_0 c5
            exfalso
            omega
          · have dc5 := tl_nlt (rfl : TI x43 x43.toInt) tn_0 c5
            refine rl_bnd (Q := fun (y z : Option Nat) => (∃ q, q ∈ L ∧ (y = some q ∧ z = some (mu q)))) ?_ ?_
            · refine rl_if (fun c6 => ?_) (fun c6 => ?_)
              · have dc6 := tl_le (rfl : TI x43 x43.toInt) tn_8 c6
                refine rl_ltI (av_mul tn_9 is20_1 (by omega) (by omega)) (fun x70 ix70 => ?_)
                refine rl_ltI (av_add ix70 (rfl : TI x43 x43.toInt) (by omega) (by omega)) (fun x71 ix71 => ?_)
                refine rl_dr (cx_U ts20_2) (rx_c (a := 125) (k := 3) (b := 126) ts20_2 (Or.inl rfl) rfl (by decide)) (fun gb72 => ?_)
                refine rl_chk (chkl (cx_U ts20_2) gb72) (fun k7 => ?_)
                exact rl_some (or_ne (rx_l ts20_2 _) (by rw [((up_tr (up_tr uy1_1 uy2_1) us20_2)).1.1, ti_n ix71, mx43]; exact en_ix h0 0 (by omega)))
              · have dc6 := tl_nle (rfl : TI x43 x43.toInt) tn_8 c6
                exfalso
                omega
            · rintro y68 y68r ⟨qy68, hqy68, oy68⟩
              exact rl_some ⟨qy68, hqy68, oy68⟩
        · rintro y44 y44r ⟨qy44, hqy44, oy44⟩
          refine rl_bnd (Q := fun (y z : DD) => Up mu 144 s20_2 s20_2r y z ∧ WQ mu y z 140 8 8 (fun r x => x14.toInt + r * 16 + x) ∧ WQ mu y z 140 (8 / 2) (8 / 2) (fun r x => x18.toInt + 0 + r * 8 + x) ∧ WQ mu y z 140 (8 / 2) (8 / 2) (fun r x => x18.toInt + 64 + r * 8 + x)) ?_ ?_
          · refine rl_ifD (or_iff (mu := mu) (L := L) (Or.inr ⟨qy44, hqy44, oy44⟩)) (fun c8 => ?_) (fun c8 => ?_)
            · exact absurd c8 (by rw [oy44.1]; exact Option.some_ne_none _)
            · refine rl_ltA (fun x48 => ?_)
              refine rl_ltI (av_mul tn_3 is20_1 (by omega) (by omega)) (fun x49 ix49 => ?_)
              refine rl_ltI (av_add ix49 tn_1 (by omega) (by omega)) (fun x50 ix50 => ?_)
              refine rl_chk (chkl (cx_U ts20_2) gb42) (fun k9 => ?_)
              refine rl_rd (wg_id wm_s20_2 ix50 (by omega) (by omega)) (fun x51 => ?_)
              refine rl_ltA (fun x52 => ?_)
              refine rl_ltA (fun x53 => ?_)
              refine rl_ltI (av_mul tn_3 is20_1 (by omega) (by omega)) (fun x54 ix54 => ?_)
              refine rl_ltI (av_add ix54 tn_2 (by omega) (by omega)) (fun x55 ix55 => ?_)
              refine rl_chk (chkl (cx_U ts20_2) gb42) (fun k10 => ?_)
              refine rl_rd (wg_id wm_s20_2 ix55 (by omega) (by omega)) (fun x56 => ?_)
              refine rl_ltA (fun x57 => ?_)
              refine rl_bnd (Q := fun (y z : Option Nat) => (y = some 140 ∧ z = some (mu 140))) ?_ ?_
              · refine rl_if (fun c11 => ?_) (fun c11 => ?_)
                · have dc11 := tl_eq is20_1 tn_0 c11
                  exact rl_some (rx_c (a := 138) (k := 1) (b := 140) ts20_2 (Or.inr (Or.inl rfl)) rfl (by decide))
                · have dc11 := tl_ne is20_1 tn_0 c11
                  exfalso
                  omega
              · rintro y58 y58r oy58
                refine rl_bnd (r_predictLuma ts20_2 oy44 hqy44 (rfl : TI x52 x52.toInt) (rfl : TI x57 x57.toInt) i3 oy58 (Or.inl rfl) ix14 (by omega) (by omega) (by omega)) ?_
                rintro y59 y59r ⟨uy59', vFL_y59'⟩
                have uy59 : Up mu 144 s20_2 s20_2r y59 y59r := uy59'
                have ty59 := cx_up ts20_2 uy59
                have wm_y59 := wg_up uy59 wm_s20_2
                have vFL_y59 : WQ mu y59 y59r 140 8 8 (fun r x => x14.toInt + r * 16 + x) := wg_wq vFL_y59' (fun r x => r * 8 + x) (fun r x h1 h2 h3 h4 => by (try dsimp only); refine ⟨⟨by omega, by omega⟩, by omega⟩)
                refine rl_bnd (Q := fun (y z : DD) => Up mu 144 y59 y59r y z ∧ WQ mu y z 140 (8 / 2) (8 / 2) (fun r x => x18.toInt + 0 + r * 8 + x) ∧ WQ mu y z 140 (8 / 2) (8 / 2) (fun r x => x18.toInt + 64 + r * 8 + x)) ?_ ?_
                · refine rl_if (fun c12 => ?_) (fun c12 => ?_)
                  · have dc12 := tl_eq i4 tn_0 c12
                    exfalso
                    omega
                  · have dc12 := tl_ne i4 tn_0 c12
                    refine rl_ltI (av_div i3 tn_2 (by omega) (by omega)) (fun x62 ix62 => ?_)
                    refine rl_bnd (Q := fun (y z : Option Nat) => (y = some 140 ∧ z = some (mu 140))) ?_ ?_
                    · refine rl_if (fun c13 => ?_) (fun c13 => ?_)
                      · have dc13 := tl_eq is20_1 tn_0 c13
                        exact rl_some (rx_c (a := 138) (k := 1) (b := 140) ty59 (Or.inr (Or.inl rfl)) rfl (by decide))
                      · have dc13 := tl_ne is20_1 tn_0 c13
                        exfalso
                        omega
                    · rintro y63 y63r oy63
                      refine rl_bnd (r_predictColours ty59 oy44 hqy44 (rfl : TI x52 x52.toInt) (rfl : TI x57 x57.toInt) ix62 oy63 (Or.inl rfl) ix18 (by omega) (by omega) (by omega)) ?_
                      rintro y64 y64r ⟨uy64', vFU_y64', vFV_y64'⟩
                      have uy64 : Up mu 144 y59 y59r y64 y64r := uy64'
                      have ty64 := cx_up ty59 uy64
                      have wm_y64 := wg_up uy64 wm_y59
                      have wFL_y64 := wq_up uy64 vFL_y59
                      have vFU_y64 : WQ mu y64 y64r 140 (8 / 2) (8 / 2) (fun r x => x18.toInt + 0 + r * 8 + x) := wg_wq vFU_y64' (fun r x => r * (8 / 2) + x) (fun r x h1 h2 h3 h4 => by (try dsimp only); refine ⟨⟨by omega, by omega⟩, by omega⟩)
                      have vFV_y64 : WQ mu y64 y64r 140 (8 / 2) (8 / 2) (fun r x => x18.toInt + 64 + r * 8 + x) := wg_wq vFV_y64' (fun r x => r * (8 / 2) + x) (fun r x h1 h2 h3 h4 => by (try dsimp only); refine ⟨⟨by omega, by omega⟩, by omega⟩)
                      exact rl_some ⟨uy64, vFU_y64, vFV_y64⟩
                · rintro y60 y60r ⟨uy60, wFU_y60, wFV_y60⟩
                  have uy60 : Up mu 144 y59 y59r y60 y60r := uy60
                  have ty60 := cx_up ty59 uy60
                  have wm_y60 := wg_up uy60 wm_y59
                  have wFL_y60 := wq_up uy60 vFL_y59
                  have wFU_y60 : WQ mu y60 y60r 140 (8 / 2) (8 / 2) (fun r x => x18.toInt + 0 + r * 8 + x) := wFU_y60
                  have wFV_y60 : WQ mu y60 y60r 140 (8 / 2) (8 / 2) (fun r x => x18.toInt + 64 + r * 8 + x) := wFV_y60
                  exact rl_some ⟨(up_tr uy59 uy60), wFL_y60, wFU_y60, wFV_y60⟩
          · rintro y45 y45r ⟨uy45, wFL_y45, wFU_y45, wFV_y45⟩
            have uy45 : Up mu 144 s20_2 s20_2r y45 y45r := uy45
            have ty45 := cx_up ts20_2 uy45
            have wm_y45 := wg_up uy45 wm_s20_2
            have wFL_y45 : WQ mu y45 y45r 140 8 8 (fun r x => x14.toInt + r * 16 + x) := wFL_y45
            have wFU_y45 : WQ mu y45 y45r 140 (8 / 2) (8 / 2) (fun r x => x18.toInt + 0 + r * 8 + x) := wFU_y45
            have wFV_y45 : WQ mu y45 y45r 140 (8 / 2) (8 / 2) (fun r x => x18.toInt + 64 + r * 8 + x) := wFV_y45
            refine rl_ltI (av_add is20_1 tn_1 (by omega) (by omega)) (fun x46 ix46 => ?_)
            refine rl_inlQ (fun (y z : Int32 × DD) => y.1 = z.1 ∧ (1 ≤ y.1.toInt ∧ y.1.toInt ≤ 1) ∧ Up mu 144 y2_1 y2_1r y.2 z.2 ∧ WQ mu y.2 z.2 140 8 8 (fun r x => x14.toInt + r * 16 + x) ∧ WQ mu y.2 z.2 140 (8 / 2) (8 / 2) (fun r x => x18.toInt + 0 + r * 8 + x) ∧ WQ mu y.2 z.2 140 (8 / 2) (8 / 2) (fun r x => x18.toInt + 64 + r * 8 + x)) ⟨rfl, (ti_bd ix46 (by omega) (by omega)), (up_tr us20_2 uy45), wFL_y45, wFU_y45, wFV_y45⟩ ?_
            rintro ⟨s20_1, s20_2⟩ ⟨s20_1r, s20_2r⟩ ⟨es20_1, ls20_1, us20_2, wFL_s20_2, wFU_s20_2, wFV_s20_2⟩
            obtain rfl : s20_1 = s20_1r := es20_1
            have ls20_1 : 1 ≤ s20_1.toInt ∧ s20_1.toInt ≤ 1 := ls20_1
            have is20_1 : TI s20_1 (1) := ti_c ls20_1
            have us20_2 : Up mu 144 y2_1 y2_1r s20_2 s20_2r := us20_2
            have ts20_2 := cx_up ty2_1 us20_2
            have wm_s20_2 := wg_up us20_2 wm_y2_1
            have wFL_s20_2 : WQ mu s20_2 s20_2r 140 8 8 (fun r x => x14.toInt + r * 16 + x) := wFL_s20_2
            have wFU_s20_2 : WQ mu s20_2 s20_2r 140 (8 / 2) (8 / 2) (fun r x => x18.toInt + 0 + r * 8 + x) := wFU_s20_2
            have wFV_s20_2 : WQ mu s20_2 s20_2r 140 (8 / 2) (8 / 2) (fun r x => x18.toInt + 64 + r * 8 + x) := wFV_s20_2
            refine rl_it1 ?_
            refine rl_if (fun c14 => ?_) (fun c14 => ?_)
            · have dc14 := tl_le tn_2 is20_1 c14
              exfalso
              omega
            · have dc14 := tl_nle tn_2 is20_1 c14
              refine rl_ltI (av_mul tn_3 is20_1 (by omega) (by omega)) (fun x41 ix41 => ?_)
              refine rl_dr (cx_U ts20_2) (rx_c (a := 138) (k := 5) (b := 144) ts20_2 (Or.inr (Or.inl rfl)) rfl (by decide)) (fun gb42 => ?_)
              refine rl_chk (chkl (cx_U ts20_2) gb42) (fun k15 => ?_)
              refine rl_rdE (wg_id wm_s20_2 ix41 (by omega) (by omega)) (fun x43 ex43 => ?_)
              have mx43 : x43.toInt = (M.1 144 3).toInt := by rw [ex43, ti_n ix41, ((up_tr (up_tr uy1_1 uy2_1) us20_2)).2.2.2.1]; rfl
              have lx43 : 0 ≤ x43.toInt ∧ x43.toInt ≤ 7 := by rw [mx43]; exact h1.1
              refine rl_bnd (Q := fun (y z : Option Nat) => (∃ q, q ∈ L ∧ (y = some q ∧ z = some (mu q)))) ?_ ?_
              · refine rl_if (fun c16 => ?_) (fun c16 => ?_)
                · have dc16 := tl_lt (rfl : TI x43 x43.toInt) tn_0 c16
                  exfalso
                  omega
                · have dc16 := tl_nlt (rfl : TI x43 x43.toInt) tn_0 c16
                  refine rl_bnd (Q := fun (y z : Option Nat) => (∃ q, q ∈ L ∧ (y = some q ∧ z = some (mu q)))) ?_ ?_
                  · refine rl_if (fun c17 => ?_) (fun c17 => ?_)
                    · have dc17 := tl_le (rfl : TI x43 x43.toInt) tn_8 c17
                      refine rl_ltI (av_mul tn_9 is20_1 (by omega) (by omega)) (fun x70 ix70 => ?_)
                      refine rl_ltI (av_add ix70 (rfl : TI x43 x43.toInt) (by omega) (by omega)) (fun x71 ix71 => ?_)
                      refine rl_dr (cx_U ts20_2) (rx_c (a := 125) (k := 3) (b := 126) ts20_2 (Or.inl rfl) rfl (by decide)) (fun gb72 => ?_)
                      refine rl_chk (chkl (cx_U ts20_2) gb72) (fun k18 => ?_)
                      exact rl_some (or_ne (rx_l ts20_2 _) (by rw [((up_tr (up_tr uy1_1 uy2_1) us20_2)).1.1, ti_n ix71, mx43]; exact en_ix h1 1 (by omega)))
                    · have dc17 := tl_nle (rfl : TI x43 x43.toInt) tn_8 c17
                      exfalso
                      omega
                  · rintro y68 y68r ⟨qy68, hqy68, oy68⟩
                    exact rl_some ⟨qy68, hqy68, oy68⟩
              · rintro y44 y44r ⟨qy44, hqy44, oy44⟩
                refine rl_bnd (Q := fun (y z : DD) => Up mu 144 s20_2 s20_2r y z ∧ WQ mu y z 141 8 8 (fun r x => x14.toInt + r * 16 + x) ∧ WQ mu y z 141 (8 / 2) (8 / 2) (fun r x => x18.toInt + 0 + r * 8 + x) ∧ WQ mu y z 141 (8 / 2) (8 / 2) (fun r x => x18.toInt + 64 + r * 8 + x)) ?_ ?_
                · refine rl_ifD (or_iff (mu := mu) (L := L) (Or.inr ⟨qy44, hqy44, oy44⟩)) (fun c19 => ?_) (fun c19 => ?_)
                  · exact absurd c19 (by rw [oy44.1]; exact Option.some_ne_none _)
                  · refine rl_ltA (fun x48 => ?_)
                    refine rl_ltI (av_mul tn_3 is20_1 (by omega) (by omega)) (fun x49 ix49 => ?_)
                    refine rl_ltI (av_add ix49 tn_1 (by omega) (by omega)) (fun x50 ix50 => ?_)
                    refine rl_chk (chkl (cx_U ts20_2) gb42) (fun k20 => ?_)
                    refine rl_rd (wg_id wm_s20_2 ix50 (by omega) (by omega)) (fun x51 => ?_)
                    refine rl_ltA (fun x52 => ?_)
                    refine rl_ltA (fun x53 => ?_)
                    refine rl_ltI (av_mul tn_3 is20_1 (by omega) (by omega)) (fun x54 ix54 => ?_)
                    refine rl_ltI (av_add ix54 tn_2 (by omega) (by omega)) (fun x55 ix55 => ?_)
                    refine rl_chk (chkl (cx_U ts20_2) gb42) (fun k21 => ?_)
                    refine rl_rd (wg_id wm_s20_2 ix55 (by omega) (by omega)) (fun x56 => ?_)
                    refine rl_ltA (fun x57 => ?_)
                    refine rl_bnd (Q := fun (y z : Option Nat) => (y = some 141 ∧ z = some (mu 141))) ?_ ?_
                    · refine rl_if (fun c22 => ?_) (fun c22 => ?_)
                      · have dc22 := tl_eq is20_1 tn_0 c22
                        exfalso
                        omega
                      · have dc22 := tl_ne is20_1 tn_0 c22
                        exact rl_some (rx_c (a := 138) (k := 2) (b := 141) ts20_2 (Or.inr (Or.inl rfl)) rfl (by decide))
                    · rintro y58 y58r oy58
                      refine rl_bnd (r_predictLuma ts20_2 oy44 hqy44 (rfl : TI x52 x52.toInt) (rfl : TI x57 x57.toInt) i3 oy58 (Or.inr rfl) ix14 (by omega) (by omega) (by omega)) ?_
                      rintro y59 y59r ⟨uy59', vSL_y59'⟩
                      have uy59 : Up mu 144 s20_2 s20_2r y59 y59r := uy59'
                      have ty59 := cx_up ts20_2 uy59
                      have wm_y59 := wg_up uy59 wm_s20_2
                      have wFL_y59 := wq_up uy59 wFL_s20_2
                      have wFU_y59 := wq_up uy59 wFU_s20_2
                      have wFV_y59 := wq_up uy59 wFV_s20_2
                      have vSL_y59 : WQ mu y59 y59r 141 8 8 (fun r x => x14.toInt + r * 16 + x) := wg_wq vSL_y59' (fun r x => r * 8 + x) (fun r x h1 h2 h3 h4 => by (try dsimp only); refine ⟨⟨by omega, by omega⟩, by omega⟩)
                      refine rl_bnd (Q := fun (y z : DD) => Up mu 144 y59 y59r y z ∧ WQ mu y z 141 (8 / 2) (8 / 2) (fun r x => x18.toInt + 0 + r * 8 + x) ∧ WQ mu y z 141 (8 / 2) (8 / 2) (fun r x => x18.toInt + 64 + r * 8 + x)) ?_ ?_
                      · refine rl_if (fun c23 => ?_) (fun c23 => ?_)
                        · have dc23 := tl_eq i4 tn_0 c23
                          exfalso
                          omega
                        · have dc23 := tl_ne i4 tn_0 c23
                          refine rl_ltI (av_div i3 tn_2 (by omega) (by omega)) (fun x62 ix62 => ?_)
                          refine rl_bnd (Q := fun (y z : Option Nat) => (y = some 141 ∧ z = some (mu 141))) ?_ ?_
                          · refine rl_if (fun c24 => ?_) (fun c24 => ?_)
                            · have dc24 := tl_eq is20_1 tn_0 c24
                              exfalso
                              omega
                            · have dc24 := tl_ne is20_1 tn_0 c24
                              exact rl_some (rx_c (a := 138) (k := 2) (b := 141) ty59 (Or.inr (Or.inl rfl)) rfl (by decide))
                          · rintro y63 y63r oy63
                            refine rl_bnd (r_predictColours ty59 oy44 hqy44 (rfl : TI x52 x52.toInt) (rfl : TI x57 x57.toInt) ix62 oy63 (Or.inr rfl) ix18 (by omega) (by omega) (by omega)) ?_
                            rintro y64 y64r ⟨uy64', vSU_y64', vSV_y64'⟩
                            have uy64 : Up mu 144 y59 y59r y64 y64r := uy64'
                            have ty64 := cx_up ty59 uy64
                            have wm_y64 := wg_up uy64 wm_y59
                            have wFL_y64 := wq_up uy64 wFL_y59
                            have wFU_y64 := wq_up uy64 wFU_y59
                            have wFV_y64 := wq_up uy64 wFV_y59
                            have wSL_y64 := wq_up uy64 vSL_y59
                            have vSU_y64 : WQ mu y64 y64r 141 (8 / 2) (8 / 2) (fun r x => x18.toInt + 0 + r * 8 + x) := wg_wq vSU_y64' (fun r x => r * (8 / 2) + x) (fun r x h1 h2 h3 h4 => by (try dsimp only); refine ⟨⟨by omega, by omega⟩, by omega⟩)
                            have vSV_y64 : WQ mu y64 y64r 141 (8 / 2) (8 / 2) (fun r x => x18.toInt + 64 + r * 8 + x) := wg_wq vSV_y64' (fun r x => r * (8 / 2) + x) (fun r x h1 h2 h3 h4 => by (try dsimp only); refine ⟨⟨by omega, by omega⟩, by omega⟩)
                            exact rl_some ⟨uy64, vSU_y64, vSV_y64⟩
                      · rintro y60 y60r ⟨uy60, wSU_y60, wSV_y60⟩
                        have uy60 : Up mu 144 y59 y59r y60 y60r := uy60
                        have ty60 := cx_up ty59 uy60
                        have wm_y60 := wg_up uy60 wm_y59
                        have wFL_y60 := wq_up uy60 wFL_y59
                        have wFU_y60 := wq_up uy60 wFU_y59
                        have wFV_y60 := wq_up uy60 wFV_y59
                        have wSL_y60 := wq_up uy60 vSL_y59
                        have wSU_y60 : WQ mu y60 y60r 141 (8 / 2) (8 / 2) (fun r x => x18.toInt + 0 + r * 8 + x) := wSU_y60
                        have wSV_y60 : WQ mu y60 y60r 141 (8 / 2) (8 / 2) (fun r x => x18.toInt + 64 + r * 8 + x) := wSV_y60
                        exact rl_some ⟨(up_tr uy59 uy60), wSL_y60, wSU_y60, wSV_y60⟩
                · rintro y45 y45r ⟨uy45, wSL_y45, wSU_y45, wSV_y45⟩
                  have uy45 : Up mu 144 s20_2 s20_2r y45 y45r := uy45
                  have ty45 := cx_up ts20_2 uy45
                  have wm_y45 := wg_up uy45 wm_s20_2
                  have wFL_y45 := wq_up uy45 wFL_s20_2
                  have wFU_y45 := wq_up uy45 wFU_s20_2
                  have wFV_y45 := wq_up uy45 wFV_s20_2
                  have wSL_y45 : WQ mu y45 y45r 141 8 8 (fun r x => x14.toInt + r * 16 + x) := wSL_y45
                  have wSU_y45 : WQ mu y45 y45r 141 (8 / 2) (8 / 2) (fun r x => x18.toInt + 0 + r * 8 + x) := wSU_y45
                  have wSV_y45 : WQ mu y45 y45r 141 (8 / 2) (8 / 2) (fun r x => x18.toInt + 64 + r * 8 + x) := wSV_y45
                  refine rl_ltI (av_add is20_1 tn_1 (by omega) (by omega)) (fun x46 ix46 => ?_)
                  refine rl_inlQ (fun (y z : Int32 × DD) => y.1 = z.1 ∧ (2 ≤ y.1.toInt ∧ y.1.toInt ≤ 2) ∧ Up mu 144 y2_1 y2_1r y.2 z.2 ∧ WQ mu y.2 z.2 140 8 8 (fun r x => x14.toInt + r * 16 + x) ∧ WQ mu y.2 z.2 140 (8 / 2) (8 / 2) (fun r x => x18.toInt + 0 + r * 8 + x) ∧ WQ mu y.2 z.2 140 (8 / 2) (8 / 2) (fun r x => x18.toInt + 64 + r * 8 + x) ∧ WQ mu y.2 z.2 141 8 8 (fun r x => x14.toInt + r * 16 + x) ∧ WQ mu y.2 z.2 141 (8 / 2) (8 / 2) (fun r x => x18.toInt + 0 + r * 8 + x) ∧ WQ mu y.2 z.2 141 (8 / 2) (8 / 2) (fun r x => x18.toInt + 64 + r * 8 + x)) ⟨rfl, (ti_bd ix46 (by omega) (by omega)), (up_tr us20_2 uy45), wFL_y45, wFU_y45, wFV_y45, wSL_y45, wSU_y45, wSV_y45⟩ ?_
                  rintro ⟨s20_1, s20_2⟩ ⟨s20_1r, s20_2r⟩ ⟨es20_1, ls20_1, us20_2, wFL_s20_2, wFU_s20_2, wFV_s20_2, wSL_s20_2, wSU_s20_2, wSV_s20_2⟩
                  obtain rfl : s20_1 = s20_1r := es20_1
                  have ls20_1 : 2 ≤ s20_1.toInt ∧ s20_1.toInt ≤ 2 := ls20_1
                  have is20_1 : TI s20_1 (2) := ti_c ls20_1
                  have us20_2 : Up mu 144 y2_1 y2_1r s20_2 s20_2r := us20_2
                  have ts20_2 := cx_up ty2_1 us20_2
                  have wm_s20_2 := wg_up us20_2 wm_y2_1
                  have wFL_s20_2 : WQ mu s20_2 s20_2r 140 8 8 (fun r x => x14.toInt + r * 16 + x) := wFL_s20_2
                  have wFU_s20_2 : WQ mu s20_2 s20_2r 140 (8 / 2) (8 / 2) (fun r x => x18.toInt + 0 + r * 8 + x) := wFU_s20_2
                  have wFV_s20_2 : WQ mu s20_2 s20_2r 140 (8 / 2) (8 / 2) (fun r x => x18.toInt + 64 + r * 8 + x) := wFV_s20_2
                  have wSL_s20_2 : WQ mu s20_2 s20_2r 141 8 8 (fun r x => x14.toInt + r * 16 + x) := wSL_s20_2
                  have wSU_s20_2 : WQ mu s20_2 s20_2r 141 (8 / 2) (8 / 2) (fun r x => x18.toInt + 0 + r * 8 + x) := wSU_s20_2
                  have wSV_s20_2 : WQ mu s20_2 s20_2r 141 (8 / 2) (8 / 2) (fun r x => x18.toInt + 64 + r * 8 + x) := wSV_s20_2
                  refine rl_it1 ?_
                  refine rl_if (fun c25 => ?_) (fun c25 => ?_)
                  · have dc25 := tl_le tn_2 is20_1 c25
                    refine rl_inrQ (fun (y z : Int32 × DD) => y.1 = z.1 ∧ Up mu 144 y2_1 y2_1r y.2 z.2 ∧ WQ mu y.2 z.2 140 8 8 (fun r x => x14.toInt + r * 16 + x) ∧ WQ mu y.2 z.2 140 (8 / 2) (8 / 2) (fun r x => x18.toInt + 0 + r * 8 + x) ∧ WQ mu y.2 z.2 140 (8 / 2) (8 / 2) (fun r x => x18.toInt + 64 + r * 8 + x) ∧ WQ mu y.2 z.2 141 8 8 (fun r x => x14.toInt + r * 16 + x) ∧ WQ mu y.2 z.2 141 (8 / 2) (8 / 2) (fun r x => x18.toInt + 0 + r * 8 + x) ∧ WQ mu y.2 z.2 141 (8 / 2) (8 / 2) (fun r x => x18.toInt + 64 + r * 8 + x)) ⟨rfl, us20_2, wFL_s20_2, wFU_s20_2, wFV_s20_2, wSL_s20_2, wSU_s20_2, wSV_s20_2⟩ ?_
                    rintro ⟨y19_1, y19_2⟩ ⟨y19_1r, y19_2r⟩ ⟨ey19_1, uy19_2, wFL_y19_2, wFU_y19_2, wFV_y19_2, wSL_y19_2, wSU_y19_2, wSV_y19_2⟩
                    obtain rfl : y19_1 = y19_1r := ey19_1
                    have uy19_2 : Up mu 144 y2_1 y2_1r y19_2 y19_2r := uy19_2
                    have ty19_2 := cx_up ty2_1 uy19_2
                    have wm_y19_2 := wg_up uy19_2 wm_y2_1
                    have wFL_y19_2 : WQ mu y19_2 y19_2r 140 8 8 (fun r x => x14.toInt + r * 16 + x) := wFL_y19_2
                    have wFU_y19_2 : WQ mu y19_2 y19_2r 140 (8 / 2) (8 / 2) (fun r x => x18.toInt + 0 + r * 8 + x) := wFU_y19_2
                    have wFV_y19_2 : WQ mu y19_2 y19_2r 140 (8 / 2) (8 / 2) (fun r x => x18.toInt + 64 + r * 8 + x) := wFV_y19_2
                    have wSL_y19_2 : WQ mu y19_2 y19_2r 141 8 8 (fun r x => x14.toInt + r * 16 + x) := wSL_y19_2
                    have wSU_y19_2 : WQ mu y19_2 y19_2r 141 (8 / 2) (8 / 2) (fun r x => x18.toInt + 0 + r * 8 + x) := wSU_y19_2
                    have wSV_y19_2 : WQ mu y19_2 y19_2r 141 (8 / 2) (8 / 2) (fun r x => x18.toInt + 64 + r * 8 + x) := wSV_y19_2
                    refine rl_bndK ?_
                    refine rl_itQ (fun (y z : Int32 × DD) => y.1 = z.1 ∧ (0 ≤ y.1.toInt ∧ y.1.toInt ≤ 0) ∧ Up mu 144 y19_2 y19_2r y.2 z.2) ⟨rfl, (ti_bd tn_0 (by omega) (by omega)), (up_0 mu (κ := 144) _ _)⟩ ?_
                    rintro ⟨s23_1, s23_2⟩ ⟨s23_1r, s23_2r⟩ ⟨es23_1, ls23_1, us23_2⟩
                    obtain rfl : s23_1 = s23_1r := es23_1
                    have ls23_1 : 0 ≤ s23_1.toInt ∧ s23_1.toInt ≤ 0 := ls23_1
                    have is23_1 : TI s23_1 (0) := ti_c ls23_1
                    have us23_2 : Up mu 144 y19_2 y19_2r s23_2 s23_2r := us23_2
                    have ts23_2 := cx_up ty19_2 us23_2
                    have wm_s23_2 := wg_up us23_2 wm_y19_2
                    have wFL_s23_2 := wq_up us23_2 wFL_y19_2
                    have wFU_s23_2 := wq_up us23_2 wFU_y19_2
                    have wFV_s23_2 := wq_up us23_2 wFV_y19_2
                    have wSL_s23_2 := wq_up us23_2 wSL_y19_2
                    have wSU_s23_2 := wq_up us23_2 wSU_y19_2
                    have wSV_s23_2 := wq_up us23_2 wSV_y19_2
                    refine rl_it1 ?_
                    refine rl_bnd (Q := fun (y z : Int32) => y = z ∧ (3 ≤ y.toInt ∧ y.toInt ≤ 3)) ?_ ?_
                    · refine rl_if (fun c26 => ?_) (fun c26 => ?_)
                      · have dc26 := tl_eq i4 tn_0 c26
                        exfalso
                        omega
                      · have dc26 := tl_ne i4 tn_0 c26
                        exact rl_some ⟨rfl, (ti_bd tn_3 (by omega) (by omega))⟩
                    · rintro y26 y26r ⟨ey26, ly26⟩
                      obtain rfl : y26 = y26r := ey26
                      have ly26 : 3 ≤ y26.toInt ∧ y26.toInt ≤ 3 := ly26
                      have iy26 : TI y26 (3) := ti_c ly26
                      refine rl_if (fun c27 => ?_) (fun c27 => ?_)
                      · have dc27 := tl_le iy26 is23_1 c27
                        exfalso
                        omega
                      · have dc27 := tl_nle iy26 is23_1 c27
                        refine rl_bnd (r_chooseWeights ts23_2 ⟨rfl, rfl⟩ is23_1 (by omega) (by omega) wm_s23_2) ?_
                        rintro ⟨y28_1, y28_2⟩ ⟨y28_1r, y28_2r⟩ ⟨uy28_1', ey28_2, ly28_2, vk9_y28_1, vk11_y28_1, vk10_y28_1, vk12_y28_1, vk13_y28_1⟩
                        have uy28_1 : Up mu 144 s23_2 s23_2r y28_1 y28_1r := uy28_1'
                        have ty28_1 := cx_up ts23_2 uy28_1
                        have wm_y28_1 := wg_up uy28_1 wm_s23_2
                        have wFL_y28_1 := wq_up uy28_1 wFL_s23_2
                        have wFU_y28_1 := wq_up uy28_1 wFU_s23_2
                        have wFV_y28_1 := wq_up uy28_1 wFV_s23_2
                        have wSL_y28_1 := wq_up uy28_1 wSL_s23_2
                        have wSU_y28_1 := wq_up uy28_1 wSU_s23_2
                        have wSV_y28_1 := wq_up uy28_1 wSV_s23_2
                        obtain rfl : y28_2 = y28_2r := ey28_2
                        dsimp only at ly28_2
                        have iy28_2 : TI y28_2 y28_2.toInt := rfl
                        have n0 : (s23_2.1 144 0).toInt = (M.1 144 0).toInt := by rw [((up_tr (up_tr (up_tr uy1_1 uy2_1) uy19_2) us23_2)).2.2.2.1]
                        have n3 : (s23_2.1 144 3).toInt = (M.1 144 3).toInt := by rw [((up_tr (up_tr (up_tr uy1_1 uy2_1) uy19_2) us23_2)).2.2.2.1]
                        have g0 := h0.1.1
                        have g1 := h1.1.1
                        refine rl_bnd (Q := fun (y z : DD) => Up mu 144 y28_1 y28_1r y z ∧ WQ mu y z 139 8 8 (fun r x => x14.toInt + r * 16 + x)) ?_ ?_
                        · refine rl_if (fun c28 => ?_) (fun c28 => ?_)
                          · have dc28 := tl_eq is23_1 tn_0 c28
                            refine rl_bnd (r_blend ty28_1 iy28_2 ix14 tn_16 i3 (by omega) (by omega) (by omega) (by omega) (by omega) (by omega) (fun _ => wq_cs wFL_y28_1 (Int.le_refl _) (Int.le_refl _) (fun r x h1 h2 h3 h4 => by (try dsimp only) <;> omega)) (fun _ => wq_cs wSL_y28_1 (Int.le_refl _) (Int.le_refl _) (fun r x h1 h2 h3 h4 => by (try dsimp only) <;> omega)) vk9_y28_1 (fun h => vk10_y28_1 ⟨h, by rw [n3]; exact h1.1.1⟩) vk11_y28_1 (fun h => vk12_y28_1 ⟨h, by rw [n3]; exact h1.1.1⟩) vk13_y28_1) ?_
                            rintro y37 y37r ⟨uy37', vGY_y37'⟩
                            have uy37 : Up mu 144 y28_1 y28_1r y37 y37r := uy37'
                            have ty37 := cx_up ty28_1 uy37
                            have wm_y37 := wg_up uy37 wm_y28_1
                            have wFL_y37 := wq_up uy37 wFL_y28_1
                            have wFU_y37 := wq_up uy37 wFU_y28_1
                            have wFV_y37 := wq_up uy37 wFV_y28_1
                            have wSL_y37 := wq_up uy37 wSL_y28_1
                            have wSU_y37 := wq_up uy37 wSU_y28_1
                            have wSV_y37 := wq_up uy37 wSV_y28_1
                            have wk9_y37 := fun h => ag_up uy37 (vk9_y28_1 h)
                            have wk11_y37 := fun h => ag_up uy37 (vk11_y28_1 h)
                            have wk10_y37 := fun h => ag_up uy37 (vk10_y28_1 h)
                            have wk12_y37 := fun h => ag_up uy37 (vk12_y28_1 h)
                            have wk13_y37 := fun h => ag_up uy37 (vk13_y28_1 h)
                            have vGY_y37 : WQ mu y37 y37r 139 8 8 (fun r x => x14.toInt + r * 16 + x) := wq_cs vGY_y37' (by omega) (by omega) (fun r x h1 h2 h3 h4 => by (try dsimp only) <;> omega)
                            exact rl_some ⟨uy37, vGY_y37⟩
                          · have dc28 := tl_ne is23_1 tn_0 c28
                            exfalso
                            omega
                        · rintro y29 y29r ⟨uy29, wGY_y29⟩
                          have uy29 : Up mu 144 y28_1 y28_1r y29 y29r := uy29
                          have ty29 := cx_up ty28_1 uy29
                          have wm_y29 := wg_up uy29 wm_y28_1
                          have wFL_y29 := wq_up uy29 wFL_y28_1
                          have wFU_y29 := wq_up uy29 wFU_y28_1
                          have wFV_y29 := wq_up uy29 wFV_y28_1
                          have wSL_y29 := wq_up uy29 wSL_y28_1
                          have wSU_y29 := wq_up uy29 wSU_y28_1
                          have wSV_y29 := wq_up uy29 wSV_y28_1
                          have wk9_y29 := fun h => ag_up uy29 (vk9_y28_1 h)
                          have wk11_y29 := fun h => ag_up uy29 (vk11_y28_1 h)
                          have wk10_y29 := fun h => ag_up uy29 (vk10_y28_1 h)
                          have wk12_y29 := fun h => ag_up uy29 (vk12_y28_1 h)
                          have wk13_y29 := fun h => ag_up uy29 (vk13_y28_1 h)
                          have wGY_y29 : WQ mu y29 y29r 139 8 8 (fun r x => x14.toInt + r * 16 + x) := wGY_y29
                          refine rl_ltI (av_add is23_1 tn_1 (by omega) (by omega)) (fun x30 ix30 => ?_)
                          refine rl_inlQ (fun (y z : Int32 × DD) => y.1 = z.1 ∧ (1 ≤ y.1.toInt ∧ y.1.toInt ≤ 1) ∧ Up mu 144 y19_2 y19_2r y.2 z.2 ∧ WQ mu y.2 z.2 139 8 8 (fun r x => x14.toInt + r * 16 + x)) ⟨rfl, (ti_bd ix30 (by omega) (by omega)), (up_tr (up_tr us23_2 uy28_1) uy29), wGY_y29⟩ ?_
                          rintro ⟨s23_1, s23_2⟩ ⟨s23_1r, s23_2r⟩ ⟨es23_1, ls23_1, us23_2, wGY_s23_2⟩
                          obtain rfl : s23_1 = s23_1r := es23_1
                          have ls23_1 : 1 ≤ s23_1.toInt ∧ s23_1.toInt ≤ 1 := ls23_1
                          have is23_1 : TI s23_1 (1) := ti_c ls23_1
                          have us23_2 : Up mu 144 y19_2 y19_2r s23_2 s23_2r := us23_2
                          have ts23_2 := cx_up ty19_2 us23_2
                          have wm_s23_2 := wg_up us23_2 wm_y19_2
                          have wFL_s23_2 := wq_up us23_2 wFL_y19_2
                          have wFU_s23_2 := wq_up us23_2 wFU_y19_2
                          have wFV_s23_2 := wq_up us23_2 wFV_y19_2
                          have wSL_s23_2 := wq_up us23_2 wSL_y19_2
                          have wSU_s23_2 := wq_up us23_2 wSU_y19_2
                          have wSV_s23_2 := wq_up us23_2 wSV_y19_2
                          have wGY_s23_2 : WQ mu s23_2 s23_2r 139 8 8 (fun r x => x14.toInt + r * 16 + x) := wGY_s23_2
                          refine rl_it1 ?_
                          refine rl_bnd (Q := fun (y z : Int32) => y = z ∧ (3 ≤ y.toInt ∧ y.toInt ≤ 3)) ?_ ?_
                          · refine rl_if (fun c29 => ?_) (fun c29 => ?_)
                            · have dc29 := tl_eq i4 tn_0 c29
                              exfalso
                              omega
                            · have dc29 := tl_ne i4 tn_0 c29
                              exact rl_some ⟨rfl, (ti_bd tn_3 (by omega) (by omega))⟩
                          · rintro y26 y26r ⟨ey26, ly26⟩
                            obtain rfl : y26 = y26r := ey26
                            have ly26 : 3 ≤ y26.toInt ∧ y26.toInt ≤ 3 := ly26
                            have iy26 : TI y26 (3) := ti_c ly26
                            refine rl_if (fun c30 => ?_) (fun c30 => ?_)
                            · have dc30 := tl_le iy26 is23_1 c30
                              exfalso
                              omega
                            · have dc30 := tl_nle iy26 is23_1 c30
                              refine rl_bnd (r_chooseWeights ts23_2 ⟨rfl, rfl⟩ is23_1 (by omega) (by omega) wm_s23_2) ?_
                              rintro ⟨y28_1, y28_2⟩ ⟨y28_1r, y28_2r⟩ ⟨uy28_1', ey28_2, ly28_2, vk9_y28_1, vk11_y28_1, vk10_y28_1, vk12_y28_1, vk13_y28_1⟩
                              have uy28_1 : Up mu 144 s23_2 s23_2r y28_1 y28_1r := uy28_1'
                              have ty28_1 := cx_up ts23_2 uy28_1
                              have wm_y28_1 := wg_up uy28_1 wm_s23_2
                              have wFL_y28_1 := wq_up uy28_1 wFL_s23_2
                              have wFU_y28_1 := wq_up uy28_1 wFU_s23_2
                              have wFV_y28_1 := wq_up uy28_1 wFV_s23_2
                              have wSL_y28_1 := wq_up uy28_1 wSL_s23_2
                              have wSU_y28_1 := wq_up uy28_1 wSU_s23_2
                              have wSV_y28_1 := wq_up uy28_1 wSV_s23_2
                              have wGY_y28_1 := wq_up uy28_1 wGY_s23_2
                              obtain rfl : y28_2 = y28_2r := ey28_2
                              dsimp only at ly28_2
                              have iy28_2 : TI y28_2 y28_2.toInt := rfl
                              have n0 : (s23_2.1 144 0).toInt = (M.1 144 0).toInt := by rw [((up_tr (up_tr (up_tr uy1_1 uy2_1) uy19_2) us23_2)).2.2.2.1]
                              have n3 : (s23_2.1 144 3).toInt = (M.1 144 3).toInt := by rw [((up_tr (up_tr (up_tr uy1_1 uy2_1) uy19_2) us23_2)).2.2.2.1]
                              have g0 := h0.1.1
                              have g1 := h1.1.1
                              refine rl_bnd (Q := fun (y z : DD) => Up mu 144 y28_1 y28_1r y z ∧ WQ mu y z 139 (8 / 2) (8 / 2) (fun r x => x18.toInt + 0 + r * 8 + x)) ?_ ?_
                              · refine rl_if (fun c31 => ?_) (fun c31 => ?_)
                                · have dc31 := tl_eq is23_1 tn_0 c31
                                  exfalso
                                  omega
                                · have dc31 := tl_ne is23_1 tn_0 c31
                                  refine rl_ltI (av_sub is23_1 tn_1 (by omega) (by omega)) (fun x32 ix32 => ?_)
                                  refine rl_ltI (av_mul tn_64 ix32 (by omega) (by omega)) (fun x33 ix33 => ?_)
                                  refine rl_ltI (av_add ix18 ix33 (by omega) (by omega)) (fun x34 ix34 => ?_)
                                  refine rl_ltI (av_div i3 tn_2 (by omega) (by omega)) (fun x35 ix35 => ?_)
                                  refine rl_bnd (r_blend ty28_1 iy28_2 ix34 tn_8 ix35 (by omega) (by omega) (by omega) (by omega) (by omega) (by omega) (fun _ => wq_cs wFU_y28_1 (Int.le_refl _) (Int.le_refl _) (fun r x h1 h2 h3 h4 => by (try dsimp only) <;> omega)) (fun _ => wq_cs wSU_y28_1 (Int.le_refl _) (Int.le_refl _) (fun r x h1 h2 h3 h4 => by (try dsimp only) <;> omega)) vk9_y28_1 (fun h => vk10_y28_1 ⟨h, by rw [n3]; exact h1.1.1⟩) vk11_y28_1 (fun h => vk12_y28_1 ⟨h, by rw [n3]; exact h1.1.1⟩) vk13_y28_1) ?_
                                  rintro y36 y36r ⟨uy36', vGU_y36'⟩
                                  have uy36 : Up mu 144 y28_1 y28_1r y36 y36r := uy36'
                                  have ty36 := cx_up ty28_1 uy36
                                  have wm_y36 := wg_up uy36 wm_y28_1
                                  have wFL_y36 := wq_up uy36 wFL_y28_1
                                  have wFU_y36 := wq_up uy36 wFU_y28_1
                                  have wFV_y36 := wq_up uy36 wFV_y28_1
                                  have wSL_y36 := wq_up uy36 wSL_y28_1
                                  have wSU_y36 := wq_up uy36 wSU_y28_1
                                  have wSV_y36 := wq_up uy36 wSV_y28_1
                                  have wGY_y36 := wq_up uy36 wGY_y28_1
                                  have wk9_y36 := fun h => ag_up uy36 (vk9_y28_1 h)
                                  have wk11_y36 := fun h => ag_up uy36 (vk11_y28_1 h)
                                  have wk10_y36 := fun h => ag_up uy36 (vk10_y28_1 h)
                                  have wk12_y36 := fun h => ag_up uy36 (vk12_y28_1 h)
                                  have wk13_y36 := fun h => ag_up uy36 (vk13_y28_1 h)
                                  have vGU_y36 : WQ mu y36 y36r 139 (8 / 2) (8 / 2) (fun r x => x18.toInt + 0 + r * 8 + x) := wq_cs vGU_y36' (by omega) (by omega) (fun r x h1 h2 h3 h4 => by (try dsimp only) <;> omega)
                                  exact rl_some ⟨uy36, vGU_y36⟩
                              · rintro y29 y29r ⟨uy29, wGU_y29⟩
                                have uy29 : Up mu 144 y28_1 y28_1r y29 y29r := uy29
                                have ty29 := cx_up ty28_1 uy29
                                have wm_y29 := wg_up uy29 wm_y28_1
                                have wFL_y29 := wq_up uy29 wFL_y28_1
                                have wFU_y29 := wq_up uy29 wFU_y28_1
                                have wFV_y29 := wq_up uy29 wFV_y28_1
                                have wSL_y29 := wq_up uy29 wSL_y28_1
                                have wSU_y29 := wq_up uy29 wSU_y28_1
                                have wSV_y29 := wq_up uy29 wSV_y28_1
                                have wGY_y29 := wq_up uy29 wGY_y28_1
                                have wk9_y29 := fun h => ag_up uy29 (vk9_y28_1 h)
                                have wk11_y29 := fun h => ag_up uy29 (vk11_y28_1 h)
                                have wk10_y29 := fun h => ag_up uy29 (vk10_y28_1 h)
                                have wk12_y29 := fun h => ag_up uy29 (vk12_y28_1 h)
                                have wk13_y29 := fun h => ag_up uy29 (vk13_y28_1 h)
                                have wGU_y29 : WQ mu y29 y29r 139 (8 / 2) (8 / 2) (fun r x => x18.toInt + 0 + r * 8 + x) := wGU_y29
                                refine rl_ltI (av_add is23_1 tn_1 (by omega) (by omega)) (fun x30 ix30 => ?_)
                                refine rl_inlQ (fun (y z : Int32 × DD) => y.1 = z.1 ∧ (2 ≤ y.1.toInt ∧ y.1.toInt ≤ 2) ∧ Up mu 144 y19_2 y19_2r y.2 z.2 ∧ WQ mu y.2 z.2 139 8 8 (fun r x => x14.toInt + r * 16 + x) ∧ WQ mu y.2 z.2 139 (8 / 2) (8 / 2) (fun r x => x18.toInt + 0 + r * 8 + x)) ⟨rfl, (ti_bd ix30 (by omega) (by omega)), (up_tr (up_tr us23_2 uy28_1) uy29), wGY_y29, wGU_y29⟩ ?_
                                rintro ⟨s23_1, s23_2⟩ ⟨s23_1r, s23_2r⟩ ⟨es23_1, ls23_1, us23_2, wGY_s23_2, wGU_s23_2⟩
                                obtain rfl : s23_1 = s23_1r := es23_1
                                have ls23_1 : 2 ≤ s23_1.toInt ∧ s23_1.toInt ≤ 2 := ls23_1
                                have is23_1 : TI s23_1 (2) := ti_c ls23_1
                                have us23_2 : Up mu 144 y19_2 y19_2r s23_2 s23_2r := us23_2
                                have ts23_2 := cx_up ty19_2 us23_2
                                have wm_s23_2 := wg_up us23_2 wm_y19_2
                                have wFL_s23_2 := wq_up us23_2 wFL_y19_2
                                have wFU_s23_2 := wq_up us23_2 wFU_y19_2
                                have wFV_s23_2 := wq_up us23_2 wFV_y19_2
                                have wSL_s23_2 := wq_up us23_2 wSL_y19_2
                                have wSU_s23_2 := wq_up us23_2 wSU_y19_2
                                have wSV_s23_2 := wq_up us23_2 wSV_y19_2
                                have wGY_s23_2 : WQ mu s23_2 s23_2r 139 8 8 (fun r x => x14.toInt + r * 16 + x) := wGY_s23_2
                                have wGU_s23_2 : WQ mu s23_2 s23_2r 139 (8 / 2) (8 / 2) (fun r x => x18.toInt + 0 + r * 8 + x) := wGU_s23_2
                                refine rl_it1 ?_
                                refine rl_bnd (Q := fun (y z : Int32) => y = z ∧ (3 ≤ y.toInt ∧ y.toInt ≤ 3)) ?_ ?_
                                · refine rl_if (fun c32 => ?_) (fun c32 => ?_)
                                  · have dc32 := tl_eq i4 tn_0 c32
                                    exfalso
                                    omega
                                  · have dc32 := tl_ne i4 tn_0 c32
                                    exact rl_some ⟨rfl, (ti_bd tn_3 (by omega) (by omega))⟩
                                · rintro y26 y26r ⟨ey26, ly26⟩
                                  obtain rfl : y26 = y26r := ey26
                                  have ly26 : 3 ≤ y26.toInt ∧ y26.toInt ≤ 3 := ly26
                                  have iy26 : TI y26 (3) := ti_c ly26
                                  refine rl_if (fun c33 => ?_) (fun c33 => ?_)
                                  · have dc33 := tl_le iy26 is23_1 c33
                                    exfalso
                                    omega
                                  · have dc33 := tl_nle iy26 is23_1 c33
                                    refine rl_bnd (r_chooseWeights ts23_2 ⟨rfl, rfl⟩ is23_1 (by omega) (by omega) wm_s23_2) ?_
                                    rintro ⟨y28_1, y28_2⟩ ⟨y28_1r, y28_2r⟩ ⟨uy28_1', ey28_2, ly28_2, vk9_y28_1, vk11_y28_1, vk10_y28_1, vk12_y28_1, vk13_y28_1⟩
                                    have uy28_1 : Up mu 144 s23_2 s23_2r y28_1 y28_1r := uy28_1'
                                    have ty28_1 := cx_up ts23_2 uy28_1
                                    have wm_y28_1 := wg_up uy28_1 wm_s23_2
                                    have wFL_y28_1 := wq_up uy28_1 wFL_s23_2
                                    have wFU_y28_1 := wq_up uy28_1 wFU_s23_2
                                    have wFV_y28_1 := wq_up uy28_1 wFV_s23_2
                                    have wSL_y28_1 := wq_up uy28_1 wSL_s23_2
                                    have wSU_y28_1 := wq_up uy28_1 wSU_s23_2
                                    have wSV_y28_1 := wq_up uy28_1 wSV_s23_2
                                    have wGY_y28_1 := wq_up uy28_1 wGY_s23_2
                                    have wGU_y28_1 := wq_up uy28_1 wGU_s23_2
                                    obtain rfl : y28_2 = y28_2r := ey28_2
                                    dsimp only at ly28_2
                                    have iy28_2 : TI y28_2 y28_2.toInt := rfl
                                    have n0 : (s23_2.1 144 0).toInt = (M.1 144 0).toInt := by rw [((up_tr (up_tr (up_tr uy1_1 uy2_1) uy19_2) us23_2)).2.2.2.1]
                                    have n3 : (s23_2.1 144 3).toInt = (M.1 144 3).toInt := by rw [((up_tr (up_tr (up_tr uy1_1 uy2_1) uy19_2) us23_2)).2.2.2.1]
                                    have g0 := h0.1.1
                                    have g1 := h1.1.1
                                    refine rl_bnd (Q := fun (y z : DD) => Up mu 144 y28_1 y28_1r y z ∧ WQ mu y z 139 (8 / 2) (8 / 2) (fun r x => x18.toInt + 64 + r * 8 + x)) ?_ ?_
                                    · refine rl_if (fun c34 => ?_) (fun c34 => ?_)
                                      · have dc34 := tl_eq is23_1 tn_0 c34
                                        exfalso
                                        omega
                                      · have dc34 := tl_ne is23_1 tn_0 c34
                                        refine rl_ltI (av_sub is23_1 tn_1 (by omega) (by omega)) (fun x32 ix32 => ?_)
                                        refine rl_ltI (av_mul tn_64 ix32 (by omega) (by omega)) (fun x33 ix33 => ?_)
                                        refine rl_ltI (av_add ix18 ix33 (by omega) (by omega)) (fun x34 ix34 => ?_)
                                        refine rl_ltI (av_div i3 tn_2 (by omega) (by omega)) (fun x35 ix35 => ?_)
                                        refine rl_bnd (r_blend ty28_1 iy28_2 ix34 tn_8 ix35 (by omega) (by omega) (by omega) (by omega) (by omega) (by omega) (fun _ => wq_cs wFV_y28_1 (Int.le_refl _) (Int.le_refl _) (fun r x h1 h2 h3 h4 => by (try dsimp only) <;> omega)) (fun _ => wq_cs wSV_y28_1 (Int.le_refl _) (Int.le_refl _) (fun r x h1 h2 h3 h4 => by (try dsimp only) <;> omega)) vk9_y28_1 (fun h => vk10_y28_1 ⟨h, by rw [n3]; exact h1.1.1⟩) vk11_y28_1 (fun h => vk12_y28_1 ⟨h, by rw [n3]; exact h1.1.1⟩) vk13_y28_1) ?_
                                        rintro y36 y36r ⟨uy36', vGV_y36'⟩
                                        have uy36 : Up mu 144 y28_1 y28_1r y36 y36r := uy36'
                                        have ty36 := cx_up ty28_1 uy36
                                        have wm_y36 := wg_up uy36 wm_y28_1
                                        have wFL_y36 := wq_up uy36 wFL_y28_1
                                        have wFU_y36 := wq_up uy36 wFU_y28_1
                                        have wFV_y36 := wq_up uy36 wFV_y28_1
                                        have wSL_y36 := wq_up uy36 wSL_y28_1
                                        have wSU_y36 := wq_up uy36 wSU_y28_1
                                        have wSV_y36 := wq_up uy36 wSV_y28_1
                                        have wGY_y36 := wq_up uy36 wGY_y28_1
                                        have wGU_y36 := wq_up uy36 wGU_y28_1
                                        have wk9_y36 := fun h => ag_up uy36 (vk9_y28_1 h)
                                        have wk11_y36 := fun h => ag_up uy36 (vk11_y28_1 h)
                                        have wk10_y36 := fun h => ag_up uy36 (vk10_y28_1 h)
                                        have wk12_y36 := fun h => ag_up uy36 (vk12_y28_1 h)
                                        have wk13_y36 := fun h => ag_up uy36 (vk13_y28_1 h)
                                        have vGV_y36 : WQ mu y36 y36r 139 (8 / 2) (8 / 2) (fun r x => x18.toInt + 64 + r * 8 + x) := wq_cs vGV_y36' (by omega) (by omega) (fun r x h1 h2 h3 h4 => by (try dsimp only) <;> omega)
                                        exact rl_some ⟨uy36, vGV_y36⟩
                                    · rintro y29 y29r ⟨uy29, wGV_y29⟩
                                      have uy29 : Up mu 144 y28_1 y28_1r y29 y29r := uy29
                                      have ty29 := cx_up ty28_1 uy29
                                      have wm_y29 := wg_up uy29 wm_y28_1
                                      have wFL_y29 := wq_up uy29 wFL_y28_1
                                      have wFU_y29 := wq_up uy29 wFU_y28_1
                                      have wFV_y29 := wq_up uy29 wFV_y28_1
                                      have wSL_y29 := wq_up uy29 wSL_y28_1
                                      have wSU_y29 := wq_up uy29 wSU_y28_1
                                      have wSV_y29 := wq_up uy29 wSV_y28_1
                                      have wGY_y29 := wq_up uy29 wGY_y28_1
                                      have wGU_y29 := wq_up uy29 wGU_y28_1
                                      have wk9_y29 := fun h => ag_up uy29 (vk9_y28_1 h)
                                      have wk11_y29 := fun h => ag_up uy29 (vk11_y28_1 h)
                                      have wk10_y29 := fun h => ag_up uy29 (vk10_y28_1 h)
                                      have wk12_y29 := fun h => ag_up uy29 (vk12_y28_1 h)
                                      have wk13_y29 := fun h => ag_up uy29 (vk13_y28_1 h)
                                      have wGV_y29 : WQ mu y29 y29r 139 (8 / 2) (8 / 2) (fun r x => x18.toInt + 64 + r * 8 + x) := wGV_y29
                                      refine rl_ltI (av_add is23_1 tn_1 (by omega) (by omega)) (fun x30 ix30 => ?_)
                                      refine rl_inlQ (fun (y z : Int32 × DD) => y.1 = z.1 ∧ (3 ≤ y.1.toInt ∧ y.1.toInt ≤ 3) ∧ Up mu 144 y19_2 y19_2r y.2 z.2 ∧ WQ mu y.2 z.2 139 8 8 (fun r x => x14.toInt + r * 16 + x) ∧ WQ mu y.2 z.2 139 (8 / 2) (8 / 2) (fun r x => x18.toInt + 0 + r * 8 + x) ∧ WQ mu y.2 z.2 139 (8 / 2) (8 / 2) (fun r x => x18.toInt + 64 + r * 8 + x)) ⟨rfl, (ti_bd ix30 (by omega) (by omega)), (up_tr (up_tr us23_2 uy28_1) uy29), wGY_y29, wGU_y29, wGV_y29⟩ ?_
                                      rintro ⟨s23_1, s23_2⟩ ⟨s23_1r, s23_2r⟩ ⟨es23_1, ls23_1, us23_2, wGY_s23_2, wGU_s23_2, wGV_s23_2⟩
                                      obtain rfl : s23_1 = s23_1r := es23_1
                                      have ls23_1 : 3 ≤ s23_1.toInt ∧ s23_1.toInt ≤ 3 := ls23_1
                                      have is23_1 : TI s23_1 (3) := ti_c ls23_1
                                      have us23_2 : Up mu 144 y19_2 y19_2r s23_2 s23_2r := us23_2
                                      have ts23_2 := cx_up ty19_2 us23_2
                                      have wm_s23_2 := wg_up us23_2 wm_y19_2
                                      have wFL_s23_2 := wq_up us23_2 wFL_y19_2
                                      have wFU_s23_2 := wq_up us23_2 wFU_y19_2
                                      have wFV_s23_2 := wq_up us23_2 wFV_y19_2
                                      have wSL_s23_2 := wq_up us23_2 wSL_y19_2
                                      have wSU_s23_2 := wq_up us23_2 wSU_y19_2
                                      have wSV_s23_2 := wq_up us23_2 wSV_y19_2
                                      have wGY_s23_2 : WQ mu s23_2 s23_2r 139 8 8 (fun r x => x14.toInt + r * 16 + x) := wGY_s23_2
                                      have wGU_s23_2 : WQ mu s23_2 s23_2r 139 (8 / 2) (8 / 2) (fun r x => x18.toInt + 0 + r * 8 + x) := wGU_s23_2
                                      have wGV_s23_2 : WQ mu s23_2 s23_2r 139 (8 / 2) (8 / 2) (fun r x => x18.toInt + 64 + r * 8 + x) := wGV_s23_2
                                      refine rl_it1 ?_
                                      refine rl_bnd (Q := fun (y z : Int32) => y = z ∧ (3 ≤ y.toInt ∧ y.toInt ≤ 3)) ?_ ?_
                                      · refine rl_if (fun c35 => ?_) (fun c35 => ?_)
                                        · have dc35 := tl_eq i4 tn_0 c35
                                          exfalso
                                          omega
                                        · have dc35 := tl_ne i4 tn_0 c35
                                          exact rl_some ⟨rfl, (ti_bd tn_3 (by omega) (by omega))⟩
                                      · rintro y26 y26r ⟨ey26, ly26⟩
                                        obtain rfl : y26 = y26r := ey26
                                        have ly26 : 3 ≤ y26.toInt ∧ y26.toInt ≤ 3 := ly26
                                        have iy26 : TI y26 (3) := ti_c ly26
                                        refine rl_if (fun c36 => ?_) (fun c36 => ?_)
                                        · have dc36 := tl_le iy26 is23_1 c36
                                          refine rl_inrQ (fun (y z : Int32 × DD) => y.1 = z.1 ∧ Up mu 144 y19_2 y19_2r y.2 z.2 ∧ WQ mu y.2 z.2 139 8 8 (fun r x => x14.toInt + r * 16 + x) ∧ WQ mu y.2 z.2 139 (8 / 2) (8 / 2) (fun r x => x18.toInt + 0 + r * 8 + x) ∧ WQ mu y.2 z.2 139 (8 / 2) (8 / 2) (fun r x => x18.toInt + 64 + r * 8 + x)) ⟨rfl, us23_2, wGY_s23_2, wGU_s23_2, wGV_s23_2⟩ ?_
                                          rintro ⟨y22_1, y22_2⟩ ⟨y22_1r, y22_2r⟩ ⟨ey22_1, uy22_2, wGY_y22_2, wGU_y22_2, wGV_y22_2⟩
                                          obtain rfl : y22_1 = y22_1r := ey22_1
                                          have uy22_2 : Up mu 144 y19_2 y19_2r y22_2 y22_2r := uy22_2
                                          have ty22_2 := cx_up ty19_2 uy22_2
                                          have wm_y22_2 := wg_up uy22_2 wm_y19_2
                                          have wFL_y22_2 := wq_up uy22_2 wFL_y19_2
                                          have wFU_y22_2 := wq_up uy22_2 wFU_y19_2
                                          have wFV_y22_2 := wq_up uy22_2 wFV_y19_2
                                          have wSL_y22_2 := wq_up uy22_2 wSL_y19_2
                                          have wSU_y22_2 := wq_up uy22_2 wSU_y19_2
                                          have wSV_y22_2 := wq_up uy22_2 wSV_y19_2
                                          have wGY_y22_2 : WQ mu y22_2 y22_2r 139 8 8 (fun r x => x14.toInt + r * 16 + x) := wGY_y22_2
                                          have wGU_y22_2 : WQ mu y22_2 y22_2r 139 (8 / 2) (8 / 2) (fun r x => x18.toInt + 0 + r * 8 + x) := wGU_y22_2
                                          have wGV_y22_2 : WQ mu y22_2 y22_2r 139 (8 / 2) (8 / 2) (fun r x => x18.toInt + 64 + r * 8 + x) := wGV_y22_2
                                          exact rl_some ⟨(up_tr (up_tr (up_tr uy1_1 uy2_1) uy19_2) uy22_2), (wq_cs wGY_y22_2 (Int.le_refl _) (Int.le_refl _) (fun r x h1 h2 h3 h4 => by (try dsimp only) <;> omega)), (wq_cs wGU_y22_2 (Int.le_refl _) (Int.le_refl _) (fun r x h1 h2 h3 h4 => by (try dsimp only) <;> omega)), (wq_cs wGV_y22_2 (Int.le_refl _) (Int.le_refl _) (fun r x h1 h2 h3 h4 => by (try dsimp only) <;> omega))⟩
                                        · have dc36 := tl_nle iy26 is23_1 c36
                                          exfalso
                                          omega
                  · have dc25 := tl_nle tn_2 is20_1 c25
                    exfalso
                    omega
    · refine rl_bnd (r_pieceX t i2 (by omega) (by omega)) ?_
      rintro ⟨y1_1, y1_2⟩ ⟨y1_1r, y1_2r⟩ ⟨uy1_1', ey1_2, iy1_2⟩
      have uy1_1 : Up mu 144 M N y1_1 y1_1r := uy1_1'
      have ty1_1 := cx_up t uy1_1
      have wm_y1_1 := wg_up uy1_1 hm
      obtain rfl : y1_2 = y1_2r := ey1_2
      refine rl_bnd (r_pieceY ty1_1 i2 (by omega) (by omega)) ?_
      rintro ⟨y2_1, y2_2⟩ ⟨y2_1r, y2_2r⟩ ⟨uy2_1', ey2_2, iy2_2⟩
      have uy2_1 : Up mu 144 y1_1 y1_1r y2_1 y2_1r := uy2_1'
      have ty2_1 := cx_up ty1_1 uy2_1
      have wm_y2_1 := wg_up uy2_1 wm_y1_1
      obtain rfl : y2_2 = y2_2r := ey2_2
      refine rl_dr (cx_U ty2_1) ⟨rfl, rfl⟩ (fun gb3 => ?_)
      refine rl_dr (cx_U ty2_1) (rx_p ty2_1) (fun gb4 => ?_)
      refine rl_rd (cx_q (j := 0) (k := 1) ty2_1 (cx_p t) rfl) (fun x5 => ?_)
      refine rl_chk (fun h => h) (fun k1 => ?_)
      refine rl_ltA (fun x6 => ?_)
      refine rl_ltA (fun x7 => ?_)
      refine rl_ltA (fun x8 => ?_)
      refine rl_rd (cx_q (j := 0) (k := 1) ty2_1 (cx_p t) rfl) (fun x9 => ?_)
      refine rl_chk (fun h => h) (fun k2 => ?_)
      refine rl_ltA (fun x10 => ?_)
      refine rl_ltA (fun x11 => ?_)
      refine rl_ltA (fun x12 => ?_)
      refine rl_ltI (av_mul tn_16 iy2_2 (by omega) (by omega)) (fun x13 ix13 => ?_)
      refine rl_ltI (av_add ix13 iy1_2 (by omega) (by omega)) (fun x14 ix14 => ?_)
      have kx14 : x14.toInt = _ := ix14
      refine rl_ltI (av_mul tn_4 iy2_2 (by omega) (by omega)) (fun x15 ix15 => ?_)
      refine rl_ltI (av_add tn_256 ix15 (by omega) (by omega)) (fun x16 ix16 => ?_)
      refine rl_ltI (av_div iy1_2 tn_2 (by omega) (by omega)) (fun x17 ix17 => ?_)
      refine rl_ltI (av_add ix16 ix17 (by omega) (by omega)) (fun x18 ix18 => ?_)
      have kx18 : x18.toInt = _ := ix18
      refine rl_bndK ?_
      refine rl_itQ (fun (y z : Int32 × DD) => y.1 = z.1 ∧ (0 ≤ y.1.toInt ∧ y.1.toInt ≤ 0) ∧ Up mu 144 y2_1 y2_1r y.2 z.2) ⟨rfl, (ti_bd tn_0 (by omega) (by omega)), (up_0 mu (κ := 144) _ _)⟩ ?_
      rintro ⟨s20_1, s20_2⟩ ⟨s20_1r, s20_2r⟩ ⟨es20_1, ls20_1, us20_2⟩
      obtain rfl : s20_1 = s20_1r := es20_1
      have ls20_1 : 0 ≤ s20_1.toInt ∧ s20_1.toInt ≤ 0 := ls20_1
      have is20_1 : TI s20_1 (0) := ti_c ls20_1
      have us20_2 : Up mu 144 y2_1 y2_1r s20_2 s20_2r := us20_2
      have ts20_2 := cx_up ty2_1 us20_2
      have wm_s20_2 := wg_up us20_2 wm_y2_1
      refine rl_it1 ?_
      refine rl_if (fun c3 => ?_) (fun c3 => ?_)
      · have dc3 := tl_le tn_2 is20_1 c3
        exfalso
        omega
      · have dc3 := tl_nle tn_2 is20_1 c3
        refine rl_ltI (av_mul tn_3 is20_1 (by omega) (by omega)) (fun x41 ix41 => ?_)
        refine rl_dr (cx_U ts20_2) (rx_c (a := 138) (k := 5) (b := 144) ts20_2 (Or.inr (Or.inl rfl)) rfl (by decide)) (fun gb42 => ?_)
        refine rl_chk (chkl (cx_U ts20_2) gb42) (fun k4 => ?_)
        refine rl_rdE (wg_id wm_s20_2 ix41 (by omega) (by omega)) (fun x43 ex43 => ?_)
        have mx43 : x43.toInt = (M.1 144 0).toInt := by rw [ex43, ti_n ix41, ((up_tr (up_tr uy1_1 uy2_1) us20_2)).2.2.2.1]; rfl
        have lx43 : 0 ≤ x43.toInt ∧ x43.toInt ≤ 7 := by rw [mx43]; exact h0.1
        refine rl_bnd (Q := fun (y z : Option Nat) => (∃ q, q ∈ L ∧ (y = some q ∧ z = some (mu q)))) ?_ ?_
        · refine rl_if (fun c5 => ?_) (fun c5 => ?_)
          · have dc5 := tl_lt (rfl : TI x43 x43.toInt) tn_0 c5
            exfalso
            omega
          · have dc5 := tl_nlt (rfl : TI x43 x43.toInt) tn_0 c5
            refine rl_bnd (Q := fun (y z : Option Nat) => (∃ q, q ∈ L ∧ (y = some q ∧ z = some (mu q)))) ?_ ?_
            · refine rl_if (fun c6 => ?_) (fun c6 => ?_)
              · have dc6 := tl_le (rfl : TI x43 x43.toInt) tn_8 c6
                refine rl_ltI (av_mul tn_9 is20_1 (by omega) (by omega)) (fun x70 ix70 => ?_)
                refine rl_ltI (av_add ix70 (rfl : TI x43 x43.toInt) (by omega) (by omega)) (fun x71 ix71 => ?_)
                refine rl_dr (cx_U ts20_2) (rx_c (a := 125) (k := 3) (b := 126) ts20_2 (Or.inl rfl) rfl (by decide)) (fun gb72 => ?_)
                refine rl_chk (chkl (cx_U ts20_2) gb72) (fun k7 => ?_)
                exact rl_some (or_ne (rx_l ts20_2 _) (by rw [((up_tr (up_tr uy1_1 uy2_1) us20_2)).1.1, ti_n ix71, mx43]; exact en_ix h0 0 (by omega)))
              · have dc6 := tl_nle (rfl : TI x43 x43.toInt) tn_8 c6
                exfalso
                omega
            · rintro y68 y68r ⟨qy68, hqy68, oy68⟩
              exact rl_some ⟨qy68, hqy68, oy68⟩
        · rintro y44 y44r ⟨qy44, hqy44, oy44⟩
          refine rl_bnd (Q := fun (y z : DD) => Up mu 144 s20_2 s20_2r y z ∧ WQ mu y z 140 8 8 (fun r x => x14.toInt + r * 16 + x) ∧ WQ mu y z 140 (8 / 2) (8 / 2) (fun r x => x18.toInt + 0 + r * 8 + x) ∧ WQ mu y z 140 (8 / 2) (8 / 2) (fun r x => x18.toInt + 64 + r * 8 + x)) ?_ ?_
          · refine rl_ifD (or_iff (mu := mu) (L := L) (Or.inr ⟨qy44, hqy44, oy44⟩)) (fun c8 => ?_) (fun c8 => ?_)
            · exact absurd c8 (by rw [oy44.1]; exact Option.some_ne_none _)
            · refine rl_ltA (fun x48 => ?_)
              refine rl_ltI (av_mul tn_3 is20_1 (by omega) (by omega)) (fun x49 ix49 => ?_)
              refine rl_ltI (av_add ix49 tn_1 (by omega) (by omega)) (fun x50 ix50 => ?_)
              refine rl_chk (chkl (cx_U ts20_2) gb42) (fun k9 => ?_)
              refine rl_rd (wg_id wm_s20_2 ix50 (by omega) (by omega)) (fun x51 => ?_)
              refine rl_ltA (fun x52 => ?_)
              refine rl_ltA (fun x53 => ?_)
              refine rl_ltI (av_mul tn_3 is20_1 (by omega) (by omega)) (fun x54 ix54 => ?_)
              refine rl_ltI (av_add ix54 tn_2 (by omega) (by omega)) (fun x55 ix55 => ?_)
              refine rl_chk (chkl (cx_U ts20_2) gb42) (fun k10 => ?_)
              refine rl_rd (wg_id wm_s20_2 ix55 (by omega) (by omega)) (fun x56 => ?_)
              refine rl_ltA (fun x57 => ?_)
              refine rl_bnd (Q := fun (y z : Option Nat) => (y = some 140 ∧ z = some (mu 140))) ?_ ?_
              · refine rl_if (fun c11 => ?_) (fun c11 => ?_)
                · have dc11 := tl_eq is20_1 tn_0 c11
                  exact rl_some (rx_c (a := 138) (k := 1) (b := 140) ts20_2 (Or.inr (Or.inl rfl)) rfl (by decide))
                · have dc11 := tl_ne is20_1 tn_0 c11
                  exfalso
                  omega
              · rintro y58 y58r oy58
                refine rl_bnd (r_predictLuma ts20_2 oy44 hqy44 (rfl : TI x52 x52.toInt) (rfl : TI x57 x57.toInt) i3 oy58 (Or.inl rfl) ix14 (by omega) (by omega) (by omega)) ?_
                rintro y59 y59r ⟨uy59', vFL_y59'⟩
                have uy59 : Up mu 144 s20_2 s20_2r y59 y59r := uy59'
                have ty59 := cx_up ts20_2 uy59
                have wm_y59 := wg_up uy59 wm_s20_2
                have vFL_y59 : WQ mu y59 y59r 140 8 8 (fun r x => x14.toInt + r * 16 + x) := wg_wq vFL_y59' (fun r x => r * 8 + x) (fun r x h1 h2 h3 h4 => by (try dsimp only); refine ⟨⟨by omega, by omega⟩, by omega⟩)
                refine rl_bnd (Q := fun (y z : DD) => Up mu 144 y59 y59r y z ∧ WQ mu y z 140 (8 / 2) (8 / 2) (fun r x => x18.toInt + 0 + r * 8 + x) ∧ WQ mu y z 140 (8 / 2) (8 / 2) (fun r x => x18.toInt + 64 + r * 8 + x)) ?_ ?_
                · refine rl_if (fun c12 => ?_) (fun c12 => ?_)
                  · have dc12 := tl_eq i4 tn_0 c12
                    exfalso
                    omega
                  · have dc12 := tl_ne i4 tn_0 c12
                    refine rl_ltI (av_div i3 tn_2 (by omega) (by omega)) (fun x62 ix62 => ?_)
                    refine rl_bnd (Q := fun (y z : Option Nat) => (y = some 140 ∧ z = some (mu 140))) ?_ ?_
                    · refine rl_if (fun c13 => ?_) (fun c13 => ?_)
                      · have dc13 := tl_eq is20_1 tn_0 c13
                        exact rl_some (rx_c (a := 138) (k := 1) (b := 140) ty59 (Or.inr (Or.inl rfl)) rfl (by decide))
                      · have dc13 := tl_ne is20_1 tn_0 c13
                        exfalso
                        omega
                    · rintro y63 y63r oy63
                      refine rl_bnd (r_predictColours ty59 oy44 hqy44 (rfl : TI x52 x52.toInt) (rfl : TI x57 x57.toInt) ix62 oy63 (Or.inl rfl) ix18 (by omega) (by omega) (by omega)) ?_
                      rintro y64 y64r ⟨uy64', vFU_y64', vFV_y64'⟩
                      have uy64 : Up mu 144 y59 y59r y64 y64r := uy64'
                      have ty64 := cx_up ty59 uy64
                      have wm_y64 := wg_up uy64 wm_y59
                      have wFL_y64 := wq_up uy64 vFL_y59
                      have vFU_y64 : WQ mu y64 y64r 140 (8 / 2) (8 / 2) (fun r x => x18.toInt + 0 + r * 8 + x) := wg_wq vFU_y64' (fun r x => r * (8 / 2) + x) (fun r x h1 h2 h3 h4 => by (try dsimp only); refine ⟨⟨by omega, by omega⟩, by omega⟩)
                      have vFV_y64 : WQ mu y64 y64r 140 (8 / 2) (8 / 2) (fun r x => x18.toInt + 64 + r * 8 + x) := wg_wq vFV_y64' (fun r x => r * (8 / 2) + x) (fun r x h1 h2 h3 h4 => by (try dsimp only); refine ⟨⟨by omega, by omega⟩, by omega⟩)
                      exact rl_some ⟨uy64, vFU_y64, vFV_y64⟩
                · rintro y60 y60r ⟨uy60, wFU_y60, wFV_y60⟩
                  have uy60 : Up mu 144 y59 y59r y60 y60r := uy60
                  have ty60 := cx_up ty59 uy60
                  have wm_y60 := wg_up uy60 wm_y59
                  have wFL_y60 := wq_up uy60 vFL_y59
                  have wFU_y60 : WQ mu y60 y60r 140 (8 / 2) (8 / 2) (fun r x => x18.toInt + 0 + r * 8 + x) := wFU_y60
                  have wFV_y60 : WQ mu y60 y60r 140 (8 / 2) (8 / 2) (fun r x => x18.toInt + 64 + r * 8 + x) := wFV_y60
                  exact rl_some ⟨(up_tr uy59 uy60), wFL_y60, wFU_y60, wFV_y60⟩
          · rintro y45 y45r ⟨uy45, wFL_y45, wFU_y45, wFV_y45⟩
            have uy45 : Up mu 144 s20_2 s20_2r y45 y45r := uy45
            have ty45 := cx_up ts20_2 uy45
            have wm_y45 := wg_up uy45 wm_s20_2
            have wFL_y45 : WQ mu y45 y45r 140 8 8 (fun r x => x14.toInt + r * 16 + x) := wFL_y45
            have wFU_y45 : WQ mu y45 y45r 140 (8 / 2) (8 / 2) (fun r x => x18.toInt + 0 + r * 8 + x) := wFU_y45
            have wFV_y45 : WQ mu y45 y45r 140 (8 / 2) (8 / 2) (fun r x => x18.toInt + 64 + r * 8 + x) := wFV_y45
            refine rl_ltI (av_add is20_1 tn_1 (by omega) (by omega)) (fun x46 ix46 => ?_)
            refine rl_inlQ (fun (y z : Int32 × DD) => y.1 = z.1 ∧ (1 ≤ y.1.toInt ∧ y.1.toInt ≤ 1) ∧ Up mu 144 y2_1 y2_1r y.2 z.2 ∧ WQ mu y.2 z.2 140 8 8 (fun r x => x14.toInt + r * 16 + x) ∧ WQ mu y.2 z.2 140 (8 / 2) (8 / 2) (fun r x => x18.toInt + 0 + r * 8 + x) ∧ WQ mu y.2 z.2 140 (8 / 2) (8 / 2) (fun r x => x18.toInt + 64 + r * 8 + x)) ⟨rfl, (ti_bd ix46 (by omega) (by omega)), (up_tr us20_2 uy45), wFL_y45, wFU_y45, wFV_y45⟩ ?_
            rintro ⟨s20_1, s20_2⟩ ⟨s20_1r, s20_2r⟩ ⟨es20_1, ls20_1, us20_2, wFL_s20_2, wFU_s20_2, wFV_s20_2⟩
            obtain rfl : s20_1 = s20_1r := es20_1
            have ls20_1 : 1 ≤ s20_1.toInt ∧ s20_1.toInt ≤ 1 := ls20_1
            have is20_1 : TI s20_1 (1) := ti_c ls20_1
            have us20_2 : Up mu 144 y2_1 y2_1r s20_2 s20_2r := us20_2
            have ts20_2 := cx_up ty2_1 us20_2
            have wm_s20_2 := wg_up us20_2 wm_y2_1
            have wFL_s20_2 : WQ mu s20_2 s20_2r 140 8 8 (fun r x => x14.toInt + r * 16 + x) := wFL_s20_2
            have wFU_s20_2 : WQ mu s20_2 s20_2r 140 (8 / 2) (8 / 2) (fun r x => x18.toInt + 0 + r * 8 + x) := wFU_s20_2
            have wFV_s20_2 : WQ mu s20_2 s20_2r 140 (8 / 2) (8 / 2) (fun r x => x18.toInt + 64 + r * 8 + x) := wFV_s20_2
            refine rl_it1 ?_
            refine rl_if (fun c14 => ?_) (fun c14 => ?_)
            · have dc14 := tl_le tn_2 is20_1 c14
              exfalso
              omega
            · have dc14 := tl_nle tn_2 is20_1 c14
              refine rl_ltI (av_mul tn_3 is20_1 (by omega) (by omega)) (fun x41 ix41 => ?_)
              refine rl_dr (cx_U ts20_2) (rx_c (a := 138) (k := 5) (b := 144) ts20_2 (Or.inr (Or.inl rfl)) rfl (by decide)) (fun gb42 => ?_)
              refine rl_chk (chkl (cx_U ts20_2) gb42) (fun k15 => ?_)
              refine rl_rdE (wg_id wm_s20_2 ix41 (by omega) (by omega)) (fun x43 ex43 => ?_)
              have mx43 : x43.toInt = (M.1 144 3).toInt := by rw [ex43, ti_n ix41, ((up_tr (up_tr uy1_1 uy2_1) us20_2)).2.2.2.1]; rfl
              have lx43 : x43.toInt < 0 := by rw [mx43]; exact h1
              refine rl_bnd (Q := fun (y z : Option Nat) => (y = none ∧ z = none)) ?_ ?_
              · refine rl_if (fun c16 => ?_) (fun c16 => ?_)
                · have dc16 := tl_lt (rfl : TI x43 x43.toInt) tn_0 c16
                  exact rl_some ⟨rfl, rfl⟩
                · have dc16 := tl_nlt (rfl : TI x43 x43.toInt) tn_0 c16
                  exfalso
                  omega
              · rintro y44 y44r oy44
                refine rl_bnd (Q := fun (y z : DD) => Up mu 144 s20_2 s20_2r y z) ?_ ?_
                · refine rl_ifD (or_iff (mu := mu) (L := L) (Or.inl oy44)) (fun c17 => ?_) (fun c17 => ?_)
                  · exact rl_some (up_0 mu (κ := 144) _ _)
                  · exact absurd oy44.1 c17
                · rintro y45 y45r uy45
                  have uy45 : Up mu 144 s20_2 s20_2r y45 y45r := uy45
                  have ty45 := cx_up ts20_2 uy45
                  have wm_y45 := wg_up uy45 wm_s20_2
                  have wFL_y45 := wq_up uy45 wFL_s20_2
                  have wFU_y45 := wq_up uy45 wFU_s20_2
                  have wFV_y45 := wq_up uy45 wFV_s20_2
                  refine rl_ltI (av_add is20_1 tn_1 (by omega) (by omega)) (fun x46 ix46 => ?_)
                  refine rl_inlQ (fun (y z : Int32 × DD) => y.1 = z.1 ∧ (2 ≤ y.1.toInt ∧ y.1.toInt ≤ 2) ∧ Up mu 144 y2_1 y2_1r y.2 z.2 ∧ WQ mu y.2 z.2 140 8 8 (fun r x => x14.toInt + r * 16 + x) ∧ WQ mu y.2 z.2 140 (8 / 2) (8 / 2) (fun r x => x18.toInt + 0 + r * 8 + x) ∧ WQ mu y.2 z.2 140 (8 / 2) (8 / 2) (fun r x => x18.toInt + 64 + r * 8 + x)) ⟨rfl, (ti_bd ix46 (by omega) (by omega)), (up_tr us20_2 uy45), wFL_y45, wFU_y45, wFV_y45⟩ ?_
                  rintro ⟨s20_1, s20_2⟩ ⟨s20_1r, s20_2r⟩ ⟨es20_1, ls20_1, us20_2, wFL_s20_2, wFU_s20_2, wFV_s20_2⟩
                  obtain rfl : s20_1 = s20_1r := es20_1
                  have ls20_1 : 2 ≤ s20_1.toInt ∧ s20_1.toInt ≤ 2 := ls20_1
                  have is20_1 : TI s20_1 (2) := ti_c ls20_1
                  have us20_2 : Up mu 144 y2_1 y2_1r s20_2 s20_2r := us20_2
                  have ts20_2 := cx_up ty2_1 us20_2
                  have wm_s20_2 := wg_up us20_2 wm_y2_1
                  have wFL_s20_2 : WQ mu s20_2 s20_2r 140 8 8 (fun r x => x14.toInt + r * 16 + x) := wFL_s20_2
                  have wFU_s20_2 : WQ mu s20_2 s20_2r 140 (8 / 2) (8 / 2) (fun r x => x18.toInt + 0 + r * 8 + x) := wFU_s20_2
                  have wFV_s20_2 : WQ mu s20_2 s20_2r 140 (8 / 2) (8 / 2) (fun r x => x18.toInt + 64 + r * 8 + x) := wFV_s20_2
                  refine rl_it1 ?_
                  refine rl_if (fun c18 => ?_) (fun c18 => ?_)
                  · have dc18 := tl_le tn_2 is20_1 c18
                    refine rl_inrQ (fun (y z : Int32 × DD) => y.1 = z.1 ∧ Up mu 144 y2_1 y2_1r y.2 z.2 ∧ WQ mu y.2 z.2 140 8 8 (fun r x => x14.toInt + r * 16 + x) ∧ WQ mu y.2 z.2 140 (8 / 2) (8 / 2) (fun r x => x18.toInt + 0 + r * 8 + x) ∧ WQ mu y.2 z.2 140 (8 / 2) (8 / 2) (fun r x => x18.toInt + 64 + r * 8 + x)) ⟨rfl, us20_2, wFL_s20_2, wFU_s20_2, wFV_s20_2⟩ ?_
                    rintro ⟨y19_1, y19_2⟩ ⟨y19_1r, y19_2r⟩ ⟨ey19_1, uy19_2, wFL_y19_2, wFU_y19_2, wFV_y19_2⟩
                    obtain rfl : y19_1 = y19_1r := ey19_1
                    have uy19_2 : Up mu 144 y2_1 y2_1r y19_2 y19_2r := uy19_2
                    have ty19_2 := cx_up ty2_1 uy19_2
                    have wm_y19_2 := wg_up uy19_2 wm_y2_1
                    have wFL_y19_2 : WQ mu y19_2 y19_2r 140 8 8 (fun r x => x14.toInt + r * 16 + x) := wFL_y19_2
                    have wFU_y19_2 : WQ mu y19_2 y19_2r 140 (8 / 2) (8 / 2) (fun r x => x18.toInt + 0 + r * 8 + x) := wFU_y19_2
                    have wFV_y19_2 : WQ mu y19_2 y19_2r 140 (8 / 2) (8 / 2) (fun r x => x18.toInt + 64 + r * 8 + x) := wFV_y19_2
                    refine rl_bndK ?_
                    refine rl_itQ (fun (y z : Int32 × DD) => y.1 = z.1 ∧ (0 ≤ y.1.toInt ∧ y.1.toInt ≤ 0) ∧ Up mu 144 y19_2 y19_2r y.2 z.2) ⟨rfl, (ti_bd tn_0 (by omega) (by omega)), (up_0 mu (κ := 144) _ _)⟩ ?_
                    rintro ⟨s23_1, s23_2⟩ ⟨s23_1r, s23_2r⟩ ⟨es23_1, ls23_1, us23_2⟩
                    obtain rfl : s23_1 = s23_1r := es23_1
                    have ls23_1 : 0 ≤ s23_1.toInt ∧ s23_1.toInt ≤ 0 := ls23_1
                    have is23_1 : TI s23_1 (0) := ti_c ls23_1
                    have us23_2 : Up mu 144 y19_2 y19_2r s23_2 s23_2r := us23_2
                    have ts23_2 := cx_up ty19_2 us23_2
                    have wm_s23_2 := wg_up us23_2 wm_y19_2
                    have wFL_s23_2 := wq_up us23_2 wFL_y19_2
                    have wFU_s23_2 := wq_up us23_2 wFU_y19_2
                    have wFV_s23_2 := wq_up us23_2 wFV_y19_2
                    refine rl_it1 ?_
                    refine rl_bnd (Q := fun (y z : Int32) => y = z ∧ (3 ≤ y.toInt ∧ y.toInt ≤ 3)) ?_ ?_
                    · refine rl_if (fun c19 => ?_) (fun c19 => ?_)
                      · have dc19 := tl_eq i4 tn_0 c19
                        exfalso
                        omega
                      · have dc19 := tl_ne i4 tn_0 c19
                        exact rl_some ⟨rfl, (ti_bd tn_3 (by omega) (by omega))⟩
                    · rintro y26 y26r ⟨ey26, ly26⟩
                      obtain rfl : y26 = y26r := ey26
                      have ly26 : 3 ≤ y26.toInt ∧ y26.toInt ≤ 3 := ly26
                      have iy26 : TI y26 (3) := ti_c ly26
                      refine rl_if (fun c20 => ?_) (fun c20 => ?_)
                      · have dc20 := tl_le iy26 is23_1 c20
                        exfalso
                        omega
                      · have dc20 := tl_nle iy26 is23_1 c20
                        refine rl_bnd (r_chooseWeights ts23_2 ⟨rfl, rfl⟩ is23_1 (by omega) (by omega) wm_s23_2) ?_
                        rintro ⟨y28_1, y28_2⟩ ⟨y28_1r, y28_2r⟩ ⟨uy28_1', ey28_2, ly28_2, vk9_y28_1, vk11_y28_1, vk10_y28_1, vk12_y28_1, vk13_y28_1⟩
                        have uy28_1 : Up mu 144 s23_2 s23_2r y28_1 y28_1r := uy28_1'
                        have ty28_1 := cx_up ts23_2 uy28_1
                        have wm_y28_1 := wg_up uy28_1 wm_s23_2
                        have wFL_y28_1 := wq_up uy28_1 wFL_s23_2
                        have wFU_y28_1 := wq_up uy28_1 wFU_s23_2
                        have wFV_y28_1 := wq_up uy28_1 wFV_s23_2
                        obtain rfl : y28_2 = y28_2r := ey28_2
                        dsimp only at ly28_2
                        have iy28_2 : TI y28_2 y28_2.toInt := rfl
                        have n0 : (s23_2.1 144 0).toInt = (M.1 144 0).toInt := by rw [((up_tr (up_tr (up_tr uy1_1 uy2_1) uy19_2) us23_2)).2.2.2.1]
                        have n3 : (s23_2.1 144 3).toInt = (M.1 144 3).toInt := by rw [((up_tr (up_tr (up_tr uy1_1 uy2_1) uy19_2) us23_2)).2.2.2.1]
                        have g0 := h0.1.1
                        have g1 := h1
                        refine rl_bnd (Q := fun (y z : DD) => Up mu 144 y28_1 y28_1r y z ∧ WQ mu y z 139 8 8 (fun r x => x14.toInt + r * 16 + x)) ?_ ?_
                        · refine rl_if (fun c21 => ?_) (fun c21 => ?_)
                          · have dc21 := tl_eq is23_1 tn_0 c21
                            refine rl_bnd (r_blend ty28_1 iy28_2 ix14 tn_16 i3 (by omega) (by omega) (by omega) (by omega) (by omega) (by omega) (fun _ => wq_cs wFL_y28_1 (Int.le_refl _) (Int.le_refl _) (fun r x h1 h2 h3 h4 => by (try dsimp only) <;> omega)) (fun h => absurd h (cw_b ly28_2.2 n0 n3 g0 g1)) vk9_y28_1 (fun h => absurd h (cw_c ly28_2.2 n0 n3 g0 g1)) vk11_y28_1 (fun h => absurd h (cw_c ly28_2.2 n0 n3 g0 g1)) vk13_y28_1) ?_
                            rintro y37 y37r ⟨uy37', vGY_y37'⟩
                            have uy37 : Up mu 144 y28_1 y28_1r y37 y37r := uy37'
                            have ty37 := cx_up ty28_1 uy37
                            have wm_y37 := wg_up uy37 wm_y28_1
                            have wFL_y37 := wq_up uy37 wFL_y28_1
                            have wFU_y37 := wq_up uy37 wFU_y28_1
                            have wFV_y37 := wq_up uy37 wFV_y28_1
                            have wk9_y37 := fun h => ag_up uy37 (vk9_y28_1 h)
                            have wk11_y37 := fun h => ag_up uy37 (vk11_y28_1 h)
                            have wk10_y37 := fun h => ag_up uy37 (vk10_y28_1 h)
                            have wk12_y37 := fun h => ag_up uy37 (vk12_y28_1 h)
                            have wk13_y37 := fun h => ag_up uy37 (vk13_y28_1 h)
                            have vGY_y37 : WQ mu y37 y37r 139 8 8 (fun r x => x14.toInt + r * 16 + x) := wq_cs vGY_y37' (by omega) (by omega) (fun r x h1 h2 h3 h4 => by (try dsimp only) <;> omega)
                            exact rl_some ⟨uy37, vGY_y37⟩
                          · have dc21 := tl_ne is23_1 tn_0 c21
                            exfalso
                            omega
                        · rintro y29 y29r ⟨uy29, wGY_y29⟩
                          have uy29 : Up mu 144 y28_1 y28_1r y29 y29r := uy29
                          have ty29 := cx_up ty28_1 uy29
                          have wm_y29 := wg_up uy29 wm_y28_1
                          have wFL_y29 := wq_up uy29 wFL_y28_1
                          have wFU_y29 := wq_up uy29 wFU_y28_1
                          have wFV_y29 := wq_up uy29 wFV_y28_1
                          have wk9_y29 := fun h => ag_up uy29 (vk9_y28_1 h)
                          have wk11_y29 := fun h => ag_up uy29 (vk11_y28_1 h)
                          have wk10_y29 := fun h => ag_up uy29 (vk10_y28_1 h)
                          have wk12_y29 := fun h => ag_up uy29 (vk12_y28_1 h)
                          have wk13_y29 := fun h => ag_up uy29 (vk13_y28_1 h)
                          have wGY_y29 : WQ mu y29 y29r 139 8 8 (fun r x => x14.toInt + r * 16 + x) := wGY_y29
                          refine rl_ltI (av_add is23_1 tn_1 (by omega) (by omega)) (fun x30 ix30 => ?_)
                          refine rl_inlQ (fun (y z : Int32 × DD) => y.1 = z.1 ∧ (1 ≤ y.1.toInt ∧ y.1.toInt ≤ 1) ∧ Up mu 144 y19_2 y19_2r y.2 z.2 ∧ WQ mu y.2 z.2 139 8 8 (fun r x => x14.toInt + r * 16 + x)) ⟨rfl, (ti_bd ix30 (by omega) (by omega)), (up_tr (up_tr us23_2 uy28_1) uy29), wGY_y29⟩ ?_
                          rintro ⟨s23_1, s23_2⟩ ⟨s23_1r, s23_2r⟩ ⟨es23_1, ls23_1, us23_2, wGY_s23_2⟩
                          obtain rfl : s23_1 = s23_1r := es23_1
                          have ls23_1 : 1 ≤ s23_1.toInt ∧ s23_1.toInt ≤ 1 := ls23_1
                          have is23_1 : TI s23_1 (1) := ti_c ls23_1
                          have us23_2 : Up mu 144 y19_2 y19_2r s23_2 s23_2r := us23_2
                          have ts23_2 := cx_up ty19_2 us23_2
                          have wm_s23_2 := wg_up us23_2 wm_y19_2
                          have wFL_s23_2 := wq_up us23_2 wFL_y19_2
                          have wFU_s23_2 := wq_up us23_2 wFU_y19_2
                          have wFV_s23_2 := wq_up us23_2 wFV_y19_2
                          have wGY_s23_2 : WQ mu s23_2 s23_2r 139 8 8 (fun r x => x14.toInt + r * 16 + x) := wGY_s23_2
                          refine rl_it1 ?_
                          refine rl_bnd (Q := fun (y z : Int32) => y = z ∧ (3 ≤ y.toInt ∧ y.toInt ≤ 3)) ?_ ?_
                          · refine rl_if (fun c22 => ?_) (fun c22 => ?_)
                            · have dc22 := tl_eq i4 tn_0 c22
                              exfalso
                              omega
                            · have dc22 := tl_ne i4 tn_0 c22
                              exact rl_some ⟨rfl, (ti_bd tn_3 (by omega) (by omega))⟩
                          · rintro y26 y26r ⟨ey26, ly26⟩
                            obtain rfl : y26 = y26r := ey26
                            have ly26 : 3 ≤ y26.toInt ∧ y26.toInt ≤ 3 := ly26
                            have iy26 : TI y26 (3) := ti_c ly26
                            refine rl_if (fun c23 => ?_) (fun c23 => ?_)
                            · have dc23 := tl_le iy26 is23_1 c23
                              exfalso
                              omega
                            · have dc23 := tl_nle iy26 is23_1 c23
                              refine rl_bnd (r_chooseWeights ts23_2 ⟨rfl, rfl⟩ is23_1 (by omega) (by omega) wm_s23_2) ?_
                              rintro ⟨y28_1, y28_2⟩ ⟨y28_1r, y28_2r⟩ ⟨uy28_1', ey28_2, ly28_2, vk9_y28_1, vk11_y28_1, vk10_y28_1, vk12_y28_1, vk13_y28_1⟩
                              have uy28_1 : Up mu 144 s23_2 s23_2r y28_1 y28_1r := uy28_1'
                              have ty28_1 := cx_up ts23_2 uy28_1
                              have wm_y28_1 := wg_up uy28_1 wm_s23_2
                              have wFL_y28_1 := wq_up uy28_1 wFL_s23_2
                              have wFU_y28_1 := wq_up uy28_1 wFU_s23_2
                              have wFV_y28_1 := wq_up uy28_1 wFV_s23_2
                              have wGY_y28_1 := wq_up uy28_1 wGY_s23_2
                              obtain rfl : y28_2 = y28_2r := ey28_2
                              dsimp only at ly28_2
                              have iy28_2 : TI y28_2 y28_2.toInt := rfl
                              have n0 : (s23_2.1 144 0).toInt = (M.1 144 0).toInt := by rw [((up_tr (up_tr (up_tr uy1_1 uy2_1) uy19_2) us23_2)).2.2.2.1]
                              have n3 : (s23_2.1 144 3).toInt = (M.1 144 3).toInt := by rw [((up_tr (up_tr (up_tr uy1_1 uy2_1) uy19_2) us23_2)).2.2.2.1]
                              have g0 := h0.1.1
                              have g1 := h1
                              refine rl_bnd (Q := fun (y z : DD) => Up mu 144 y28_1 y28_1r y z ∧ WQ mu y z 139 (8 / 2) (8 / 2) (fun r x => x18.toInt + 0 + r * 8 + x)) ?_ ?_
                              · refine rl_if (fun c24 => ?_) (fun c24 => ?_)
                                · have dc24 := tl_eq is23_1 tn_0 c24
                                  exfalso
                                  omega
                                · have dc24 := tl_ne is23_1 tn_0 c24
                                  refine rl_ltI (av_sub is23_1 tn_1 (by omega) (by omega)) (fun x32 ix32 => ?_)
                                  refine rl_ltI (av_mul tn_64 ix32 (by omega) (by omega)) (fun x33 ix33 => ?_)
                                  refine rl_ltI (av_add ix18 ix33 (by omega) (by omega)) (fun x34 ix34 => ?_)
                                  refine rl_ltI (av_div i3 tn_2 (by omega) (by omega)) (fun x35 ix35 => ?_)
                                  refine rl_bnd (r_blend ty28_1 iy28_2 ix34 tn_8 ix35 (by omega) (by omega) (by omega) (by omega) (by omega) (by omega) (fun _ => wq_cs wFU_y28_1 (Int.le_refl _) (Int.le_refl _) (fun r x h1 h2 h3 h4 => by (try dsimp only) <;> omega)) (fun h => absurd h (cw_b ly28_2.2 n0 n3 g0 g1)) vk9_y28_1 (fun h => absurd h (cw_c ly28_2.2 n0 n3 g0 g1)) vk11_y28_1 (fun h => absurd h (cw_c ly28_2.2 n0 n3 g0 g1)) vk13_y28_1) ?_
                                  rintro y36 y36r ⟨uy36', vGU_y36'⟩
                                  have uy36 : Up mu 144 y28_1 y28_1r y36 y36r := uy36'
                                  have ty36 := cx_up ty28_1 uy36
                                  have wm_y36 := wg_up uy36 wm_y28_1
                                  have wFL_y36 := wq_up uy36 wFL_y28_1
                                  have wFU_y36 := wq_up uy36 wFU_y28_1
                                  have wFV_y36 := wq_up uy36 wFV_y28_1
                                  have wGY_y36 := wq_up uy36 wGY_y28_1
                                  have wk9_y36 := fun h => ag_up uy36 (vk9_y28_1 h)
                                  have wk11_y36 := fun h => ag_up uy36 (vk11_y28_1 h)
                                  have wk10_y36 := fun h => ag_up uy36 (vk10_y28_1 h)
                                  have wk12_y36 := fun h => ag_up uy36 (vk12_y28_1 h)
                                  have wk13_y36 := fun h => ag_up uy36 (vk13_y28_1 h)
                                  have vGU_y36 : WQ mu y36 y36r 139 (8 / 2) (8 / 2) (fun r x => x18.toInt + 0 + r * 8 + x) := wq_cs vGU_y36' (by omega) (by omega) (fun r x h1 h2 h3 h4 => by (try dsimp only) <;> omega)
                                  exact rl_some ⟨uy36, vGU_y36⟩
                              · rintro y29 y29r ⟨uy29, wGU_y29⟩
                                have uy29 : Up mu 144 y28_1 y28_1r y29 y29r := uy29
                                have ty29 := cx_up ty28_1 uy29
                                have wm_y29 := wg_up uy29 wm_y28_1
                                have wFL_y29 := wq_up uy29 wFL_y28_1
                                have wFU_y29 := wq_up uy29 wFU_y28_1
                                have wFV_y29 := wq_up uy29 wFV_y28_1
                                have wGY_y29 := wq_up uy29 wGY_y28_1
                                have wk9_y29 := fun h => ag_up uy29 (vk9_y28_1 h)
                                have wk11_y29 := fun h => ag_up uy29 (vk11_y28_1 h)
                                have wk10_y29 := fun h => ag_up uy29 (vk10_y28_1 h)
                                have wk12_y29 := fun h => ag_up uy29 (vk12_y28_1 h)
                                have wk13_y29 := fun h => ag_up uy29 (vk13_y28_1 h)
                                have wGU_y29 : WQ mu y29 y29r 139 (8 / 2) (8 / 2) (fun r x => x18.toInt + 0 + r * 8 + x) := wGU_y29
                                refine rl_ltI (av_add is23_1 tn_1 (by omega) (by omega)) (fun x30 ix30 => ?_)
                                refine rl_inlQ (fun (y z : Int32 × DD) => y.1 = z.1 ∧ (2 ≤ y.1.toInt ∧ y.1.toInt ≤ 2) ∧ Up mu 144 y19_2 y19_2r y.2 z.2 ∧ WQ mu y.2 z.2 139 8 8 (fun r x => x14.toInt + r * 16 + x) ∧ WQ mu y.2 z.2 139 (8 / 2) (8 / 2) (fun r x => x18.toInt + 0 + r * 8 + x)) ⟨rfl, (ti_bd ix30 (by omega) (by omega)), (up_tr (up_tr us23_2 uy28_1) uy29), wGY_y29, wGU_y29⟩ ?_
                                rintro ⟨s23_1, s23_2⟩ ⟨s23_1r, s23_2r⟩ ⟨es23_1, ls23_1, us23_2, wGY_s23_2, wGU_s23_2⟩
                                obtain rfl : s23_1 = s23_1r := es23_1
                                have ls23_1 : 2 ≤ s23_1.toInt ∧ s23_1.toInt ≤ 2 := ls23_1
                                have is23_1 : TI s23_1 (2) := ti_c ls23_1
                                have us23_2 : Up mu 144 y19_2 y19_2r s23_2 s23_2r := us23_2
                                have ts23_2 := cx_up ty19_2 us23_2
                                have wm_s23_2 := wg_up us23_2 wm_y19_2
                                have wFL_s23_2 := wq_up us23_2 wFL_y19_2
                                have wFU_s23_2 := wq_up us23_2 wFU_y19_2
                                have wFV_s23_2 := wq_up us23_2 wFV_y19_2
                                have wGY_s23_2 : WQ mu s23_2 s23_2r 139 8 8 (fun r x => x14.toInt + r * 16 + x) := wGY_s23_2
                                have wGU_s23_2 : WQ mu s23_2 s23_2r 139 (8 / 2) (8 / 2) (fun r x => x18.toInt + 0 + r * 8 + x) := wGU_s23_2
                                refine rl_it1 ?_
                                refine rl_bnd (Q := fun (y z : Int32) => y = z ∧ (3 ≤ y.toInt ∧ y.toInt ≤ 3)) ?_ ?_
                                · refine rl_if (fun c25 => ?_) (fun c25 => ?_)
                                  · have dc25 := tl_eq i4 tn_0 c25
                                    exfalso
                                    omega
                                  · have dc25 := tl_ne i4 tn_0 c25
                                    exact rl_some ⟨rfl, (ti_bd tn_3 (by omega) (by omega))⟩
                                · rintro y26 y26r ⟨ey26, ly26⟩
                                  obtain rfl : y26 = y26r := ey26
                                  have ly26 : 3 ≤ y26.toInt ∧ y26.toInt ≤ 3 := ly26
                                  have iy26 : TI y26 (3) := ti_c ly26
                                  refine rl_if (fun c26 => ?_) (fun c26 => ?_)
                                  · have dc26 := tl_le iy26 is23_1 c26
                                    exfalso
                                    omega
                                  · have dc26 := tl_nle iy26 is23_1 c26
                                    refine rl_bnd (r_chooseWeights ts23_2 ⟨rfl, rfl⟩ is23_1 (by omega) (by omega) wm_s23_2) ?_
                                    rintro ⟨y28_1, y28_2⟩ ⟨y28_1r, y28_2r⟩ ⟨uy28_1', ey28_2, ly28_2, vk9_y28_1, vk11_y28_1, vk10_y28_1, vk12_y28_1, vk13_y28_1⟩
                                    have uy28_1 : Up mu 144 s23_2 s23_2r y28_1 y28_1r := uy28_1'
                                    have ty28_1 := cx_up ts23_2 uy28_1
                                    have wm_y28_1 := wg_up uy28_1 wm_s23_2
                                    have wFL_y28_1 := wq_up uy28_1 wFL_s23_2
                                    have wFU_y28_1 := wq_up uy28_1 wFU_s23_2
                                    have wFV_y28_1 := wq_up uy28_1 wFV_s23_2
                                    have wGY_y28_1 := wq_up uy28_1 wGY_s23_2
                                    have wGU_y28_1 := wq_up uy28_1 wGU_s23_2
                                    obtain rfl : y28_2 = y28_2r := ey28_2
                                    dsimp only at ly28_2
                                    have iy28_2 : TI y28_2 y28_2.toInt := rfl
                                    have n0 : (s23_2.1 144 0).toInt = (M.1 144 0).toInt := by rw [((up_tr (up_tr (up_tr uy1_1 uy2_1) uy19_2) us23_2)).2.2.2.1]
                                    have n3 : (s23_2.1 144 3).toInt = (M.1 144 3).toInt := by rw [((up_tr (up_tr (up_tr uy1_1 uy2_1) uy19_2) us23_2)).2.2.2.1]
                                    have g0 := h0.1.1
                                    have g1 := h1
                                    refine rl_bnd (Q := fun (y z : DD) => Up mu 144 y28_1 y28_1r y z ∧ WQ mu y z 139 (8 / 2) (8 / 2) (fun r x => x18.toInt + 64 + r * 8 + x)) ?_ ?_
                                    · refine rl_if (fun c27 => ?_) (fun c27 => ?_)
                                      · have dc27 := tl_eq is23_1 tn_0 c27
                                        exfalso
                                        omega
                                      · have dc27 := tl_ne is23_1 tn_0 c27
                                        refine rl_ltI (av_sub is23_1 tn_1 (by omega) (by omega)) (fun x32 ix32 => ?_)
                                        refine rl_ltI (av_mul tn_64 ix32 (by omega) (by omega)) (fun x33 ix33 => ?_)
                                        refine rl_ltI (av_add ix18 ix33 (by omega) (by omega)) (fun x34 ix34 => ?_)
                                        refine rl_ltI (av_div i3 tn_2 (by omega) (by omega)) (fun x35 ix35 => ?_)
                                        refine rl_bnd (r_blend ty28_1 iy28_2 ix34 tn_8 ix35 (by omega) (by omega) (by omega) (by omega) (by omega) (by omega) (fun _ => wq_cs wFV_y28_1 (Int.le_refl _) (Int.le_refl _) (fun r x h1 h2 h3 h4 => by (try dsimp only) <;> omega)) (fun h => absurd h (cw_b ly28_2.2 n0 n3 g0 g1)) vk9_y28_1 (fun h => absurd h (cw_c ly28_2.2 n0 n3 g0 g1)) vk11_y28_1 (fun h => absurd h (cw_c ly28_2.2 n0 n3 g0 g1)) vk13_y28_1) ?_
                                        rintro y36 y36r ⟨uy36', vGV_y36'⟩
                                        have uy36 : Up mu 144 y28_1 y28_1r y36 y36r := uy36'
                                        have ty36 := cx_up ty28_1 uy36
                                        have wm_y36 := wg_up uy36 wm_y28_1
                                        have wFL_y36 := wq_up uy36 wFL_y28_1
                                        have wFU_y36 := wq_up uy36 wFU_y28_1
                                        have wFV_y36 := wq_up uy36 wFV_y28_1
                                        have wGY_y36 := wq_up uy36 wGY_y28_1
                                        have wGU_y36 := wq_up uy36 wGU_y28_1
                                        have wk9_y36 := fun h => ag_up uy36 (vk9_y28_1 h)
                                        have wk11_y36 := fun h => ag_up uy36 (vk11_y28_1 h)
                                        have wk10_y36 := fun h => ag_up uy36 (vk10_y28_1 h)
                                        have wk12_y36 := fun h => ag_up uy36 (vk12_y28_1 h)
                                        have wk13_y36 := fun h => ag_up uy36 (vk13_y28_1 h)
                                        have vGV_y36 : WQ mu y36 y36r 139 (8 / 2) (8 / 2) (fun r x => x18.toInt + 64 + r * 8 + x) := wq_cs vGV_y36' (by omega) (by omega) (fun r x h1 h2 h3 h4 => by (try dsimp only) <;> omega)
                                        exact rl_some ⟨uy36, vGV_y36⟩
                                    · rintro y29 y29r ⟨uy29, wGV_y29⟩
                                      have uy29 : Up mu 144 y28_1 y28_1r y29 y29r := uy29
                                      have ty29 := cx_up ty28_1 uy29
                                      have wm_y29 := wg_up uy29 wm_y28_1
                                      have wFL_y29 := wq_up uy29 wFL_y28_1
                                      have wFU_y29 := wq_up uy29 wFU_y28_1
                                      have wFV_y29 := wq_up uy29 wFV_y28_1
                                      have wGY_y29 := wq_up uy29 wGY_y28_1
                                      have wGU_y29 := wq_up uy29 wGU_y28_1
                                      have wk9_y29 := fun h => ag_up uy29 (vk9_y28_1 h)
                                      have wk11_y29 := fun h => ag_up uy29 (vk11_y28_1 h)
                                      have wk10_y29 := fun h => ag_up uy29 (vk10_y28_1 h)
                                      have wk12_y29 := fun h => ag_up uy29 (vk12_y28_1 h)
                                      have wk13_y29 := fun h => ag_up uy29 (vk13_y28_1 h)
                                      have wGV_y29 : WQ mu y29 y29r 139 (8 / 2) (8 / 2) (fun r x => x18.toInt + 64 + r * 8 + x) := wGV_y29
                                      refine rl_ltI (av_add is23_1 tn_1 (by omega) (by omega)) (fun x30 ix30 => ?_)
                                      refine rl_inlQ (fun (y z : Int32 × DD) => y.1 = z.1 ∧ (3 ≤ y.1.toInt ∧ y.1.toInt ≤ 3) ∧ Up mu 144 y19_2 y19_2r y.2 z.2 ∧ WQ mu y.2 z.2 139 8 8 (fun r x => x14.toInt + r * 16 + x) ∧ WQ mu y.2 z.2 139 (8 / 2) (8 / 2) (fun r x => x18.toInt + 0 + r * 8 + x) ∧ WQ mu y.2 z.2 139 (8 / 2) (8 / 2) (fun r x => x18.toInt + 64 + r * 8 + x)) ⟨rfl, (ti_bd ix30 (by omega) (by omega)), (up_tr (up_tr us23_2 uy28_1) uy29), wGY_y29, wGU_y29, wGV_y29⟩ ?_
                                      rintro ⟨s23_1, s23_2⟩ ⟨s23_1r, s23_2r⟩ ⟨es23_1, ls23_1, us23_2, wGY_s23_2, wGU_s23_2, wGV_s23_2⟩
                                      obtain rfl : s23_1 = s23_1r := es23_1
                                      have ls23_1 : 3 ≤ s23_1.toInt ∧ s23_1.toInt ≤ 3 := ls23_1
                                      have is23_1 : TI s23_1 (3) := ti_c ls23_1
                                      have us23_2 : Up mu 144 y19_2 y19_2r s23_2 s23_2r := us23_2
                                      have ts23_2 := cx_up ty19_2 us23_2
                                      have wm_s23_2 := wg_up us23_2 wm_y19_2
                                      have wFL_s23_2 := wq_up us23_2 wFL_y19_2
                                      have wFU_s23_2 := wq_up us23_2 wFU_y19_2
                                      have wFV_s23_2 := wq_up us23_2 wFV_y19_2
                                      have wGY_s23_2 : WQ mu s23_2 s23_2r 139 8 8 (fun r x => x14.toInt + r * 16 + x) := wGY_s23_2
                                      have wGU_s23_2 : WQ mu s23_2 s23_2r 139 (8 / 2) (8 / 2) (fun r x => x18.toInt + 0 + r * 8 + x) := wGU_s23_2
                                      have wGV_s23_2 : WQ mu s23_2 s23_2r 139 (8 / 2) (8 / 2) (fun r x => x18.toInt + 64 + r * 8 + x) := wGV_s23_2
                                      refine rl_it1 ?_
                                      refine rl_bnd (Q := fun (y z : Int32) => y = z ∧ (3 ≤ y.toInt ∧ y.toInt ≤ 3)) ?_ ?_
                                      · refine rl_if (fun c28 => ?_) (fun c28 => ?_)
                                        · have dc28 := tl_eq i4 tn_0 c28
                                          exfalso
                                          omega
                                        · have dc28 := tl_ne i4 tn_0 c28
                                          exact rl_some ⟨rfl, (ti_bd tn_3 (by omega) (by omega))⟩
                                      · rintro y26 y26r ⟨ey26, ly26⟩
                                        obtain rfl : y26 = y26r := ey26
                                        have ly26 : 3 ≤ y26.toInt ∧ y26.toInt ≤ 3 := ly26
                                        have iy26 : TI y26 (3) := ti_c ly26
                                        refine rl_if (fun c29 => ?_) (fun c29 => ?_)
                                        · have dc29 := tl_le iy26 is23_1 c29
                                          refine rl_inrQ (fun (y z : Int32 × DD) => y.1 = z.1 ∧ Up mu 144 y19_2 y19_2r y.2 z.2 ∧ WQ mu y.2 z.2 139 8 8 (fun r x => x14.toInt + r * 16 + x) ∧ WQ mu y.2 z.2 139 (8 / 2) (8 / 2) (fun r x => x18.toInt + 0 + r * 8 + x) ∧ WQ mu y.2 z.2 139 (8 / 2) (8 / 2) (fun r x => x18.toInt + 64 + r * 8 + x)) ⟨rfl, us23_2, wGY_s23_2, wGU_s23_2, wGV_s23_2⟩ ?_
                                          rintro ⟨y22_1, y22_2⟩ ⟨y22_1r, y22_2r⟩ ⟨ey22_1, uy22_2, wGY_y22_2, wGU_y22_2, wGV_y22_2⟩
                                          obtain rfl : y22_1 = y22_1r := ey22_1
                                          have uy22_2 : Up mu 144 y19_2 y19_2r y22_2 y22_2r := uy22_2
                                          have ty22_2 := cx_up ty19_2 uy22_2
                                          have wm_y22_2 := wg_up uy22_2 wm_y19_2
                                          have wFL_y22_2 := wq_up uy22_2 wFL_y19_2
                                          have wFU_y22_2 := wq_up uy22_2 wFU_y19_2
                                          have wFV_y22_2 := wq_up uy22_2 wFV_y19_2
                                          have wGY_y22_2 : WQ mu y22_2 y22_2r 139 8 8 (fun r x => x14.toInt + r * 16 + x) := wGY_y22_2
                                          have wGU_y22_2 : WQ mu y22_2 y22_2r 139 (8 / 2) (8 / 2) (fun r x => x18.toInt + 0 + r * 8 + x) := wGU_y22_2
                                          have wGV_y22_2 : WQ mu y22_2 y22_2r 139 (8 / 2) (8 / 2) (fun r x => x18.toInt + 64 + r * 8 + x) := wGV_y22_2
                                          exact rl_some ⟨(up_tr (up_tr (up_tr uy1_1 uy2_1) uy19_2) uy22_2), (wq_cs wGY_y22_2 (Int.le_refl _) (Int.le_refl _) (fun r x h1 h2 h3 h4 => by (try dsimp only) <;> omega)), (wq_cs wGU_y22_2 (Int.le_refl _) (Int.le_refl _) (fun r x h1 h2 h3 h4 => by (try dsimp only) <;> omega)), (wq_cs wGV_y22_2 (Int.le_refl _) (Int.le_refl _) (fun r x h1 h2 h3 h4 => by (try dsimp only) <;> omega))⟩
                                        · have dc29 := tl_nle iy26 is23_1 c29
                                          exfalso
                                          omega
                  · have dc18 := tl_nle tn_2 is20_1 c18
                    exfalso
                    omega
    · refine rl_bnd (r_pieceX t i2 (by omega) (by omega)) ?_
      rintro ⟨y1_1, y1_2⟩ ⟨y1_1r, y1_2r⟩ ⟨uy1_1', ey1_2, iy1_2⟩
      have uy1_1 : Up mu 144 M N y1_1 y1_1r := uy1_1'
      have ty1_1 := cx_up t uy1_1
      have wm_y1_1 := wg_up uy1_1 hm
      obtain rfl : y1_2 = y1_2r := ey1_2
      refine rl_bnd (r_pieceY ty1_1 i2 (by omega) (by omega)) ?_
      rintro ⟨y2_1, y2_2⟩ ⟨y2_1r, y2_2r⟩ ⟨uy2_1', ey2_2, iy2_2⟩
      have uy2_1 : Up mu 144 y1_1 y1_1r y2_1 y2_1r := uy2_1'
      have ty2_1 := cx_up ty1_1 uy2_1
      have wm_y2_1 := wg_up uy2_1 wm_y1_1
      obtain rfl : y2_2 = y2_2r := ey2_2
      refine rl_dr (cx_U ty2_1) ⟨rfl, rfl⟩ (fun gb3 => ?_)
      refine rl_dr (cx_U ty2_1) (rx_p ty2_1) (fun gb4 => ?_)
      refine rl_rd (cx_q (j := 0) (k := 1) ty2_1 (cx_p t) rfl) (fun x5 => ?_)
      refine rl_chk (fun h => h) (fun k1 => ?_)
      refine rl_ltA (fun x6 => ?_)
      refine rl_ltA (fun x7 => ?_)
      refine rl_ltA (fun x8 => ?_)
      refine rl_rd (cx_q (j := 0) (k := 1) ty2_1 (cx_p t) rfl) (fun x9 => ?_)
      refine rl_chk (fun h => h) (fun k2 => ?_)
      refine rl_ltA (fun x10 => ?_)
      refine rl_ltA (fun x11 => ?_)
      refine rl_ltA (fun x12 => ?_)
      refine rl_ltI (av_mul tn_16 iy2_2 (by omega) (by omega)) (fun x13 ix13 => ?_)
      refine rl_ltI (av_add ix13 iy1_2 (by omega) (by omega)) (fun x14 ix14 => ?_)
      have kx14 : x14.toInt = _ := ix14
      refine rl_ltI (av_mul tn_4 iy2_2 (by omega) (by omega)) (fun x15 ix15 => ?_)
      refine rl_ltI (av_add tn_256 ix15 (by omega) (by omega)) (fun x16 ix16 => ?_)
      refine rl_ltI (av_div iy1_2 tn_2 (by omega) (by omega)) (fun x17 ix17 => ?_)
      refine rl_ltI (av_add ix16 ix17 (by omega) (by omega)) (fun x18 ix18 => ?_)
      have kx18 : x18.toInt = _ := ix18
      refine rl_bndK ?_
      refine rl_itQ (fun (y z : Int32 × DD) => y.1 = z.1 ∧ (0 ≤ y.1.toInt ∧ y.1.toInt ≤ 0) ∧ Up mu 144 y2_1 y2_1r y.2 z.2) ⟨rfl, (ti_bd tn_0 (by omega) (by omega)), (up_0 mu (κ := 144) _ _)⟩ ?_
      rintro ⟨s20_1, s20_2⟩ ⟨s20_1r, s20_2r⟩ ⟨es20_1, ls20_1, us20_2⟩
      obtain rfl : s20_1 = s20_1r := es20_1
      have ls20_1 : 0 ≤ s20_1.toInt ∧ s20_1.toInt ≤ 0 := ls20_1
      have is20_1 : TI s20_1 (0) := ti_c ls20_1
      have us20_2 : Up mu 144 y2_1 y2_1r s20_2 s20_2r := us20_2
      have ts20_2 := cx_up ty2_1 us20_2
      have wm_s20_2 := wg_up us20_2 wm_y2_1
      refine rl_it1 ?_
      refine rl_if (fun c3 => ?_) (fun c3 => ?_)
      · have dc3 := tl_le tn_2 is20_1 c3
        exfalso
        omega
      · have dc3 := tl_nle tn_2 is20_1 c3
        refine rl_ltI (av_mul tn_3 is20_1 (by omega) (by omega)) (fun x41 ix41 => ?_)
        refine rl_dr (cx_U ts20_2) (rx_c (a := 138) (k := 5) (b := 144) ts20_2 (Or.inr (Or.inl rfl)) rfl (by decide)) (fun gb42 => ?_)
        refine rl_chk (chkl (cx_U ts20_2) gb42) (fun k4 => ?_)
        refine rl_rdE (wg_id wm_s20_2 ix41 (by omega) (by omega)) (fun x43 ex43 => ?_)
        have mx43 : x43.toInt = (M.1 144 0).toInt := by rw [ex43, ti_n ix41, ((up_tr (up_tr uy1_1 uy2_1) us20_2)).2.2.2.1]; rfl
        have lx43 : x43.toInt < 0 := by rw [mx43]; exact h0
        refine rl_bnd (Q := fun (y z : Option Nat) => (y = none ∧ z = none)) ?_ ?_
        · refine rl_if (fun c5 => ?_) (fun c5 => ?_)
          · have dc5 := tl_lt (rfl : TI x43 x43.toInt) tn_0 c5
            exact rl_some ⟨rfl, rfl⟩
          · have dc5 := tl_nlt (rfl : TI x43 x43.toInt) tn_0 c5
            exfalso
            omega
        · rintro y44 y44r oy44
          refine rl_bnd (Q := fun (y z : DD) => Up mu 144 s20_2 s20_2r y z) ?_ ?_
          · refine rl_ifD (or_iff (mu := mu) (L := L) (Or.inl oy44)) (fun c6 => ?_) (fun c6 => ?_)
            · exact rl_some (up_0 mu (κ := 144) _ _)
            · exact absurd oy44.1 c6
          · rintro y45 y45r uy45
            have uy45 : Up mu 144 s20_2 s20_2r y45 y45r := uy45
            have ty45 := cx_up ts20_2 uy45
            have wm_y45 := wg_up uy45 wm_s20_2
            refine rl_ltI (av_add is20_1 tn_1 (by omega) (by omega)) (fun x46 ix46 => ?_)
            refine rl_inlQ (fun (y z : Int32 × DD) => y.1 = z.1 ∧ (1 ≤ y.1.toInt ∧ y.1.toInt ≤ 1) ∧ Up mu 144 y2_1 y2_1r y.2 z.2) ⟨rfl, (ti_bd ix46 (by omega) (by omega)), (up_tr us20_2 uy45)⟩ ?_
            rintro ⟨s20_1, s20_2⟩ ⟨s20_1r, s20_2r⟩ ⟨es20_1, ls20_1, us20_2⟩
            obtain rfl : s20_1 = s20_1r := es20_1
            have ls20_1 : 1 ≤ s20_1.toInt ∧ s20_1.toInt ≤ 1 := ls20_1
            have is20_1 : TI s20_1 (1) := ti_c ls20_1
            have us20_2 : Up mu 144 y2_1 y2_1r s20_2 s20_2r := us20_2
            have ts20_2 := cx_up ty2_1 us20_2
            have wm_s20_2 := wg_up us20_2 wm_y2_1
            refine rl_it1 ?_
            refine rl_if (fun c7 => ?_) (fun c7 => ?_)
            · have dc7 := tl_le tn_2 is20_1 c7
              exfalso
              omega
            · have dc7 := tl_nle tn_2 is20_1 c7
              refine rl_ltI (av_mul tn_3 is20_1 (by omega) (by omega)) (fun x41 ix41 => ?_)
              refine rl_dr (cx_U ts20_2) (rx_c (a := 138) (k := 5) (b := 144) ts20_2 (Or.inr (Or.inl rfl)) rfl (by decide)) (fun gb42 => ?_)
              refine rl_chk (chkl (cx_U ts20_2) gb42) (fun k8 => ?_)
              refine rl_rdE (wg_id wm_s20_2 ix41 (by omega) (by omega)) (fun x43 ex43 => ?_)
              have mx43 : x43.toInt = (M.1 144 3).toInt := by rw [ex43, ti_n ix41, ((up_tr (up_tr uy1_1 uy2_1) us20_2)).2.2.2.1]; rfl
              have lx43 : 0 ≤ x43.toInt ∧ x43.toInt ≤ 7 := by rw [mx43]; exact h1.1
              refine rl_bnd (Q := fun (y z : Option Nat) => (∃ q, q ∈ L ∧ (y = some q ∧ z = some (mu q)))) ?_ ?_
              · refine rl_if (fun c9 => ?_) (fun c9 => ?_)
                · have dc9 := tl_lt (rfl : TI x43 x43.toInt) tn_0 c9
                  exfalso
                  omega
                · have dc9 := tl_nlt (rfl : TI x43 x43.toInt) tn_0 c9
                  refine rl_bnd (Q := fun (y z : Option Nat) => (∃ q, q ∈ L ∧ (y = some q ∧ z = some (mu q)))) ?_ ?_
                  · refine rl_if (fun c10 => ?_) (fun c10 => ?_)
                    · have dc10 := tl_le (rfl : TI x43 x43.toInt) tn_8 c10
                      refine rl_ltI (av_mul tn_9 is20_1 (by omega) (by omega)) (fun x70 ix70 => ?_)
                      refine rl_ltI (av_add ix70 (rfl : TI x43 x43.toInt) (by omega) (by omega)) (fun x71 ix71 => ?_)
                      refine rl_dr (cx_U ts20_2) (rx_c (a := 125) (k := 3) (b := 126) ts20_2 (Or.inl rfl) rfl (by decide)) (fun gb72 => ?_)
                      refine rl_chk (chkl (cx_U ts20_2) gb72) (fun k11 => ?_)
                      exact rl_some (or_ne (rx_l ts20_2 _) (by rw [((up_tr (up_tr uy1_1 uy2_1) us20_2)).1.1, ti_n ix71, mx43]; exact en_ix h1 1 (by omega)))
                    · have dc10 := tl_nle (rfl : TI x43 x43.toInt) tn_8 c10
                      exfalso
                      omega
                  · rintro y68 y68r ⟨qy68, hqy68, oy68⟩
                    exact rl_some ⟨qy68, hqy68, oy68⟩
              · rintro y44 y44r ⟨qy44, hqy44, oy44⟩
                refine rl_bnd (Q := fun (y z : DD) => Up mu 144 s20_2 s20_2r y z ∧ WQ mu y z 141 8 8 (fun r x => x14.toInt + r * 16 + x) ∧ WQ mu y z 141 (8 / 2) (8 / 2) (fun r x => x18.toInt + 0 + r * 8 + x) ∧ WQ mu y z 141 (8 / 2) (8 / 2) (fun r x => x18.toInt + 64 + r * 8 + x)) ?_ ?_
                · refine rl_ifD (or_iff (mu := mu) (L := L) (Or.inr ⟨qy44, hqy44, oy44⟩)) (fun c12 => ?_) (fun c12 => ?_)
                  · exact absurd c12 (by rw [oy44.1]; exact Option.some_ne_none _)
                  · refine rl_ltA (fun x48 => ?_)
                    refine rl_ltI (av_mul tn_3 is20_1 (by omega) (by omega)) (fun x49 ix49 => ?_)
                    refine rl_ltI (av_add ix49 tn_1 (by omega) (by omega)) (fun x50 ix50 => ?_)
                    refine rl_chk (chkl (cx_U ts20_2) gb42) (fun k13 => ?_)
                    refine rl_rd (wg_id wm_s20_2 ix50 (by omega) (by omega)) (fun x51 => ?_)
                    refine rl_ltA (fun x52 => ?_)
                    refine rl_ltA (fun x53 => ?_)
                    refine rl_ltI (av_mul tn_3 is20_1 (by omega) (by omega)) (fun x54 ix54 => ?_)
                    refine rl_ltI (av_add ix54 tn_2 (by omega) (by omega)) (fun x55 ix55 => ?_)
                    refine rl_chk (chkl (cx_U ts20_2) gb42) (fun k14 => ?_)
                    refine rl_rd (wg_id wm_s20_2 ix55 (by omega) (by omega)) (fun x56 => ?_)
                    refine rl_ltA (fun x57 => ?_)
                    refine rl_bnd (Q := fun (y z : Option Nat) => (y = some 141 ∧ z = some (mu 141))) ?_ ?_
                    · refine rl_if (fun c15 => ?_) (fun c15 => ?_)
                      · have dc15 := tl_eq is20_1 tn_0 c15
                        exfalso
                        omega
                      · have dc15 := tl_ne is20_1 tn_0 c15
                        exact rl_some (rx_c (a := 138) (k := 2) (b := 141) ts20_2 (Or.inr (Or.inl rfl)) rfl (by decide))
                    · rintro y58 y58r oy58
                      refine rl_bnd (r_predictLuma ts20_2 oy44 hqy44 (rfl : TI x52 x52.toInt) (rfl : TI x57 x57.toInt) i3 oy58 (Or.inr rfl) ix14 (by omega) (by omega) (by omega)) ?_
                      rintro y59 y59r ⟨uy59', vSL_y59'⟩
                      have uy59 : Up mu 144 s20_2 s20_2r y59 y59r := uy59'
                      have ty59 := cx_up ts20_2 uy59
                      have wm_y59 := wg_up uy59 wm_s20_2
                      have vSL_y59 : WQ mu y59 y59r 141 8 8 (fun r x => x14.toInt + r * 16 + x) := wg_wq vSL_y59' (fun r x => r * 8 + x) (fun r x h1 h2 h3 h4 => by (try dsimp only); refine ⟨⟨by omega, by omega⟩, by omega⟩)
                      refine rl_bnd (Q := fun (y z : DD) => Up mu 144 y59 y59r y z ∧ WQ mu y z 141 (8 / 2) (8 / 2) (fun r x => x18.toInt + 0 + r * 8 + x) ∧ WQ mu y z 141 (8 / 2) (8 / 2) (fun r x => x18.toInt + 64 + r * 8 + x)) ?_ ?_
                      · refine rl_if (fun c16 => ?_) (fun c16 => ?_)
                        · have dc16 := tl_eq i4 tn_0 c16
                          exfalso
                          omega
                        · have dc16 := tl_ne i4 tn_0 c16
                          refine rl_ltI (av_div i3 tn_2 (by omega) (by omega)) (fun x62 ix62 => ?_)
                          refine rl_bnd (Q := fun (y z : Option Nat) => (y = some 141 ∧ z = some (mu 141))) ?_ ?_
                          · refine rl_if (fun c17 => ?_) (fun c17 => ?_)
                            · have dc17 := tl_eq is20_1 tn_0 c17
                              exfalso
                              omega
                            · have dc17 := tl_ne is20_1 tn_0 c17
                              exact rl_some (rx_c (a := 138) (k := 2) (b := 141) ty59 (Or.inr (Or.inl rfl)) rfl (by decide))
                          · rintro y63 y63r oy63
                            refine rl_bnd (r_predictColours ty59 oy44 hqy44 (rfl : TI x52 x52.toInt) (rfl : TI x57 x57.toInt) ix62 oy63 (Or.inr rfl) ix18 (by omega) (by omega) (by omega)) ?_
                            rintro y64 y64r ⟨uy64', vSU_y64', vSV_y64'⟩
                            have uy64 : Up mu 144 y59 y59r y64 y64r := uy64'
                            have ty64 := cx_up ty59 uy64
                            have wm_y64 := wg_up uy64 wm_y59
                            have wSL_y64 := wq_up uy64 vSL_y59
                            have vSU_y64 : WQ mu y64 y64r 141 (8 / 2) (8 / 2) (fun r x => x18.toInt + 0 + r * 8 + x) := wg_wq vSU_y64' (fun r x => r * (8 / 2) + x) (fun r x h1 h2 h3 h4 => by (try dsimp only); refine ⟨⟨by omega, by omega⟩, by omega⟩)
                            have vSV_y64 : WQ mu y64 y64r 141 (8 / 2) (8 / 2) (fun r x => x18.toInt + 64 + r * 8 + x) := wg_wq vSV_y64' (fun r x => r * (8 / 2) + x) (fun r x h1 h2 h3 h4 => by (try dsimp only); refine ⟨⟨by omega, by omega⟩, by omega⟩)
                            exact rl_some ⟨uy64, vSU_y64, vSV_y64⟩
                      · rintro y60 y60r ⟨uy60, wSU_y60, wSV_y60⟩
                        have uy60 : Up mu 144 y59 y59r y60 y60r := uy60
                        have ty60 := cx_up ty59 uy60
                        have wm_y60 := wg_up uy60 wm_y59
                        have wSL_y60 := wq_up uy60 vSL_y59
                        have wSU_y60 : WQ mu y60 y60r 141 (8 / 2) (8 / 2) (fun r x => x18.toInt + 0 + r * 8 + x) := wSU_y60
                        have wSV_y60 : WQ mu y60 y60r 141 (8 / 2) (8 / 2) (fun r x => x18.toInt + 64 + r * 8 + x) := wSV_y60
                        exact rl_some ⟨(up_tr uy59 uy60), wSL_y60, wSU_y60, wSV_y60⟩
                · rintro y45 y45r ⟨uy45, wSL_y45, wSU_y45, wSV_y45⟩
                  have uy45 : Up mu 144 s20_2 s20_2r y45 y45r := uy45
                  have ty45 := cx_up ts20_2 uy45
                  have wm_y45 := wg_up uy45 wm_s20_2
                  have wSL_y45 : WQ mu y45 y45r 141 8 8 (fun r x => x14.toInt + r * 16 + x) := wSL_y45
                  have wSU_y45 : WQ mu y45 y45r 141 (8 / 2) (8 / 2) (fun r x => x18.toInt + 0 + r * 8 + x) := wSU_y45
                  have wSV_y45 : WQ mu y45 y45r 141 (8 / 2) (8 / 2) (fun r x => x18.toInt + 64 + r * 8 + x) := wSV_y45
                  refine rl_ltI (av_add is20_1 tn_1 (by omega) (by omega)) (fun x46 ix46 => ?_)
                  refine rl_inlQ (fun (y z : Int32 × DD) => y.1 = z.1 ∧ (2 ≤ y.1.toInt ∧ y.1.toInt ≤ 2) ∧ Up mu 144 y2_1 y2_1r y.2 z.2 ∧ WQ mu y.2 z.2 141 8 8 (fun r x => x14.toInt + r * 16 + x) ∧ WQ mu y.2 z.2 141 (8 / 2) (8 / 2) (fun r x => x18.toInt + 0 + r * 8 + x) ∧ WQ mu y.2 z.2 141 (8 / 2) (8 / 2) (fun r x => x18.toInt + 64 + r * 8 + x)) ⟨rfl, (ti_bd ix46 (by omega) (by omega)), (up_tr us20_2 uy45), wSL_y45, wSU_y45, wSV_y45⟩ ?_
                  rintro ⟨s20_1, s20_2⟩ ⟨s20_1r, s20_2r⟩ ⟨es20_1, ls20_1, us20_2, wSL_s20_2, wSU_s20_2, wSV_s20_2⟩
                  obtain rfl : s20_1 = s20_1r := es20_1
                  have ls20_1 : 2 ≤ s20_1.toInt ∧ s20_1.toInt ≤ 2 := ls20_1
                  have is20_1 : TI s20_1 (2) := ti_c ls20_1
                  have us20_2 : Up mu 144 y2_1 y2_1r s20_2 s20_2r := us20_2
                  have ts20_2 := cx_up ty2_1 us20_2
                  have wm_s20_2 := wg_up us20_2 wm_y2_1
                  have wSL_s20_2 : WQ mu s20_2 s20_2r 141 8 8 (fun r x => x14.toInt + r * 16 + x) := wSL_s20_2
                  have wSU_s20_2 : WQ mu s20_2 s20_2r 141 (8 / 2) (8 / 2) (fun r x => x18.toInt + 0 + r * 8 + x) := wSU_s20_2
                  have wSV_s20_2 : WQ mu s20_2 s20_2r 141 (8 / 2) (8 / 2) (fun r x => x18.toInt + 64 + r * 8 + x) := wSV_s20_2
                  refine rl_it1 ?_
                  refine rl_if (fun c18 => ?_) (fun c18 => ?_)
                  · have dc18 := tl_le tn_2 is20_1 c18
                    refine rl_inrQ (fun (y z : Int32 × DD) => y.1 = z.1 ∧ Up mu 144 y2_1 y2_1r y.2 z.2 ∧ WQ mu y.2 z.2 141 8 8 (fun r x => x14.toInt + r * 16 + x) ∧ WQ mu y.2 z.2 141 (8 / 2) (8 / 2) (fun r x => x18.toInt + 0 + r * 8 + x) ∧ WQ mu y.2 z.2 141 (8 / 2) (8 / 2) (fun r x => x18.toInt + 64 + r * 8 + x)) ⟨rfl, us20_2, wSL_s20_2, wSU_s20_2, wSV_s20_2⟩ ?_
                    rintro ⟨y19_1, y19_2⟩ ⟨y19_1r, y19_2r⟩ ⟨ey19_1, uy19_2, wSL_y19_2, wSU_y19_2, wSV_y19_2⟩
                    obtain rfl : y19_1 = y19_1r := ey19_1
                    have uy19_2 : Up mu 144 y2_1 y2_1r y19_2 y19_2r := uy19_2
                    have ty19_2 := cx_up ty2_1 uy19_2
                    have wm_y19_2 := wg_up uy19_2 wm_y2_1
                    have wSL_y19_2 : WQ mu y19_2 y19_2r 141 8 8 (fun r x => x14.toInt + r * 16 + x) := wSL_y19_2
                    have wSU_y19_2 : WQ mu y19_2 y19_2r 141 (8 / 2) (8 / 2) (fun r x => x18.toInt + 0 + r * 8 + x) := wSU_y19_2
                    have wSV_y19_2 : WQ mu y19_2 y19_2r 141 (8 / 2) (8 / 2) (fun r x => x18.toInt + 64 + r * 8 + x) := wSV_y19_2
                    refine rl_bndK ?_
                    refine rl_itQ (fun (y z : Int32 × DD) => y.1 = z.1 ∧ (0 ≤ y.1.toInt ∧ y.1.toInt ≤ 0) ∧ Up mu 144 y19_2 y19_2r y.2 z.2) ⟨rfl, (ti_bd tn_0 (by omega) (by omega)), (up_0 mu (κ := 144) _ _)⟩ ?_
                    rintro ⟨s23_1, s23_2⟩ ⟨s23_1r, s23_2r⟩ ⟨es23_1, ls23_1, us23_2⟩
                    obtain rfl : s23_1 = s23_1r := es23_1
                    have ls23_1 : 0 ≤ s23_1.toInt ∧ s23_1.toInt ≤ 0 := ls23_1
                    have is23_1 : TI s23_1 (0) := ti_c ls23_1
                    have us23_2 : Up mu 144 y19_2 y19_2r s23_2 s23_2r := us23_2
                    have ts23_2 := cx_up ty19_2 us23_2
                    have wm_s23_2 := wg_up us23_2 wm_y19_2
                    have wSL_s23_2 := wq_up us23_2 wSL_y19_2
                    have wSU_s23_2 := wq_up us23_2 wSU_y19_2
                    have wSV_s23_2 := wq_up us23_2 wSV_y19_2
                    refine rl_it1 ?_
                    refine rl_bnd (Q := fun (y z : Int32) => y = z ∧ (3 ≤ y.toInt ∧ y.toInt ≤ 3)) ?_ ?_
                    · refine rl_if (fun c19 => ?_) (fun c19 => ?_)
                      · have dc19 := tl_eq i4 tn_0 c19
                        exfalso
                        omega
                      · have dc19 := tl_ne i4 tn_0 c19
                        exact rl_some ⟨rfl, (ti_bd tn_3 (by omega) (by omega))⟩
                    · rintro y26 y26r ⟨ey26, ly26⟩
                      obtain rfl : y26 = y26r := ey26
                      have ly26 : 3 ≤ y26.toInt ∧ y26.toInt ≤ 3 := ly26
                      have iy26 : TI y26 (3) := ti_c ly26
                      refine rl_if (fun c20 => ?_) (fun c20 => ?_)
                      · have dc20 := tl_le iy26 is23_1 c20
                        exfalso
                        omega
                      · have dc20 := tl_nle iy26 is23_1 c20
                        refine rl_bnd (r_chooseWeights ts23_2 ⟨rfl, rfl⟩ is23_1 (by omega) (by omega) wm_s23_2) ?_
                        rintro ⟨y28_1, y28_2⟩ ⟨y28_1r, y28_2r⟩ ⟨uy28_1', ey28_2, ly28_2, vk9_y28_1, vk11_y28_1, vk10_y28_1, vk12_y28_1, vk13_y28_1⟩
                        have uy28_1 : Up mu 144 s23_2 s23_2r y28_1 y28_1r := uy28_1'
                        have ty28_1 := cx_up ts23_2 uy28_1
                        have wm_y28_1 := wg_up uy28_1 wm_s23_2
                        have wSL_y28_1 := wq_up uy28_1 wSL_s23_2
                        have wSU_y28_1 := wq_up uy28_1 wSU_s23_2
                        have wSV_y28_1 := wq_up uy28_1 wSV_s23_2
                        obtain rfl : y28_2 = y28_2r := ey28_2
                        dsimp only at ly28_2
                        have iy28_2 : TI y28_2 y28_2.toInt := rfl
                        have n0 : (s23_2.1 144 0).toInt = (M.1 144 0).toInt := by rw [((up_tr (up_tr (up_tr uy1_1 uy2_1) uy19_2) us23_2)).2.2.2.1]
                        have n3 : (s23_2.1 144 3).toInt = (M.1 144 3).toInt := by rw [((up_tr (up_tr (up_tr uy1_1 uy2_1) uy19_2) us23_2)).2.2.2.1]
                        have g0 := h0
                        have g1 := h1.1.1
                        refine rl_bnd (Q := fun (y z : DD) => Up mu 144 y28_1 y28_1r y z ∧ WQ mu y z 139 8 8 (fun r x => x14.toInt + r * 16 + x)) ?_ ?_
                        · refine rl_if (fun c21 => ?_) (fun c21 => ?_)
                          · have dc21 := tl_eq is23_1 tn_0 c21
                            refine rl_bnd (r_blend ty28_1 iy28_2 ix14 tn_16 i3 (by omega) (by omega) (by omega) (by omega) (by omega) (by omega) (fun h => absurd h (cw_a ly28_2.2 n0 g0)) (fun _ => wq_cs wSL_y28_1 (Int.le_refl _) (Int.le_refl _) (fun r x h1 h2 h3 h4 => by (try dsimp only) <;> omega)) vk9_y28_1 (fun h => vk10_y28_1 ⟨h, by rw [n3]; exact h1.1.1⟩) vk11_y28_1 (fun h => vk12_y28_1 ⟨h, by rw [n3]; exact h1.1.1⟩) vk13_y28_1) ?_
                            rintro y37 y37r ⟨uy37', vGY_y37'⟩
                            have uy37 : Up mu 144 y28_1 y28_1r y37 y37r := uy37'
                            have ty37 := cx_up ty28_1 uy37
                            have wm_y37 := wg_up uy37 wm_y28_1
                            have wSL_y37 := wq_up uy37 wSL_y28_1
                            have wSU_y37 := wq_up uy37 wSU_y28_1
                            have wSV_y37 := wq_up uy37 wSV_y28_1
                            have wk9_y37 := fun h => ag_up uy37 (vk9_y28_1 h)
                            have wk11_y37 := fun h => ag_up uy37 (vk11_y28_1 h)
                            have wk10_y37 := fun h => ag_up uy37 (vk10_y28_1 h)
                            have wk12_y37 := fun h => ag_up uy37 (vk12_y28_1 h)
                            have wk13_y37 := fun h => ag_up uy37 (vk13_y28_1 h)
                            have vGY_y37 : WQ mu y37 y37r 139 8 8 (fun r x => x14.toInt + r * 16 + x) := wq_cs vGY_y37' (by omega) (by omega) (fun r x h1 h2 h3 h4 => by (try dsimp only) <;> omega)
                            exact rl_some ⟨uy37, vGY_y37⟩
                          · have dc21 := tl_ne is23_1 tn_0 c21
                            exfalso
                            omega
                        · rintro y29 y29r ⟨uy29, wGY_y29⟩
                          have uy29 : Up mu 144 y28_1 y28_1r y29 y29r := uy29
                          have ty29 := cx_up ty28_1 uy29
                          have wm_y29 := wg_up uy29 wm_y28_1
                          have wSL_y29 := wq_up uy29 wSL_y28_1
                          have wSU_y29 := wq_up uy29 wSU_y28_1
                          have wSV_y29 := wq_up uy29 wSV_y28_1
                          have wk9_y29 := fun h => ag_up uy29 (vk9_y28_1 h)
                          have wk11_y29 := fun h => ag_up uy29 (vk11_y28_1 h)
                          have wk10_y29 := fun h => ag_up uy29 (vk10_y28_1 h)
                          have wk12_y29 := fun h => ag_up uy29 (vk12_y28_1 h)
                          have wk13_y29 := fun h => ag_up uy29 (vk13_y28_1 h)
                          have wGY_y29 : WQ mu y29 y29r 139 8 8 (fun r x => x14.toInt + r * 16 + x) := wGY_y29
                          refine rl_ltI (av_add is23_1 tn_1 (by omega) (by omega)) (fun x30 ix30 => ?_)
                          refine rl_inlQ (fun (y z : Int32 × DD) => y.1 = z.1 ∧ (1 ≤ y.1.toInt ∧ y.1.toInt ≤ 1) ∧ Up mu 144 y19_2 y19_2r y.2 z.2 ∧ WQ mu y.2 z.2 139 8 8 (fun r x => x14.toInt + r * 16 + x)) ⟨rfl, (ti_bd ix30 (by omega) (by omega)), (up_tr (up_tr us23_2 uy28_1) uy29), wGY_y29⟩ ?_
                          rintro ⟨s23_1, s23_2⟩ ⟨s23_1r, s23_2r⟩ ⟨es23_1, ls23_1, us23_2, wGY_s23_2⟩
                          obtain rfl : s23_1 = s23_1r := es23_1
                          have ls23_1 : 1 ≤ s23_1.toInt ∧ s23_1.toInt ≤ 1 := ls23_1
                          have is23_1 : TI s23_1 (1) := ti_c ls23_1
                          have us23_2 : Up mu 144 y19_2 y19_2r s23_2 s23_2r := us23_2
                          have ts23_2 := cx_up ty19_2 us23_2
                          have wm_s23_2 := wg_up us23_2 wm_y19_2
                          have wSL_s23_2 := wq_up us23_2 wSL_y19_2
                          have wSU_s23_2 := wq_up us23_2 wSU_y19_2
                          have wSV_s23_2 := wq_up us23_2 wSV_y19_2
                          have wGY_s23_2 : WQ mu s23_2 s23_2r 139 8 8 (fun r x => x14.toInt + r * 16 + x) := wGY_s23_2
                          refine rl_it1 ?_
                          refine rl_bnd (Q := fun (y z : Int32) => y = z ∧ (3 ≤ y.toInt ∧ y.toInt ≤ 3)) ?_ ?_
                          · refine rl_if (fun c22 => ?_) (fun c22 => ?_)
                            · have dc22 := tl_eq i4 tn_0 c22
                              exfalso
                              omega
                            · have dc22 := tl_ne i4 tn_0 c22
                              exact rl_some ⟨rfl, (ti_bd tn_3 (by omega) (by omega))⟩
                          · rintro y26 y26r ⟨ey26, ly26⟩
                            obtain rfl : y26 = y26r := ey26
                            have ly26 : 3 ≤ y26.toInt ∧ y26.toInt ≤ 3 := ly26
                            have iy26 : TI y26 (3) := ti_c ly26
                            refine rl_if (fun c23 => ?_) (fun c23 => ?_)
                            · have dc23 := tl_le iy26 is23_1 c23
                              exfalso
                              omega
                            · have dc23 := tl_nle iy26 is23_1 c23
                              refine rl_bnd (r_chooseWeights ts23_2 ⟨rfl, rfl⟩ is23_1 (by omega) (by omega) wm_s23_2) ?_
                              rintro ⟨y28_1, y28_2⟩ ⟨y28_1r, y28_2r⟩ ⟨uy28_1', ey28_2, ly28_2, vk9_y28_1, vk11_y28_1, vk10_y28_1, vk12_y28_1, vk13_y28_1⟩
                              have uy28_1 : Up mu 144 s23_2 s23_2r y28_1 y28_1r := uy28_1'
                              have ty28_1 := cx_up ts23_2 uy28_1
                              have wm_y28_1 := wg_up uy28_1 wm_s23_2
                              have wSL_y28_1 := wq_up uy28_1 wSL_s23_2
                              have wSU_y28_1 := wq_up uy28_1 wSU_s23_2
                              have wSV_y28_1 := wq_up uy28_1 wSV_s23_2
                              have wGY_y28_1 := wq_up uy28_1 wGY_s23_2
                              obtain rfl : y28_2 = y28_2r := ey28_2
                              dsimp only at ly28_2
                              have iy28_2 : TI y28_2 y28_2.toInt := rfl
                              have n0 : (s23_2.1 144 0).toInt = (M.1 144 0).toInt := by rw [((up_tr (up_tr (up_tr uy1_1 uy2_1) uy19_2) us23_2)).2.2.2.1]
                              have n3 : (s23_2.1 144 3).toInt = (M.1 144 3).toInt := by rw [((up_tr (up_tr (up_tr uy1_1 uy2_1) uy19_2) us23_2)).2.2.2.1]
                              have g0 := h0
                              have g1 := h1.1.1
                              refine rl_bnd (Q := fun (y z : DD) => Up mu 144 y28_1 y28_1r y z ∧ WQ mu y z 139 (8 / 2) (8 / 2) (fun r x => x18.toInt + 0 + r * 8 + x)) ?_ ?_
                              · refine rl_if (fun c24 => ?_) (fun c24 => ?_)
                                · have dc24 := tl_eq is23_1 tn_0 c24
                                  exfalso
                                  omega
                                · have dc24 := tl_ne is23_1 tn_0 c24
                                  refine rl_ltI (av_sub is23_1 tn_1 (by omega) (by omega)) (fun x32 ix32 => ?_)
                                  refine rl_ltI (av_mul tn_64 ix32 (by omega) (by omega)) (fun x33 ix33 => ?_)
                                  refine rl_ltI (av_add ix18 ix33 (by omega) (by omega)) (fun x34 ix34 => ?_)
                                  refine rl_ltI (av_div i3 tn_2 (by omega) (by omega)) (fun x35 ix35 => ?_)
                                  refine rl_bnd (r_blend ty28_1 iy28_2 ix34 tn_8 ix35 (by omega) (by omega) (by omega) (by omega) (by omega) (by omega) (fun h => absurd h (cw_a ly28_2.2 n0 g0)) (fun _ => wq_cs wSU_y28_1 (Int.le_refl _) (Int.le_refl _) (fun r x h1 h2 h3 h4 => by (try dsimp only) <;> omega)) vk9_y28_1 (fun h => vk10_y28_1 ⟨h, by rw [n3]; exact h1.1.1⟩) vk11_y28_1 (fun h => vk12_y28_1 ⟨h, by rw [n3]; exact h1.1.1⟩) vk13_y28_1) ?_
                                  rintro y36 y36r ⟨uy36', vGU_y36'⟩
                                  have uy36 : Up mu 144 y28_1 y28_1r y36 y36r := uy36'
                                  have ty36 := cx_up ty28_1 uy36
                                  have wm_y36 := wg_up uy36 wm_y28_1
                                  have wSL_y36 := wq_up uy36 wSL_y28_1
                                  have wSU_y36 := wq_up uy36 wSU_y28_1
                                  have wSV_y36 := wq_up uy36 wSV_y28_1
                                  have wGY_y36 := wq_up uy36 wGY_y28_1
                                  have wk9_y36 := fun h => ag_up uy36 (vk9_y28_1 h)
                                  have wk11_y36 := fun h => ag_up uy36 (vk11_y28_1 h)
                                  have wk10_y36 := fun h => ag_up uy36 (vk10_y28_1 h)
                                  have wk12_y36 := fun h => ag_up uy36 (vk12_y28_1 h)
                                  have wk13_y36 := fun h => ag_up uy36 (vk13_y28_1 h)
                                  have vGU_y36 : WQ mu y36 y36r 139 (8 / 2) (8 / 2) (fun r x => x18.toInt + 0 + r * 8 + x) := wq_cs vGU_y36' (by omega) (by omega) (fun r x h1 h2 h3 h4 => by (try dsimp only) <;> omega)
                                  exact rl_some ⟨uy36, vGU_y36⟩
                              · rintro y29 y29r ⟨uy29, wGU_y29⟩
                                have uy29 : Up mu 144 y28_1 y28_1r y29 y29r := uy29
                                have ty29 := cx_up ty28_1 uy29
                                have wm_y29 := wg_up uy29 wm_y28_1
                                have wSL_y29 := wq_up uy29 wSL_y28_1
                                have wSU_y29 := wq_up uy29 wSU_y28_1
                                have wSV_y29 := wq_up uy29 wSV_y28_1
                                have wGY_y29 := wq_up uy29 wGY_y28_1
                                have wk9_y29 := fun h => ag_up uy29 (vk9_y28_1 h)
                                have wk11_y29 := fun h => ag_up uy29 (vk11_y28_1 h)
                                have wk10_y29 := fun h => ag_up uy29 (vk10_y28_1 h)
                                have wk12_y29 := fun h => ag_up uy29 (vk12_y28_1 h)
                                have wk13_y29 := fun h => ag_up uy29 (vk13_y28_1 h)
                                have wGU_y29 : WQ mu y29 y29r 139 (8 / 2) (8 / 2) (fun r x => x18.toInt + 0 + r * 8 + x) := wGU_y29
                                refine rl_ltI (av_add is23_1 tn_1 (by omega) (by omega)) (fun x30 ix30 => ?_)
                                refine rl_inlQ (fun (y z : Int32 × DD) => y.1 = z.1 ∧ (2 ≤ y.1.toInt ∧ y.1.toInt ≤ 2) ∧ Up mu 144 y19_2 y19_2r y.2 z.2 ∧ WQ mu y.2 z.2 139 8 8 (fun r x => x14.toInt + r * 16 + x) ∧ WQ mu y.2 z.2 139 (8 / 2) (8 / 2) (fun r x => x18.toInt + 0 + r * 8 + x)) ⟨rfl, (ti_bd ix30 (by omega) (by omega)), (up_tr (up_tr us23_2 uy28_1) uy29), wGY_y29, wGU_y29⟩ ?_
                                rintro ⟨s23_1, s23_2⟩ ⟨s23_1r, s23_2r⟩ ⟨es23_1, ls23_1, us23_2, wGY_s23_2, wGU_s23_2⟩
                                obtain rfl : s23_1 = s23_1r := es23_1
                                have ls23_1 : 2 ≤ s23_1.toInt ∧ s23_1.toInt ≤ 2 := ls23_1
                                have is23_1 : TI s23_1 (2) := ti_c ls23_1
                                have us23_2 : Up mu 144 y19_2 y19_2r s23_2 s23_2r := us23_2
                                have ts23_2 := cx_up ty19_2 us23_2
                                have wm_s23_2 := wg_up us23_2 wm_y19_2
                                have wSL_s23_2 := wq_up us23_2 wSL_y19_2
                                have wSU_s23_2 := wq_up us23_2 wSU_y19_2
                                have wSV_s23_2 := wq_up us23_2 wSV_y19_2
                                have wGY_s23_2 : WQ mu s23_2 s23_2r 139 8 8 (fun r x => x14.toInt + r * 16 + x) := wGY_s23_2
                                have wGU_s23_2 : WQ mu s23_2 s23_2r 139 (8 / 2) (8 / 2) (fun r x => x18.toInt + 0 + r * 8 + x) := wGU_s23_2
                                refine rl_it1 ?_
                                refine rl_bnd (Q := fun (y z : Int32) => y = z ∧ (3 ≤ y.toInt ∧ y.toInt ≤ 3)) ?_ ?_
                                · refine rl_if (fun c25 => ?_) (fun c25 => ?_)
                                  · have dc25 := tl_eq i4 tn_0 c25
                                    exfalso
                                    omega
                                  · have dc25 := tl_ne i4 tn_0 c25
                                    exact rl_some ⟨rfl, (ti_bd tn_3 (by omega) (by omega))⟩
                                · rintro y26 y26r ⟨ey26, ly26⟩
                                  obtain rfl : y26 = y26r := ey26
                                  have ly26 : 3 ≤ y26.toInt ∧ y26.toInt ≤ 3 := ly26
                                  have iy26 : TI y26 (3) := ti_c ly26
                                  refine rl_if (fun c26 => ?_) (fun c26 => ?_)
                                  · have dc26 := tl_le iy26 is23_1 c26
                                    exfalso
                                    omega
                                  · have dc26 := tl_nle iy26 is23_1 c26
                                    refine rl_bnd (r_chooseWeights ts23_2 ⟨rfl, rfl⟩ is23_1 (by omega) (by omega) wm_s23_2) ?_
                                    rintro ⟨y28_1, y28_2⟩ ⟨y28_1r, y28_2r⟩ ⟨uy28_1', ey28_2, ly28_2, vk9_y28_1, vk11_y28_1, vk10_y28_1, vk12_y28_1, vk13_y28_1⟩
                                    have uy28_1 : Up mu 144 s23_2 s23_2r y28_1 y28_1r := uy28_1'
                                    have ty28_1 := cx_up ts23_2 uy28_1
                                    have wm_y28_1 := wg_up uy28_1 wm_s23_2
                                    have wSL_y28_1 := wq_up uy28_1 wSL_s23_2
                                    have wSU_y28_1 := wq_up uy28_1 wSU_s23_2
                                    have wSV_y28_1 := wq_up uy28_1 wSV_s23_2
                                    have wGY_y28_1 := wq_up uy28_1 wGY_s23_2
                                    have wGU_y28_1 := wq_up uy28_1 wGU_s23_2
                                    obtain rfl : y28_2 = y28_2r := ey28_2
                                    dsimp only at ly28_2
                                    have iy28_2 : TI y28_2 y28_2.toInt := rfl
                                    have n0 : (s23_2.1 144 0).toInt = (M.1 144 0).toInt := by rw [((up_tr (up_tr (up_tr uy1_1 uy2_1) uy19_2) us23_2)).2.2.2.1]
                                    have n3 : (s23_2.1 144 3).toInt = (M.1 144 3).toInt := by rw [((up_tr (up_tr (up_tr uy1_1 uy2_1) uy19_2) us23_2)).2.2.2.1]
                                    have g0 := h0
                                    have g1 := h1.1.1
                                    refine rl_bnd (Q := fun (y z : DD) => Up mu 144 y28_1 y28_1r y z ∧ WQ mu y z 139 (8 / 2) (8 / 2) (fun r x => x18.toInt + 64 + r * 8 + x)) ?_ ?_
                                    · refine rl_if (fun c27 => ?_) (fun c27 => ?_)
                                      · have dc27 := tl_eq is23_1 tn_0 c27
                                        exfalso
                                        omega
                                      · have dc27 := tl_ne is23_1 tn_0 c27
                                        refine rl_ltI (av_sub is23_1 tn_1 (by omega) (by omega)) (fun x32 ix32 => ?_)
                                        refine rl_ltI (av_mul tn_64 ix32 (by omega) (by omega)) (fun x33 ix33 => ?_)
                                        refine rl_ltI (av_add ix18 ix33 (by omega) (by omega)) (fun x34 ix34 => ?_)
                                        refine rl_ltI (av_div i3 tn_2 (by omega) (by omega)) (fun x35 ix35 => ?_)
                                        refine rl_bnd (r_blend ty28_1 iy28_2 ix34 tn_8 ix35 (by omega) (by omega) (by omega) (by omega) (by omega) (by omega) (fun h => absurd h (cw_a ly28_2.2 n0 g0)) (fun _ => wq_cs wSV_y28_1 (Int.le_refl _) (Int.le_refl _) (fun r x h1 h2 h3 h4 => by (try dsimp only) <;> omega)) vk9_y28_1 (fun h => vk10_y28_1 ⟨h, by rw [n3]; exact h1.1.1⟩) vk11_y28_1 (fun h => vk12_y28_1 ⟨h, by rw [n3]; exact h1.1.1⟩) vk13_y28_1) ?_
                                        rintro y36 y36r ⟨uy36', vGV_y36'⟩
                                        have uy36 : Up mu 144 y28_1 y28_1r y36 y36r := uy36'
                                        have ty36 := cx_up ty28_1 uy36
                                        have wm_y36 := wg_up uy36 wm_y28_1
                                        have wSL_y36 := wq_up uy36 wSL_y28_1
                                        have wSU_y36 := wq_up uy36 wSU_y28_1
                                        have wSV_y36 := wq_up uy36 wSV_y28_1
                                        have wGY_y36 := wq_up uy36 wGY_y28_1
                                        have wGU_y36 := wq_up uy36 wGU_y28_1
                                        have wk9_y36 := fun h => ag_up uy36 (vk9_y28_1 h)
                                        have wk11_y36 := fun h => ag_up uy36 (vk11_y28_1 h)
                                        have wk10_y36 := fun h => ag_up uy36 (vk10_y28_1 h)
                                        have wk12_y36 := fun h => ag_up uy36 (vk12_y28_1 h)
                                        have wk13_y36 := fun h => ag_up uy36 (vk13_y28_1 h)
                                        have vGV_y36 : WQ mu y36 y36r 139 (8 / 2) (8 / 2) (fun r x => x18.toInt + 64 + r * 8 + x) := wq_cs vGV_y36' (by omega) (by omega) (fun r x h1 h2 h3 h4 => by (try dsimp only) <;> omega)
                                        exact rl_some ⟨uy36, vGV_y36⟩
                                    · rintro y29 y29r ⟨uy29, wGV_y29⟩
                                      have uy29 : Up mu 144 y28_1 y28_1r y29 y29r := uy29
                                      have ty29 := cx_up ty28_1 uy29
                                      have wm_y29 := wg_up uy29 wm_y28_1
                                      have wSL_y29 := wq_up uy29 wSL_y28_1
                                      have wSU_y29 := wq_up uy29 wSU_y28_1
                                      have wSV_y29 := wq_up uy29 wSV_y28_1
                                      have wGY_y29 := wq_up uy29 wGY_y28_1
                                      have wGU_y29 := wq_up uy29 wGU_y28_1
                                      have wk9_y29 := fun h => ag_up uy29 (vk9_y28_1 h)
                                      have wk11_y29 := fun h => ag_up uy29 (vk11_y28_1 h)
                                      have wk10_y29 := fun h => ag_up uy29 (vk10_y28_1 h)
                                      have wk12_y29 := fun h => ag_up uy29 (vk12_y28_1 h)
                                      have wk13_y29 := fun h => ag_up uy29 (vk13_y28_1 h)
                                      have wGV_y29 : WQ mu y29 y29r 139 (8 / 2) (8 / 2) (fun r x => x18.toInt + 64 + r * 8 + x) := wGV_y29
                                      refine rl_ltI (av_add is23_1 tn_1 (by omega) (by omega)) (fun x30 ix30 => ?_)
                                      refine rl_inlQ (fun (y z : Int32 × DD) => y.1 = z.1 ∧ (3 ≤ y.1.toInt ∧ y.1.toInt ≤ 3) ∧ Up mu 144 y19_2 y19_2r y.2 z.2 ∧ WQ mu y.2 z.2 139 8 8 (fun r x => x14.toInt + r * 16 + x) ∧ WQ mu y.2 z.2 139 (8 / 2) (8 / 2) (fun r x => x18.toInt + 0 + r * 8 + x) ∧ WQ mu y.2 z.2 139 (8 / 2) (8 / 2) (fun r x => x18.toInt + 64 + r * 8 + x)) ⟨rfl, (ti_bd ix30 (by omega) (by omega)), (up_tr (up_tr us23_2 uy28_1) uy29), wGY_y29, wGU_y29, wGV_y29⟩ ?_
                                      rintro ⟨s23_1, s23_2⟩ ⟨s23_1r, s23_2r⟩ ⟨es23_1, ls23_1, us23_2, wGY_s23_2, wGU_s23_2, wGV_s23_2⟩
                                      obtain rfl : s23_1 = s23_1r := es23_1
                                      have ls23_1 : 3 ≤ s23_1.toInt ∧ s23_1.toInt ≤ 3 := ls23_1
                                      have is23_1 : TI s23_1 (3) := ti_c ls23_1
                                      have us23_2 : Up mu 144 y19_2 y19_2r s23_2 s23_2r := us23_2
                                      have ts23_2 := cx_up ty19_2 us23_2
                                      have wm_s23_2 := wg_up us23_2 wm_y19_2
                                      have wSL_s23_2 := wq_up us23_2 wSL_y19_2
                                      have wSU_s23_2 := wq_up us23_2 wSU_y19_2
                                      have wSV_s23_2 := wq_up us23_2 wSV_y19_2
                                      have wGY_s23_2 : WQ mu s23_2 s23_2r 139 8 8 (fun r x => x14.toInt + r * 16 + x) := wGY_s23_2
                                      have wGU_s23_2 : WQ mu s23_2 s23_2r 139 (8 / 2) (8 / 2) (fun r x => x18.toInt + 0 + r * 8 + x) := wGU_s23_2
                                      have wGV_s23_2 : WQ mu s23_2 s23_2r 139 (8 / 2) (8 / 2) (fun r x => x18.toInt + 64 + r * 8 + x) := wGV_s23_2
                                      refine rl_it1 ?_
                                      refine rl_bnd (Q := fun (y z : Int32) => y = z ∧ (3 ≤ y.toInt ∧ y.toInt ≤ 3)) ?_ ?_
                                      · refine rl_if (fun c28 => ?_) (fun c28 => ?_)
                                        · have dc28 := tl_eq i4 tn_0 c28
                                          exfalso
                                          omega
                                        · have dc28 := tl_ne i4 tn_0 c28
                                          exact rl_some ⟨rfl, (ti_bd tn_3 (by omega) (by omega))⟩
                                      · rintro y26 y26r ⟨ey26, ly26⟩
                                        obtain rfl : y26 = y26r := ey26
                                        have ly26 : 3 ≤ y26.toInt ∧ y26.toInt ≤ 3 := ly26
                                        have iy26 : TI y26 (3) := ti_c ly26
                                        refine rl_if (fun c29 => ?_) (fun c29 => ?_)
                                        · have dc29 := tl_le iy26 is23_1 c29
                                          refine rl_inrQ (fun (y z : Int32 × DD) => y.1 = z.1 ∧ Up mu 144 y19_2 y19_2r y.2 z.2 ∧ WQ mu y.2 z.2 139 8 8 (fun r x => x14.toInt + r * 16 + x) ∧ WQ mu y.2 z.2 139 (8 / 2) (8 / 2) (fun r x => x18.toInt + 0 + r * 8 + x) ∧ WQ mu y.2 z.2 139 (8 / 2) (8 / 2) (fun r x => x18.toInt + 64 + r * 8 + x)) ⟨rfl, us23_2, wGY_s23_2, wGU_s23_2, wGV_s23_2⟩ ?_
                                          rintro ⟨y22_1, y22_2⟩ ⟨y22_1r, y22_2r⟩ ⟨ey22_1, uy22_2, wGY_y22_2, wGU_y22_2, wGV_y22_2⟩
                                          obtain rfl : y22_1 = y22_1r := ey22_1
                                          have uy22_2 : Up mu 144 y19_2 y19_2r y22_2 y22_2r := uy22_2
                                          have ty22_2 := cx_up ty19_2 uy22_2
                                          have wm_y22_2 := wg_up uy22_2 wm_y19_2
                                          have wSL_y22_2 := wq_up uy22_2 wSL_y19_2
                                          have wSU_y22_2 := wq_up uy22_2 wSU_y19_2
                                          have wSV_y22_2 := wq_up uy22_2 wSV_y19_2
                                          have wGY_y22_2 : WQ mu y22_2 y22_2r 139 8 8 (fun r x => x14.toInt + r * 16 + x) := wGY_y22_2
                                          have wGU_y22_2 : WQ mu y22_2 y22_2r 139 (8 / 2) (8 / 2) (fun r x => x18.toInt + 0 + r * 8 + x) := wGU_y22_2
                                          have wGV_y22_2 : WQ mu y22_2 y22_2r 139 (8 / 2) (8 / 2) (fun r x => x18.toInt + 64 + r * 8 + x) := wGV_y22_2
                                          exact rl_some ⟨(up_tr (up_tr (up_tr uy1_1 uy2_1) uy19_2) uy22_2), (wq_cs wGY_y22_2 (Int.le_refl _) (Int.le_refl _) (fun r x h1 h2 h3 h4 => by (try dsimp only) <;> omega)), (wq_cs wGU_y22_2 (Int.le_refl _) (Int.le_refl _) (fun r x h1 h2 h3 h4 => by (try dsimp only) <;> omega)), (wq_cs wGV_y22_2 (Int.le_refl _) (Int.le_refl _) (fun r x h1 h2 h3 h4 => by (try dsimp only) <;> omega))⟩
                                        · have dc29 := tl_nle iy26 is23_1 c29
                                          exfalso
                                          omega
                  · have dc18 := tl_nle tn_2 is20_1 c18
                    exfalso
                    omega
  · rcases hv with ⟨h0, h1⟩ | ⟨h0, h1⟩ | ⟨h0, h1⟩
    · refine rl_bnd (r_pieceX t i2 (by omega) (by omega)) ?_
      rintro ⟨y1_1, y1_2⟩ ⟨y1_1r, y1_2r⟩ ⟨uy1_1', ey1_2, iy1_2⟩
      have uy1_1 : Up mu 144 M N y1_1 y1_1r := uy1_1'
      have ty1_1 := cx_up t uy1_1
      have wm_y1_1 := wg_up uy1_1 hm
      obtain rfl : y1_2 = y1_2r := ey1_2
      refine rl_bnd (r_pieceY ty1_1 i2 (by omega) (by omega)) ?_
      rintro ⟨y2_1, y2_2⟩ ⟨y2_1r, y2_2r⟩ ⟨uy2_1', ey2_2, iy2_2⟩
      have uy2_1 : Up mu 144 y1_1 y1_1r y2_1 y2_1r := uy2_1'
      have ty2_1 := cx_up ty1_1 uy2_1
      have wm_y2_1 := wg_up uy2_1 wm_y1_1
      obtain rfl : y2_2 = y2_2r := ey2_2
      refine rl_dr (cx_U ty2_1) ⟨rfl, rfl⟩ (fun gb3 => ?_)
      refine rl_dr (cx_U ty2_1) (rx_p ty2_1) (fun gb4 => ?_)
      refine rl_rd (cx_q (j := 0) (k := 1) ty2_1 (cx_p t) rfl) (fun x5 => ?_)
      refine rl_chk (fun h => h) (fun k1 => ?_)
      refine rl_ltA (fun x6 => ?_)
      refine rl_ltA (fun x7 => ?_)
      refine rl_ltA (fun x8 => ?_)
      refine rl_rd (cx_q (j := 0) (k := 1) ty2_1 (cx_p t) rfl) (fun x9 => ?_)
      refine rl_chk (fun h => h) (fun k2 => ?_)
      refine rl_ltA (fun x10 => ?_)
      refine rl_ltA (fun x11 => ?_)
      refine rl_ltA (fun x12 => ?_)
      refine rl_ltI (av_mul tn_16 iy2_2 (by omega) (by omega)) (fun x13 ix13 => ?_)
      refine rl_ltI (av_add ix13 iy1_2 (by omega) (by omega)) (fun x14 ix14 => ?_)
      have kx14 : x14.toInt = _ := ix14
      refine rl_ltI (av_mul tn_4 iy2_2 (by omega) (by omega)) (fun x15 ix15 => ?_)
      refine rl_ltI (av_add tn_256 ix15 (by omega) (by omega)) (fun x16 ix16 => ?_)
      refine rl_ltI (av_div iy1_2 tn_2 (by omega) (by omega)) (fun x17 ix17 => ?_)
      refine rl_ltI (av_add ix16 ix17 (by omega) (by omega)) (fun x18 ix18 => ?_)
      have kx18 : x18.toInt = _ := ix18
      refine rl_bndK ?_
      refine rl_itQ (fun (y z : Int32 × DD) => y.1 = z.1 ∧ (0 ≤ y.1.toInt ∧ y.1.toInt ≤ 0) ∧ Up mu 144 y2_1 y2_1r y.2 z.2) ⟨rfl, (ti_bd tn_0 (by omega) (by omega)), (up_0 mu (κ := 144) _ _)⟩ ?_
      rintro ⟨s20_1, s20_2⟩ ⟨s20_1r, s20_2r⟩ ⟨es20_1, ls20_1, us20_2⟩
      obtain rfl : s20_1 = s20_1r := es20_1
      have ls20_1 : 0 ≤ s20_1.toInt ∧ s20_1.toInt ≤ 0 := ls20_1
      have is20_1 : TI s20_1 (0) := ti_c ls20_1
      have us20_2 : Up mu 144 y2_1 y2_1r s20_2 s20_2r := us20_2
      have ts20_2 := cx_up ty2_1 us20_2
      have wm_s20_2 := wg_up us20_2 wm_y2_1
      refine rl_it1 ?_
      refine rl_if (fun c3 => ?_) (fun c3 => ?_)
      · have dc3 := tl_le tn_2 is20_1 c3
        exfalso
        omega
      · have dc3 := tl_nle tn_2 is20_1 c3
        refine rl_ltI (av_mul tn_3 is20_1 (by omega) (by omega)) (fun x41 ix41 => ?_)
        refine rl_dr (cx_U ts20_2) (rx_c (a := 138) (k := 5) (b := 144) ts20_2 (Or.inr (Or.inl rfl)) rfl (by decide)) (fun gb42 => ?_)
        refine rl_chk (chkl (cx_U ts20_2) gb42) (fun k4 => ?_)
        refine rl_rdE (wg_id wm_s20_2 ix41 (by omega) (by omega)) (fun x43 ex43 => ?_)
        have mx43 : x43.toInt = (M.1 144 0).toInt := by rw [ex43, ti_n ix41, ((up_tr (up_tr uy1_1 uy2_1) us20_2)).2.2.2.1]; rfl
        have lx43 : 0 ≤ x43.toInt ∧ x43.toInt ≤ 7 := by rw [mx43]; exact h0.1
        refine rl_bnd (Q := fun (y z : Option Nat) => (∃ q, q ∈ L ∧ (y = some q ∧ z = some (mu q)))) ?_ ?_
        · refine rl_if (fun c5 => ?_) (fun c5 => ?_)
          · have dc5 := tl_lt (rfl : TI x43 x43.toInt) tn_0 c5
            exfalso
            omega
          · have dc5 := tl_nlt (rfl : TI x43 x43.toInt) tn_0 c5
            refine rl_bnd (Q := fun (y z : Option Nat) => (∃ q, q ∈ L ∧ (y = some q ∧ z = some (mu q)))) ?_ ?_
            · refine rl_if (fun c6 => ?_) (fun c6 => ?_)
              · have dc6 := tl_le (rfl : TI x43 x43.toInt) tn_8 c6
                refine rl_ltI (av_mul tn_9 is20_1 (by omega) (by omega)) (fun x70 ix70 => ?_)
                refine rl_ltI (av_add ix70 (rfl : TI x43 x43.toInt) (by omega) (by omega)) (fun x71 ix71 => ?_)
                refine rl_dr (cx_U ts20_2) (rx_c (a := 125) (k := 3) (b := 126) ts20_2 (Or.inl rfl) rfl (by decide)) (fun gb72 => ?_)
                refine rl_chk (chkl (cx_U ts20_2) gb72) (fun k7 => ?_)
                exact rl_some (or_ne (rx_l ts20_2 _) (by rw [((up_tr (up_tr uy1_1 uy2_1) us20_2)).1.1, ti_n ix71, mx43]; exact en_ix h0 0 (by omega)))
              · have dc6 := tl_nle (rfl : TI x43 x43.toInt) tn_8 c6
                exfalso
                omega
            · rintro y68 y68r ⟨qy68, hqy68, oy68⟩
              exact rl_some ⟨qy68, hqy68, oy68⟩
        · rintro y44 y44r ⟨qy44, hqy44, oy44⟩
          refine rl_bnd (Q := fun (y z : DD) => Up mu 144 s20_2 s20_2r y z ∧ WQ mu y z 140 16 16 (fun r x => x14.toInt + r * 16 + x) ∧ WQ mu y z 140 (16 / 2) (16 / 2) (fun r x => x18.toInt + 0 + r * 8 + x) ∧ WQ mu y z 140 (16 / 2) (16 / 2) (fun r x => x18.toInt + 64 + r * 8 + x)) ?_ ?_
          · refine rl_ifD (or_iff (mu := mu) (L := L) (Or.inr ⟨qy44, hqy44, oy44⟩)) (fun c8 => ?_) (fun c8 => ?_)
            · exact absurd c8 (by rw [oy44.1]; exact Option.some_ne_none _)
            · refine rl_ltA (fun x48 => ?_)
              refine rl_ltI (av_mul tn_3 is20_1 (by omega) (by omega)) (fun x49 ix49 => ?_)
              refine rl_ltI (av_add ix49 tn_1 (by omega) (by omega)) (fun x50 ix50 => ?_)
              refine rl_chk (chkl (cx_U ts20_2) gb42) (fun k9 => ?_)
              refine rl_rd (wg_id wm_s20_2 ix50 (by omega) (by omega)) (fun x51 => ?_)
              refine rl_ltA (fun x52 => ?_)
              refine rl_ltA (fun x53 => ?_)
              refine rl_ltI (av_mul tn_3 is20_1 (by omega) (by omega)) (fun x54 ix54 => ?_)
              refine rl_ltI (av_add ix54 tn_2 (by omega) (by omega)) (fun x55 ix55 => ?_)
              refine rl_chk (chkl (cx_U ts20_2) gb42) (fun k10 => ?_)
              refine rl_rd (wg_id wm_s20_2 ix55 (by omega) (by omega)) (fun x56 => ?_)
              refine rl_ltA (fun x57 => ?_)
              refine rl_bnd (Q := fun (y z : Option Nat) => (y = some 140 ∧ z = some (mu 140))) ?_ ?_
              · refine rl_if (fun c11 => ?_) (fun c11 => ?_)
                · have dc11 := tl_eq is20_1 tn_0 c11
                  exact rl_some (rx_c (a := 138) (k := 1) (b := 140) ts20_2 (Or.inr (Or.inl rfl)) rfl (by decide))
                · have dc11 := tl_ne is20_1 tn_0 c11
                  exfalso
                  omega
              · rintro y58 y58r oy58
                refine rl_bnd (r_predictLuma ts20_2 oy44 hqy44 (rfl : TI x52 x52.toInt) (rfl : TI x57 x57.toInt) i3 oy58 (Or.inl rfl) ix14 (by omega) (by omega) (by omega)) ?_
                rintro y59 y59r ⟨uy59', vFL_y59'⟩
                have uy59 : Up mu 144 s20_2 s20_2r y59 y59r := uy59'
                have ty59 := cx_up ts20_2 uy59
                have wm_y59 := wg_up uy59 wm_s20_2
                have vFL_y59 : WQ mu y59 y59r 140 16 16 (fun r x => x14.toInt + r * 16 + x) := wg_wq vFL_y59' (fun r x => r * 16 + x) (fun r x h1 h2 h3 h4 => by (try dsimp only); refine ⟨⟨by omega, by omega⟩, by omega⟩)
                refine rl_bnd (Q := fun (y z : DD) => Up mu 144 y59 y59r y z ∧ WQ mu y z 140 (16 / 2) (16 / 2) (fun r x => x18.toInt + 0 + r * 8 + x) ∧ WQ mu y z 140 (16 / 2) (16 / 2) (fun r x => x18.toInt + 64 + r * 8 + x)) ?_ ?_
                · refine rl_if (fun c12 => ?_) (fun c12 => ?_)
                  · have dc12 := tl_eq i4 tn_0 c12
                    exfalso
                    omega
                  · have dc12 := tl_ne i4 tn_0 c12
                    refine rl_ltI (av_div i3 tn_2 (by omega) (by omega)) (fun x62 ix62 => ?_)
                    refine rl_bnd (Q := fun (y z : Option Nat) => (y = some 140 ∧ z = some (mu 140))) ?_ ?_
                    · refine rl_if (fun c13 => ?_) (fun c13 => ?_)
                      · have dc13 := tl_eq is20_1 tn_0 c13
                        exact rl_some (rx_c (a := 138) (k := 1) (b := 140) ty59 (Or.inr (Or.inl rfl)) rfl (by decide))
                      · have dc13 := tl_ne is20_1 tn_0 c13
                        exfalso
                        omega
                    · rintro y63 y63r oy63
                      refine rl_bnd (r_predictColours ty59 oy44 hqy44 (rfl : TI x52 x52.toInt) (rfl : TI x57 x57.toInt) ix62 oy63 (Or.inl rfl) ix18 (by omega) (by omega) (by omega)) ?_
                      rintro y64 y64r ⟨uy64', vFU_y64', vFV_y64'⟩
                      have uy64 : Up mu 144 y59 y59r y64 y64r := uy64'
                      have ty64 := cx_up ty59 uy64
                      have wm_y64 := wg_up uy64 wm_y59
                      have wFL_y64 := wq_up uy64 vFL_y59
                      have vFU_y64 : WQ mu y64 y64r 140 (16 / 2) (16 / 2) (fun r x => x18.toInt + 0 + r * 8 + x) := wg_wq vFU_y64' (fun r x => r * (16 / 2) + x) (fun r x h1 h2 h3 h4 => by (try dsimp only); refine ⟨⟨by omega, by omega⟩, by omega⟩)
                      have vFV_y64 : WQ mu y64 y64r 140 (16 / 2) (16 / 2) (fun r x => x18.toInt + 64 + r * 8 + x) := wg_wq vFV_y64' (fun r x => r * (16 / 2) + x) (fun r x h1 h2 h3 h4 => by (try dsimp only); refine ⟨⟨by omega, by omega⟩, by omega⟩)
                      exact rl_some ⟨uy64, vFU_y64, vFV_y64⟩
                · rintro y60 y60r ⟨uy60, wFU_y60, wFV_y60⟩
                  have uy60 : Up mu 144 y59 y59r y60 y60r := uy60
                  have ty60 := cx_up ty59 uy60
                  have wm_y60 := wg_up uy60 wm_y59
                  have wFL_y60 := wq_up uy60 vFL_y59
                  have wFU_y60 : WQ mu y60 y60r 140 (16 / 2) (16 / 2) (fun r x => x18.toInt + 0 + r * 8 + x) := wFU_y60
                  have wFV_y60 : WQ mu y60 y60r 140 (16 / 2) (16 / 2) (fun r x => x18.toInt + 64 + r * 8 + x) := wFV_y60
                  exact rl_some ⟨(up_tr uy59 uy60), wFL_y60, wFU_y60, wFV_y60⟩
          · rintro y45 y45r ⟨uy45, wFL_y45, wFU_y45, wFV_y45⟩
            have uy45 : Up mu 144 s20_2 s20_2r y45 y45r := uy45
            have ty45 := cx_up ts20_2 uy45
            have wm_y45 := wg_up uy45 wm_s20_2
            have wFL_y45 : WQ mu y45 y45r 140 16 16 (fun r x => x14.toInt + r * 16 + x) := wFL_y45
            have wFU_y45 : WQ mu y45 y45r 140 (16 / 2) (16 / 2) (fun r x => x18.toInt + 0 + r * 8 + x) := wFU_y45
            have wFV_y45 : WQ mu y45 y45r 140 (16 / 2) (16 / 2) (fun r x => x18.toInt + 64 + r * 8 + x) := wFV_y45
            refine rl_ltI (av_add is20_1 tn_1 (by omega) (by omega)) (fun x46 ix46 => ?_)
            refine rl_inlQ (fun (y z : Int32 × DD) => y.1 = z.1 ∧ (1 ≤ y.1.toInt ∧ y.1.toInt ≤ 1) ∧ Up mu 144 y2_1 y2_1r y.2 z.2 ∧ WQ mu y.2 z.2 140 16 16 (fun r x => x14.toInt + r * 16 + x) ∧ WQ mu y.2 z.2 140 (16 / 2) (16 / 2) (fun r x => x18.toInt + 0 + r * 8 + x) ∧ WQ mu y.2 z.2 140 (16 / 2) (16 / 2) (fun r x => x18.toInt + 64 + r * 8 + x)) ⟨rfl, (ti_bd ix46 (by omega) (by omega)), (up_tr us20_2 uy45), wFL_y45, wFU_y45, wFV_y45⟩ ?_
            rintro ⟨s20_1, s20_2⟩ ⟨s20_1r, s20_2r⟩ ⟨es20_1, ls20_1, us20_2, wFL_s20_2, wFU_s20_2, wFV_s20_2⟩
            obtain rfl : s20_1 = s20_1r := es20_1
            have ls20_1 : 1 ≤ s20_1.toInt ∧ s20_1.toInt ≤ 1 := ls20_1
            have is20_1 : TI s20_1 (1) := ti_c ls20_1
            have us20_2 : Up mu 144 y2_1 y2_1r s20_2 s20_2r := us20_2
            have ts20_2 := cx_up ty2_1 us20_2
            have wm_s20_2 := wg_up us20_2 wm_y2_1
            have wFL_s20_2 : WQ mu s20_2 s20_2r 140 16 16 (fun r x => x14.toInt + r * 16 + x) := wFL_s20_2
            have wFU_s20_2 : WQ mu s20_2 s20_2r 140 (16 / 2) (16 / 2) (fun r x => x18.toInt + 0 + r * 8 + x) := wFU_s20_2
            have wFV_s20_2 : WQ mu s20_2 s20_2r 140 (16 / 2) (16 / 2) (fun r x => x18.toInt + 64 + r * 8 + x) := wFV_s20_2
            refine rl_it1 ?_
            refine rl_if (fun c14 => ?_) (fun c14 => ?_)
            · have dc14 := tl_le tn_2 is20_1 c14
              exfalso
              omega
            · have dc14 := tl_nle tn_2 is20_1 c14
              refine rl_ltI (av_mul tn_3 is20_1 (by omega) (by omega)) (fun x41 ix41 => ?_)
              refine rl_dr (cx_U ts20_2) (rx_c (a := 138) (k := 5) (b := 144) ts20_2 (Or.inr (Or.inl rfl)) rfl (by decide)) (fun gb42 => ?_)
              refine rl_chk (chkl (cx_U ts20_2) gb42) (fun k15 => ?_)
              refine rl_rdE (wg_id wm_s20_2 ix41 (by omega) (by omega)) (fun x43 ex43 => ?_)
              have mx43 : x43.toInt = (M.1 144 3).toInt := by rw [ex43, ti_n ix41, ((up_tr (up_tr uy1_1 uy2_1) us20_2)).2.2.2.1]; rfl
              have lx43 : 0 ≤ x43.toInt ∧ x43.toInt ≤ 7 := by rw [mx43]; exact h1.1
              refine rl_bnd (Q := fun (y z : Option Nat) => (∃ q, q ∈ L ∧ (y = some q ∧ z = some (mu q)))) ?_ ?_
              · refine rl_if (fun c16 => ?_) (fun c16 => ?_)
                · have dc16 := tl_lt (rfl : TI x43 x43.toInt) tn_0 c16
                  exfalso
                  omega
                · have dc16 := tl_nlt (rfl : TI x43 x43.toInt) tn_0 c16
                  refine rl_bnd (Q := fun (y z : Option Nat) => (∃ q, q ∈ L ∧ (y = some q ∧ z = some (mu q)))) ?_ ?_
                  · refine rl_if (fun c17 => ?_) (fun c17 => ?_)
                    · have dc17 := tl_le (rfl : TI x43 x43.toInt) tn_8 c17
                      refine rl_ltI (av_mul tn_9 is20_1 (by omega) (by omega)) (fun x70 ix70 => ?_)
                      refine rl_ltI (av_add ix70 (rfl : TI x43 x43.toInt) (by omega) (by omega)) (fun x71 ix71 => ?_)
                      refine rl_dr (cx_U ts20_2) (rx_c (a := 125) (k := 3) (b := 126) ts20_2 (Or.inl rfl) rfl (by decide)) (fun gb72 => ?_)
                      refine rl_chk (chkl (cx_U ts20_2) gb72) (fun k18 => ?_)
                      exact rl_some (or_ne (rx_l ts20_2 _) (by rw [((up_tr (up_tr uy1_1 uy2_1) us20_2)).1.1, ti_n ix71, mx43]; exact en_ix h1 1 (by omega)))
                    · have dc17 := tl_nle (rfl : TI x43 x43.toInt) tn_8 c17
                      exfalso
                      omega
                  · rintro y68 y68r ⟨qy68, hqy68, oy68⟩
                    exact rl_some ⟨qy68, hqy68, oy68⟩
              · rintro y44 y44r ⟨qy44, hqy44, oy44⟩
                refine rl_bnd (Q := fun (y z : DD) => Up mu 144 s20_2 s20_2r y z ∧ WQ mu y z 141 16 16 (fun r x => x14.toInt + r * 16 + x) ∧ WQ mu y z 141 (16 / 2) (16 / 2) (fun r x => x18.toInt + 0 + r * 8 + x) ∧ WQ mu y z 141 (16 / 2) (16 / 2) (fun r x => x18.toInt + 64 + r * 8 + x)) ?_ ?_
                · refine rl_ifD (or_iff (mu := mu) (L := L) (Or.inr ⟨qy44, hqy44, oy44⟩)) (fun c19 => ?_) (fun c19 => ?_)
                  · exact absurd c19 (by rw [oy44.1]; exact Option.some_ne_none _)
                  · refine rl_ltA (fun x48 => ?_)
                    refine rl_ltI (av_mul tn_3 is20_1 (by omega) (by omega)) (fun x49 ix49 => ?_)
                    refine rl_ltI (av_add ix49 tn_1 (by omega) (by omega)) (fun x50 ix50 => ?_)
                    refine rl_chk (chkl (cx_U ts20_2) gb42) (fun k20 => ?_)
                    refine rl_rd (wg_id wm_s20_2 ix50 (by omega) (by omega)) (fun x51 => ?_)
                    refine rl_ltA (fun x52 => ?_)
                    refine rl_ltA (fun x53 => ?_)
                    refine rl_ltI (av_mul tn_3 is20_1 (by omega) (by omega)) (fun x54 ix54 => ?_)
                    refine rl_ltI (av_add ix54 tn_2 (by omega) (by omega)) (fun x55 ix55 => ?_)
                    refine rl_chk (chkl (cx_U ts20_2) gb42) (fun k21 => ?_)
                    refine rl_rd (wg_id wm_s20_2 ix55 (by omega) (by omega)) (fun x56 => ?_)
                    refine rl_ltA (fun x57 => ?_)
                    refine rl_bnd (Q := fun (y z : Option Nat) => (y = some 141 ∧ z = some (mu 141))) ?_ ?_
                    · refine rl_if (fun c22 => ?_) (fun c22 => ?_)
                      · have dc22 := tl_eq is20_1 tn_0 c22
                        exfalso
                        omega
                      · have dc22 := tl_ne is20_1 tn_0 c22
                        exact rl_some (rx_c (a := 138) (k := 2) (b := 141) ts20_2 (Or.inr (Or.inl rfl)) rfl (by decide))
                    · rintro y58 y58r oy58
                      refine rl_bnd (r_predictLuma ts20_2 oy44 hqy44 (rfl : TI x52 x52.toInt) (rfl : TI x57 x57.toInt) i3 oy58 (Or.inr rfl) ix14 (by omega) (by omega) (by omega)) ?_
                      rintro y59 y59r ⟨uy59', vSL_y59'⟩
                      have uy59 : Up mu 144 s20_2 s20_2r y59 y59r := uy59'
                      have ty59 := cx_up ts20_2 uy59
                      have wm_y59 := wg_up uy59 wm_s20_2
                      have wFL_y59 := wq_up uy59 wFL_s20_2
                      have wFU_y59 := wq_up uy59 wFU_s20_2
                      have wFV_y59 := wq_up uy59 wFV_s20_2
                      have vSL_y59 : WQ mu y59 y59r 141 16 16 (fun r x => x14.toInt + r * 16 + x) := wg_wq vSL_y59' (fun r x => r * 16 + x) (fun r x h1 h2 h3 h4 => by (try dsimp only); refine ⟨⟨by omega, by omega⟩, by omega⟩)
                      refine rl_bnd (Q := fun (y z : DD) => Up mu 144 y59 y59r y z ∧ WQ mu y z 141 (16 / 2) (16 / 2) (fun r x => x18.toInt + 0 + r * 8 + x) ∧ WQ mu y z 141 (16 / 2) (16 / 2) (fun r x => x18.toInt + 64 + r * 8 + x)) ?_ ?_
                      · refine rl_if (fun c23 => ?_) (fun c23 => ?_)
                        · have dc23 := tl_eq i4 tn_0 c23
                          exfalso
                          omega
                        · have dc23 := tl_ne i4 tn_0 c23
                          refine rl_ltI (av_div i3 tn_2 (by omega) (by omega)) (fun x62 ix62 => ?_)
                          refine rl_bnd (Q := fun (y z : Option Nat) => (y = some 141 ∧ z = some (mu 141))) ?_ ?_
                          · refine rl_if (fun c24 => ?_) (fun c24 => ?_)
                            · have dc24 := tl_eq is20_1 tn_0 c24
                              exfalso
                              omega
                            · have dc24 := tl_ne is20_1 tn_0 c24
                              exact rl_some (rx_c (a := 138) (k := 2) (b := 141) ty59 (Or.inr (Or.inl rfl)) rfl (by decide))
                          · rintro y63 y63r oy63
                            refine rl_bnd (r_predictColours ty59 oy44 hqy44 (rfl : TI x52 x52.toInt) (rfl : TI x57 x57.toInt) ix62 oy63 (Or.inr rfl) ix18 (by omega) (by omega) (by omega)) ?_
                            rintro y64 y64r ⟨uy64', vSU_y64', vSV_y64'⟩
                            have uy64 : Up mu 144 y59 y59r y64 y64r := uy64'
                            have ty64 := cx_up ty59 uy64
                            have wm_y64 := wg_up uy64 wm_y59
                            have wFL_y64 := wq_up uy64 wFL_y59
                            have wFU_y64 := wq_up uy64 wFU_y59
                            have wFV_y64 := wq_up uy64 wFV_y59
                            have wSL_y64 := wq_up uy64 vSL_y59
                            have vSU_y64 : WQ mu y64 y64r 141 (16 / 2) (16 / 2) (fun r x => x18.toInt + 0 + r * 8 + x) := wg_wq vSU_y64' (fun r x => r * (16 / 2) + x) (fun r x h1 h2 h3 h4 => by (try dsimp only); refine ⟨⟨by omega, by omega⟩, by omega⟩)
                            have vSV_y64 : WQ mu y64 y64r 141 (16 / 2) (16 / 2) (fun r x => x18.toInt + 64 + r * 8 + x) := wg_wq vSV_y64' (fun r x => r * (16 / 2) + x) (fun r x h1 h2 h3 h4 => by (try dsimp only); refine ⟨⟨by omega, by omega⟩, by omega⟩)
                            exact rl_some ⟨uy64, vSU_y64, vSV_y64⟩
                      · rintro y60 y60r ⟨uy60, wSU_y60, wSV_y60⟩
                        have uy60 : Up mu 144 y59 y59r y60 y60r := uy60
                        have ty60 := cx_up ty59 uy60
                        have wm_y60 := wg_up uy60 wm_y59
                        have wFL_y60 := wq_up uy60 wFL_y59
                        have wFU_y60 := wq_up uy60 wFU_y59
                        have wFV_y60 := wq_up uy60 wFV_y59
                        have wSL_y60 := wq_up uy60 vSL_y59
                        have wSU_y60 : WQ mu y60 y60r 141 (16 / 2) (16 / 2) (fun r x => x18.toInt + 0 + r * 8 + x) := wSU_y60
                        have wSV_y60 : WQ mu y60 y60r 141 (16 / 2) (16 / 2) (fun r x => x18.toInt + 64 + r * 8 + x) := wSV_y60
                        exact rl_some ⟨(up_tr uy59 uy60), wSL_y60, wSU_y60, wSV_y60⟩
                · rintro y45 y45r ⟨uy45, wSL_y45, wSU_y45, wSV_y45⟩
                  have uy45 : Up mu 144 s20_2 s20_2r y45 y45r := uy45
                  have ty45 := cx_up ts20_2 uy45
                  have wm_y45 := wg_up uy45 wm_s20_2
                  have wFL_y45 := wq_up uy45 wFL_s20_2
                  have wFU_y45 := wq_up uy45 wFU_s20_2
                  have wFV_y45 := wq_up uy45 wFV_s20_2
                  have wSL_y45 : WQ mu y45 y45r 141 16 16 (fun r x => x14.toInt + r * 16 + x) := wSL_y45
                  have wSU_y45 : WQ mu y45 y45r 141 (16 / 2) (16 / 2) (fun r x => x18.toInt + 0 + r * 8 + x) := wSU_y45
                  have wSV_y45 : WQ mu y45 y45r 141 (16 / 2) (16 / 2) (fun r x => x18.toInt + 64 + r * 8 + x) := wSV_y45
                  refine rl_ltI (av_add is20_1 tn_1 (by omega) (by omega)) (fun x46 ix46 => ?_)
                  refine rl_inlQ (fun (y z : Int32 × DD) => y.1 = z.1 ∧ (2 ≤ y.1.toInt ∧ y.1.toInt ≤ 2) ∧ Up mu 144 y2_1 y2_1r y.2 z.2 ∧ WQ mu y.2 z.2 140 16 16 (fun r x => x14.toInt + r * 16 + x) ∧ WQ mu y.2 z.2 140 (16 / 2) (16 / 2) (fun r x => x18.toInt + 0 + r * 8 + x) ∧ WQ mu y.2 z.2 140 (16 / 2) (16 / 2) (fun r x => x18.toInt + 64 + r * 8 + x) ∧ WQ mu y.2 z.2 141 16 16 (fun r x => x14.toInt + r * 16 + x) ∧ WQ mu y.2 z.2 141 (16 / 2) (16 / 2) (fun r x => x18.toInt + 0 + r * 8 + x) ∧ WQ mu y.2 z.2 141 (16 / 2) (16 / 2) (fun r x => x18.toInt + 64 + r * 8 + x)) ⟨rfl, (ti_bd ix46 (by omega) (by omega)), (up_tr us20_2 uy45), wFL_y45, wFU_y45, wFV_y45, wSL_y45, wSU_y45, wSV_y45⟩ ?_
                  rintro ⟨s20_1, s20_2⟩ ⟨s20_1r, s20_2r⟩ ⟨es20_1, ls20_1, us20_2, wFL_s20_2, wFU_s20_2, wFV_s20_2, wSL_s20_2, wSU_s20_2, wSV_s20_2⟩
                  obtain rfl : s20_1 = s20_1r := es20_1
                  have ls20_1 : 2 ≤ s20_1.toInt ∧ s20_1.toInt ≤ 2 := ls20_1
                  have is20_1 : TI s20_1 (2) := ti_c ls20_1
                  have us20_2 : Up mu 144 y2_1 y2_1r s20_2 s20_2r := us20_2
                  have ts20_2 := cx_up ty2_1 us20_2
                  have wm_s20_2 := wg_up us20_2 wm_y2_1
                  have wFL_s20_2 : WQ mu s20_2 s20_2r 140 16 16 (fun r x => x14.toInt + r * 16 + x) := wFL_s20_2
                  have wFU_s20_2 : WQ mu s20_2 s20_2r 140 (16 / 2) (16 / 2) (fun r x => x18.toInt + 0 + r * 8 + x) := wFU_s20_2
                  have wFV_s20_2 : WQ mu s20_2 s20_2r 140 (16 / 2) (16 / 2) (fun r x => x18.toInt + 64 + r * 8 + x) := wFV_s20_2
                  have wSL_s20_2 : WQ mu s20_2 s20_2r 141 16 16 (fun r x => x14.toInt + r * 16 + x) := wSL_s20_2
                  have wSU_s20_2 : WQ mu s20_2 s20_2r 141 (16 / 2) (16 / 2) (fun r x => x18.toInt + 0 + r * 8 + x) := wSU_s20_2
                  have wSV_s20_2 : WQ mu s20_2 s20_2r 141 (16 / 2) (16 / 2) (fun r x => x18.toInt + 64 + r * 8 + x) := wSV_s20_2
                  refine rl_it1 ?_
                  refine rl_if (fun c25 => ?_) (fun c25 => ?_)
                  · have dc25 := tl_le tn_2 is20_1 c25
                    refine rl_inrQ (fun (y z : Int32 × DD) => y.1 = z.1 ∧ Up mu 144 y2_1 y2_1r y.2 z.2 ∧ WQ mu y.2 z.2 140 16 16 (fun r x => x14.toInt + r * 16 + x) ∧ WQ mu y.2 z.2 140 (16 / 2) (16 / 2) (fun r x => x18.toInt + 0 + r * 8 + x) ∧ WQ mu y.2 z.2 140 (16 / 2) (16 / 2) (fun r x => x18.toInt + 64 + r * 8 + x) ∧ WQ mu y.2 z.2 141 16 16 (fun r x => x14.toInt + r * 16 + x) ∧ WQ mu y.2 z.2 141 (16 / 2) (16 / 2) (fun r x => x18.toInt + 0 + r * 8 + x) ∧ WQ mu y.2 z.2 141 (16 / 2) (16 / 2) (fun r x => x18.toInt + 64 + r * 8 + x)) ⟨rfl, us20_2, wFL_s20_2, wFU_s20_2, wFV_s20_2, wSL_s20_2, wSU_s20_2, wSV_s20_2⟩ ?_
                    rintro ⟨y19_1, y19_2⟩ ⟨y19_1r, y19_2r⟩ ⟨ey19_1, uy19_2, wFL_y19_2, wFU_y19_2, wFV_y19_2, wSL_y19_2, wSU_y19_2, wSV_y19_2⟩
                    obtain rfl : y19_1 = y19_1r := ey19_1
                    have uy19_2 : Up mu 144 y2_1 y2_1r y19_2 y19_2r := uy19_2
                    have ty19_2 := cx_up ty2_1 uy19_2
                    have wm_y19_2 := wg_up uy19_2 wm_y2_1
                    have wFL_y19_2 : WQ mu y19_2 y19_2r 140 16 16 (fun r x => x14.toInt + r * 16 + x) := wFL_y19_2
                    have wFU_y19_2 : WQ mu y19_2 y19_2r 140 (16 / 2) (16 / 2) (fun r x => x18.toInt + 0 + r * 8 + x) := wFU_y19_2
                    have wFV_y19_2 : WQ mu y19_2 y19_2r 140 (16 / 2) (16 / 2) (fun r x => x18.toInt + 64 + r * 8 + x) := wFV_y19_2
                    have wSL_y19_2 : WQ mu y19_2 y19_2r 141 16 16 (fun r x => x14.toInt + r * 16 + x) := wSL_y19_2
                    have wSU_y19_2 : WQ mu y19_2 y19_2r 141 (16 / 2) (16 / 2) (fun r x => x18.toInt + 0 + r * 8 + x) := wSU_y19_2
                    have wSV_y19_2 : WQ mu y19_2 y19_2r 141 (16 / 2) (16 / 2) (fun r x => x18.toInt + 64 + r * 8 + x) := wSV_y19_2
                    refine rl_bndK ?_
                    refine rl_itQ (fun (y z : Int32 × DD) => y.1 = z.1 ∧ (0 ≤ y.1.toInt ∧ y.1.toInt ≤ 0) ∧ Up mu 144 y19_2 y19_2r y.2 z.2) ⟨rfl, (ti_bd tn_0 (by omega) (by omega)), (up_0 mu (κ := 144) _ _)⟩ ?_
                    rintro ⟨s23_1, s23_2⟩ ⟨s23_1r, s23_2r⟩ ⟨es23_1, ls23_1, us23_2⟩
                    obtain rfl : s23_1 = s23_1r := es23_1
                    have ls23_1 : 0 ≤ s23_1.toInt ∧ s23_1.toInt ≤ 0 := ls23_1
                    have is23_1 : TI s23_1 (0) := ti_c ls23_1
                    have us23_2 : Up mu 144 y19_2 y19_2r s23_2 s23_2r := us23_2
                    have ts23_2 := cx_up ty19_2 us23_2
                    have wm_s23_2 := wg_up us23_2 wm_y19_2
                    have wFL_s23_2 := wq_up us23_2 wFL_y19_2
                    have wFU_s23_2 := wq_up us23_2 wFU_y19_2
                    have wFV_s23_2 := wq_up us23_2 wFV_y19_2
                    have wSL_s23_2 := wq_up us23_2 wSL_y19_2
                    have wSU_s23_2 := wq_up us23_2 wSU_y19_2
                    have wSV_s23_2 := wq_up us23_2 wSV_y19_2
                    refine rl_it1 ?_
                    refine rl_bnd (Q := fun (y z : Int32) => y = z ∧ (3 ≤ y.toInt ∧ y.toInt ≤ 3)) ?_ ?_
                    · refine rl_if (fun c26 => ?_) (fun c26 => ?_)
                      · have dc26 := tl_eq i4 tn_0 c26
                        exfalso
                        omega
                      · have dc26 := tl_ne i4 tn_0 c26
                        exact rl_some ⟨rfl, (ti_bd tn_3 (by omega) (by omega))⟩
                    · rintro y26 y26r ⟨ey26, ly26⟩
                      obtain rfl : y26 = y26r := ey26
                      have ly26 : 3 ≤ y26.toInt ∧ y26.toInt ≤ 3 := ly26
                      have iy26 : TI y26 (3) := ti_c ly26
                      refine rl_if (fun c27 => ?_) (fun c27 => ?_)
                      · have dc27 := tl_le iy26 is23_1 c27
                        exfalso
                        omega
                      · have dc27 := tl_nle iy26 is23_1 c27
                        refine rl_bnd (r_chooseWeights ts23_2 ⟨rfl, rfl⟩ is23_1 (by omega) (by omega) wm_s23_2) ?_
                        rintro ⟨y28_1, y28_2⟩ ⟨y28_1r, y28_2r⟩ ⟨uy28_1', ey28_2, ly28_2, vk9_y28_1, vk11_y28_1, vk10_y28_1, vk12_y28_1, vk13_y28_1⟩
                        have uy28_1 : Up mu 144 s23_2 s23_2r y28_1 y28_1r := uy28_1'
                        have ty28_1 := cx_up ts23_2 uy28_1
                        have wm_y28_1 := wg_up uy28_1 wm_s23_2
                        have wFL_y28_1 := wq_up uy28_1 wFL_s23_2
                        have wFU_y28_1 := wq_up uy28_1 wFU_s23_2
                        have wFV_y28_1 := wq_up uy28_1 wFV_s23_2
                        have wSL_y28_1 := wq_up uy28_1 wSL_s23_2
                        have wSU_y28_1 := wq_up uy28_1 wSU_s23_2
                        have wSV_y28_1 := wq_up uy28_1 wSV_s23_2
                        obtain rfl : y28_2 = y28_2r := ey28_2
                        dsimp only at ly28_2
                        have iy28_2 : TI y28_2 y28_2.toInt := rfl
                        have n0 : (s23_2.1 144 0).toInt = (M.1 144 0).toInt := by rw [((up_tr (up_tr (up_tr uy1_1 uy2_1) uy19_2) us23_2)).2.2.2.1]
                        have n3 : (s23_2.1 144 3).toInt = (M.1 144 3).toInt := by rw [((up_tr (up_tr (up_tr uy1_1 uy2_1) uy19_2) us23_2)).2.2.2.1]
                        have g0 := h0.1.1
                        have g1 := h1.1.1
                        refine rl_bnd (Q := fun (y z : DD) => Up mu 144 y28_1 y28_1r y z ∧ WQ mu y z 139 16 16 (fun r x => x14.toInt + r * 16 + x)) ?_ ?_
                        · refine rl_if (fun c28 => ?_) (fun c28 => ?_)
                          · have dc28 := tl_eq is23_1 tn_0 c28
                            refine rl_bnd (r_blend ty28_1 iy28_2 ix14 tn_16 i3 (by omega) (by omega) (by omega) (by omega) (by omega) (by omega) (fun _ => wq_cs wFL_y28_1 (Int.le_refl _) (Int.le_refl _) (fun r x h1 h2 h3 h4 => by (try dsimp only) <;> omega)) (fun _ => wq_cs wSL_y28_1 (Int.le_refl _) (Int.le_refl _) (fun r x h1 h2 h3 h4 => by (try dsimp only) <;> omega)) vk9_y28_1 (fun h => vk10_y28_1 ⟨h, by rw [n3]; exact h1.1.1⟩) vk11_y28_1 (fun h => vk12_y28_1 ⟨h, by rw [n3]; exact h1.1.1⟩) vk13_y28_1) ?_
                            rintro y37 y37r ⟨uy37', vGY_y37'⟩
                            have uy37 : Up mu 144 y28_1 y28_1r y37 y37r := uy37'
                            have ty37 := cx_up ty28_1 uy37
                            have wm_y37 := wg_up uy37 wm_y28_1
                            have wFL_y37 := wq_up uy37 wFL_y28_1
                            have wFU_y37 := wq_up uy37 wFU_y28_1
                            have wFV_y37 := wq_up uy37 wFV_y28_1
                            have wSL_y37 := wq_up uy37 wSL_y28_1
                            have wSU_y37 := wq_up uy37 wSU_y28_1
                            have wSV_y37 := wq_up uy37 wSV_y28_1
                            have wk9_y37 := fun h => ag_up uy37 (vk9_y28_1 h)
                            have wk11_y37 := fun h => ag_up uy37 (vk11_y28_1 h)
                            have wk10_y37 := fun h => ag_up uy37 (vk10_y28_1 h)
                            have wk12_y37 := fun h => ag_up uy37 (vk12_y28_1 h)
                            have wk13_y37 := fun h => ag_up uy37 (vk13_y28_1 h)
                            have vGY_y37 : WQ mu y37 y37r 139 16 16 (fun r x => x14.toInt + r * 16 + x) := wq_cs vGY_y37' (by omega) (by omega) (fun r x h1 h2 h3 h4 => by (try dsimp only) <;> omega)
                            exact rl_some ⟨uy37, vGY_y37⟩
                          · have dc28 := tl_ne is23_1 tn_0 c28
                            exfalso
                            omega
                        · rintro y29 y29r ⟨uy29, wGY_y29⟩
                          have uy29 : Up mu 144 y28_1 y28_1r y29 y29r := uy29
                          have ty29 := cx_up ty28_1 uy29
                          have wm_y29 := wg_up uy29 wm_y28_1
                          have wFL_y29 := wq_up uy29 wFL_y28_1
                          have wFU_y29 := wq_up uy29 wFU_y28_1
                          have wFV_y29 := wq_up uy29 wFV_y28_1
                          have wSL_y29 := wq_up uy29 wSL_y28_1
                          have wSU_y29 := wq_up uy29 wSU_y28_1
                          have wSV_y29 := wq_up uy29 wSV_y28_1
                          have wk9_y29 := fun h => ag_up uy29 (vk9_y28_1 h)
                          have wk11_y29 := fun h => ag_up uy29 (vk11_y28_1 h)
                          have wk10_y29 := fun h => ag_up uy29 (vk10_y28_1 h)
                          have wk12_y29 := fun h => ag_up uy29 (vk12_y28_1 h)
                          have wk13_y29 := fun h => ag_up uy29 (vk13_y28_1 h)
                          have wGY_y29 : WQ mu y29 y29r 139 16 16 (fun r x => x14.toInt + r * 16 + x) := wGY_y29
                          refine rl_ltI (av_add is23_1 tn_1 (by omega) (by omega)) (fun x30 ix30 => ?_)
                          refine rl_inlQ (fun (y z : Int32 × DD) => y.1 = z.1 ∧ (1 ≤ y.1.toInt ∧ y.1.toInt ≤ 1) ∧ Up mu 144 y19_2 y19_2r y.2 z.2 ∧ WQ mu y.2 z.2 139 16 16 (fun r x => x14.toInt + r * 16 + x)) ⟨rfl, (ti_bd ix30 (by omega) (by omega)), (up_tr (up_tr us23_2 uy28_1) uy29), wGY_y29⟩ ?_
                          rintro ⟨s23_1, s23_2⟩ ⟨s23_1r, s23_2r⟩ ⟨es23_1, ls23_1, us23_2, wGY_s23_2⟩
                          obtain rfl : s23_1 = s23_1r := es23_1
                          have ls23_1 : 1 ≤ s23_1.toInt ∧ s23_1.toInt ≤ 1 := ls23_1
                          have is23_1 : TI s23_1 (1) := ti_c ls23_1
                          have us23_2 : Up mu 144 y19_2 y19_2r s23_2 s23_2r := us23_2
                          have ts23_2 := cx_up ty19_2 us23_2
                          have wm_s23_2 := wg_up us23_2 wm_y19_2
                          have wFL_s23_2 := wq_up us23_2 wFL_y19_2
                          have wFU_s23_2 := wq_up us23_2 wFU_y19_2
                          have wFV_s23_2 := wq_up us23_2 wFV_y19_2
                          have wSL_s23_2 := wq_up us23_2 wSL_y19_2
                          have wSU_s23_2 := wq_up us23_2 wSU_y19_2
                          have wSV_s23_2 := wq_up us23_2 wSV_y19_2
                          have wGY_s23_2 : WQ mu s23_2 s23_2r 139 16 16 (fun r x => x14.toInt + r * 16 + x) := wGY_s23_2
                          refine rl_it1 ?_
                          refine rl_bnd (Q := fun (y z : Int32) => y = z ∧ (3 ≤ y.toInt ∧ y.toInt ≤ 3)) ?_ ?_
                          · refine rl_if (fun c29 => ?_) (fun c29 => ?_)
                            · have dc29 := tl_eq i4 tn_0 c29
                              exfalso
                              omega
                            · have dc29 := tl_ne i4 tn_0 c29
                              exact rl_some ⟨rfl, (ti_bd tn_3 (by omega) (by omega))⟩
                          · rintro y26 y26r ⟨ey26, ly26⟩
                            obtain rfl : y26 = y26r := ey26
                            have ly26 : 3 ≤ y26.toInt ∧ y26.toInt ≤ 3 := ly26
                            have iy26 : TI y26 (3) := ti_c ly26
                            refine rl_if (fun c30 => ?_) (fun c30 => ?_)
                            · have dc30 := tl_le iy26 is23_1 c30
                              exfalso
                              omega
                            · have dc30 := tl_nle iy26 is23_1 c30
                              refine rl_bnd (r_chooseWeights ts23_2 ⟨rfl, rfl⟩ is23_1 (by omega) (by omega) wm_s23_2) ?_
                              rintro ⟨y28_1, y28_2⟩ ⟨y28_1r, y28_2r⟩ ⟨uy28_1', ey28_2, ly28_2, vk9_y28_1, vk11_y28_1, vk10_y28_1, vk12_y28_1, vk13_y28_1⟩
                              have uy28_1 : Up mu 144 s23_2 s23_2r y28_1 y28_1r := uy28_1'
                              have ty28_1 := cx_up ts23_2 uy28_1
                              have wm_y28_1 := wg_up uy28_1 wm_s23_2
                              have wFL_y28_1 := wq_up uy28_1 wFL_s23_2
                              have wFU_y28_1 := wq_up uy28_1 wFU_s23_2
                              have wFV_y28_1 := wq_up uy28_1 wFV_s23_2
                              have wSL_y28_1 := wq_up uy28_1 wSL_s23_2
                              have wSU_y28_1 := wq_up uy28_1 wSU_s23_2
                              have wSV_y28_1 := wq_up uy28_1 wSV_s23_2
                              have wGY_y28_1 := wq_up uy28_1 wGY_s23_2
                              obtain rfl : y28_2 = y28_2r := ey28_2
                              dsimp only at ly28_2
                              have iy28_2 : TI y28_2 y28_2.toInt := rfl
                              have n0 : (s23_2.1 144 0).toInt = (M.1 144 0).toInt := by rw [((up_tr (up_tr (up_tr uy1_1 uy2_1) uy19_2) us23_2)).2.2.2.1]
                              have n3 : (s23_2.1 144 3).toInt = (M.1 144 3).toInt := by rw [((up_tr (up_tr (up_tr uy1_1 uy2_1) uy19_2) us23_2)).2.2.2.1]
                              have g0 := h0.1.1
                              have g1 := h1.1.1
                              refine rl_bnd (Q := fun (y z : DD) => Up mu 144 y28_1 y28_1r y z ∧ WQ mu y z 139 (16 / 2) (16 / 2) (fun r x => x18.toInt + 0 + r * 8 + x)) ?_ ?_
                              · refine rl_if (fun c31 => ?_) (fun c31 => ?_)
                                · have dc31 := tl_eq is23_1 tn_0 c31
                                  exfalso
                                  omega
                                · have dc31 := tl_ne is23_1 tn_0 c31
                                  refine rl_ltI (av_sub is23_1 tn_1 (by omega) (by omega)) (fun x32 ix32 => ?_)
                                  refine rl_ltI (av_mul tn_64 ix32 (by omega) (by omega)) (fun x33 ix33 => ?_)
                                  refine rl_ltI (av_add ix18 ix33 (by omega) (by omega)) (fun x34 ix34 => ?_)
                                  refine rl_ltI (av_div i3 tn_2 (by omega) (by omega)) (fun x35 ix35 => ?_)
                                  refine rl_bnd (r_blend ty28_1 iy28_2 ix34 tn_8 ix35 (by omega) (by omega) (by omega) (by omega) (by omega) (by omega) (fun _ => wq_cs wFU_y28_1 (Int.le_refl _) (Int.le_refl _) (fun r x h1 h2 h3 h4 => by (try dsimp only) <;> omega)) (fun _ => wq_cs wSU_y28_1 (Int.le_refl _) (Int.le_refl _) (fun r x h1 h2 h3 h4 => by (try dsimp only) <;> omega)) vk9_y28_1 (fun h => vk10_y28_1 ⟨h, by rw [n3]; exact h1.1.1⟩) vk11_y28_1 (fun h => vk12_y28_1 ⟨h, by rw [n3]; exact h1.1.1⟩) vk13_y28_1) ?_
                                  rintro y36 y36r ⟨uy36', vGU_y36'⟩
                                  have uy36 : Up mu 144 y28_1 y28_1r y36 y36r := uy36'
                                  have ty36 := cx_up ty28_1 uy36
                                  have wm_y36 := wg_up uy36 wm_y28_1
                                  have wFL_y36 := wq_up uy36 wFL_y28_1
                                  have wFU_y36 := wq_up uy36 wFU_y28_1
                                  have wFV_y36 := wq_up uy36 wFV_y28_1
                                  have wSL_y36 := wq_up uy36 wSL_y28_1
                                  have wSU_y36 := wq_up uy36 wSU_y28_1
                                  have wSV_y36 := wq_up uy36 wSV_y28_1
                                  have wGY_y36 := wq_up uy36 wGY_y28_1
                                  have wk9_y36 := fun h => ag_up uy36 (vk9_y28_1 h)
                                  have wk11_y36 := fun h => ag_up uy36 (vk11_y28_1 h)
                                  have wk10_y36 := fun h => ag_up uy36 (vk10_y28_1 h)
                                  have wk12_y36 := fun h => ag_up uy36 (vk12_y28_1 h)
                                  have wk13_y36 := fun h => ag_up uy36 (vk13_y28_1 h)
                                  have vGU_y36 : WQ mu y36 y36r 139 (16 / 2) (16 / 2) (fun r x => x18.toInt + 0 + r * 8 + x) := wq_cs vGU_y36' (by omega) (by omega) (fun r x h1 h2 h3 h4 => by (try dsimp only) <;> omega)
                                  exact rl_some ⟨uy36, vGU_y36⟩
                              · rintro y29 y29r ⟨uy29, wGU_y29⟩
                                have uy29 : Up mu 144 y28_1 y28_1r y29 y29r := uy29
                                have ty29 := cx_up ty28_1 uy29
                                have wm_y29 := wg_up uy29 wm_y28_1
                                have wFL_y29 := wq_up uy29 wFL_y28_1
                                have wFU_y29 := wq_up uy29 wFU_y28_1
                                have wFV_y29 := wq_up uy29 wFV_y28_1
                                have wSL_y29 := wq_up uy29 wSL_y28_1
                                have wSU_y29 := wq_up uy29 wSU_y28_1
                                have wSV_y29 := wq_up uy29 wSV_y28_1
                                have wGY_y29 := wq_up uy29 wGY_y28_1
                                have wk9_y29 := fun h => ag_up uy29 (vk9_y28_1 h)
                                have wk11_y29 := fun h => ag_up uy29 (vk11_y28_1 h)
                                have wk10_y29 := fun h => ag_up uy29 (vk10_y28_1 h)
                                have wk12_y29 := fun h => ag_up uy29 (vk12_y28_1 h)
                                have wk13_y29 := fun h => ag_up uy29 (vk13_y28_1 h)
                                have wGU_y29 : WQ mu y29 y29r 139 (16 / 2) (16 / 2) (fun r x => x18.toInt + 0 + r * 8 + x) := wGU_y29
                                refine rl_ltI (av_add is23_1 tn_1 (by omega) (by omega)) (fun x30 ix30 => ?_)
                                refine rl_inlQ (fun (y z : Int32 × DD) => y.1 = z.1 ∧ (2 ≤ y.1.toInt ∧ y.1.toInt ≤ 2) ∧ Up mu 144 y19_2 y19_2r y.2 z.2 ∧ WQ mu y.2 z.2 139 16 16 (fun r x => x14.toInt + r * 16 + x) ∧ WQ mu y.2 z.2 139 (16 / 2) (16 / 2) (fun r x => x18.toInt + 0 + r * 8 + x)) ⟨rfl, (ti_bd ix30 (by omega) (by omega)), (up_tr (up_tr us23_2 uy28_1) uy29), wGY_y29, wGU_y29⟩ ?_
                                rintro ⟨s23_1, s23_2⟩ ⟨s23_1r, s23_2r⟩ ⟨es23_1, ls23_1, us23_2, wGY_s23_2, wGU_s23_2⟩
                                obtain rfl : s23_1 = s23_1r := es23_1
                                have ls23_1 : 2 ≤ s23_1.toInt ∧ s23_1.toInt ≤ 2 := ls23_1
                                have is23_1 : TI s23_1 (2) := ti_c ls23_1
                                have us23_2 : Up mu 144 y19_2 y19_2r s23_2 s23_2r := us23_2
                                have ts23_2 := cx_up ty19_2 us23_2
                                have wm_s23_2 := wg_up us23_2 wm_y19_2
                                have wFL_s23_2 := wq_up us23_2 wFL_y19_2
                                have wFU_s23_2 := wq_up us23_2 wFU_y19_2
                                have wFV_s23_2 := wq_up us23_2 wFV_y19_2
                                have wSL_s23_2 := wq_up us23_2 wSL_y19_2
                                have wSU_s23_2 := wq_up us23_2 wSU_y19_2
                                have wSV_s23_2 := wq_up us23_2 wSV_y19_2
                                have wGY_s23_2 : WQ mu s23_2 s23_2r 139 16 16 (fun r x => x14.toInt + r * 16 + x) := wGY_s23_2
                                have wGU_s23_2 : WQ mu s23_2 s23_2r 139 (16 / 2) (16 / 2) (fun r x => x18.toInt + 0 + r * 8 + x) := wGU_s23_2
                                refine rl_it1 ?_
                                refine rl_bnd (Q := fun (y z : Int32) => y = z ∧ (3 ≤ y.toInt ∧ y.toInt ≤ 3)) ?_ ?_
                                · refine rl_if (fun c32 => ?_) (fun c32 => ?_)
                                  · have dc32 := tl_eq i4 tn_0 c32
                                    exfalso
                                    omega
                                  · have dc32 := tl_ne i4 tn_0 c32
                                    exact rl_some ⟨rfl, (ti_bd tn_3 (by omega) (by omega))⟩
                                · rintro y26 y26r ⟨ey26, ly26⟩
                                  obtain rfl : y26 = y26r := ey26
                                  have ly26 : 3 ≤ y26.toInt ∧ y26.toInt ≤ 3 := ly26
                                  have iy26 : TI y26 (3) := ti_c ly26
                                  refine rl_if (fun c33 => ?_) (fun c33 => ?_)
                                  · have dc33 := tl_le iy26 is23_1 c33
                                    exfalso
                                    omega
                                  · have dc33 := tl_nle iy26 is23_1 c33
                                    refine rl_bnd (r_chooseWeights ts23_2 ⟨rfl, rfl⟩ is23_1 (by omega) (by omega) wm_s23_2) ?_
                                    rintro ⟨y28_1, y28_2⟩ ⟨y28_1r, y28_2r⟩ ⟨uy28_1', ey28_2, ly28_2, vk9_y28_1, vk11_y28_1, vk10_y28_1, vk12_y28_1, vk13_y28_1⟩
                                    have uy28_1 : Up mu 144 s23_2 s23_2r y28_1 y28_1r := uy28_1'
                                    have ty28_1 := cx_up ts23_2 uy28_1
                                    have wm_y28_1 := wg_up uy28_1 wm_s23_2
                                    have wFL_y28_1 := wq_up uy28_1 wFL_s23_2
                                    have wFU_y28_1 := wq_up uy28_1 wFU_s23_2
                                    have wFV_y28_1 := wq_up uy28_1 wFV_s23_2
                                    have wSL_y28_1 := wq_up uy28_1 wSL_s23_2
                                    have wSU_y28_1 := wq_up uy28_1 wSU_s23_2
                                    have wSV_y28_1 := wq_up uy28_1 wSV_s23_2
                                    have wGY_y28_1 := wq_up uy28_1 wGY_s23_2
                                    have wGU_y28_1 := wq_up uy28_1 wGU_s23_2
                                    obtain rfl : y28_2 = y28_2r := ey28_2
                                    dsimp only at ly28_2
                                    have iy28_2 : TI y28_2 y28_2.toInt := rfl
                                    have n0 : (s23_2.1 144 0).toInt = (M.1 144 0).toInt := by rw [((up_tr (up_tr (up_tr uy1_1 uy2_1) uy19_2) us23_2)).2.2.2.1]
                                    have n3 : (s23_2.1 144 3).toInt = (M.1 144 3).toInt := by rw [((up_tr (up_tr (up_tr uy1_1 uy2_1) uy19_2) us23_2)).2.2.2.1]
                                    have g0 := h0.1.1
                                    have g1 := h1.1.1
                                    refine rl_bnd (Q := fun (y z : DD) => Up mu 144 y28_1 y28_1r y z ∧ WQ mu y z 139 (16 / 2) (16 / 2) (fun r x => x18.toInt + 64 + r * 8 + x)) ?_ ?_
                                    · refine rl_if (fun c34 => ?_) (fun c34 => ?_)
                                      · have dc34 := tl_eq is23_1 tn_0 c34
                                        exfalso
                                        omega
                                      · have dc34 := tl_ne is23_1 tn_0 c34
                                        refine rl_ltI (av_sub is23_1 tn_1 (by omega) (by omega)) (fun x32 ix32 => ?_)
                                        refine rl_ltI (av_mul tn_64 ix32 (by omega) (by omega)) (fun x33 ix33 => ?_)
                                        refine rl_ltI (av_add ix18 ix33 (by omega) (by omega)) (fun x34 ix34 => ?_)
                                        refine rl_ltI (av_div i3 tn_2 (by omega) (by omega)) (fun x35 ix35 => ?_)
                                        refine rl_bnd (r_blend ty28_1 iy28_2 ix34 tn_8 ix35 (by omega) (by omega) (by omega) (by omega) (by omega) (by omega) (fun _ => wq_cs wFV_y28_1 (Int.le_refl _) (Int.le_refl _) (fun r x h1 h2 h3 h4 => by (try dsimp only) <;> omega)) (fun _ => wq_cs wSV_y28_1 (Int.le_refl _) (Int.le_refl _) (fun r x h1 h2 h3 h4 => by (try dsimp only) <;> omega)) vk9_y28_1 (fun h => vk10_y28_1 ⟨h, by rw [n3]; exact h1.1.1⟩) vk11_y28_1 (fun h => vk12_y28_1 ⟨h, by rw [n3]; exact h1.1.1⟩) vk13_y28_1) ?_
                                        rintro y36 y36r ⟨uy36', vGV_y36'⟩
                                        have uy36 : Up mu 144 y28_1 y28_1r y36 y36r := uy36'
                                        have ty36 := cx_up ty28_1 uy36
                                        have wm_y36 := wg_up uy36 wm_y28_1
                                        have wFL_y36 := wq_up uy36 wFL_y28_1
                                        have wFU_y36 := wq_up uy36 wFU_y28_1
                                        have wFV_y36 := wq_up uy36 wFV_y28_1
                                        have wSL_y36 := wq_up uy36 wSL_y28_1
                                        have wSU_y36 := wq_up uy36 wSU_y28_1
                                        have wSV_y36 := wq_up uy36 wSV_y28_1
                                        have wGY_y36 := wq_up uy36 wGY_y28_1
                                        have wGU_y36 := wq_up uy36 wGU_y28_1
                                        have wk9_y36 := fun h => ag_up uy36 (vk9_y28_1 h)
                                        have wk11_y36 := fun h => ag_up uy36 (vk11_y28_1 h)
                                        have wk10_y36 := fun h => ag_up uy36 (vk10_y28_1 h)
                                        have wk12_y36 := fun h => ag_up uy36 (vk12_y28_1 h)
                                        have wk13_y36 := fun h => ag_up uy36 (vk13_y28_1 h)
                                        have vGV_y36 : WQ mu y36 y36r 139 (16 / 2) (16 / 2) (fun r x => x18.toInt + 64 + r * 8 + x) := wq_cs vGV_y36' (by omega) (by omega) (fun r x h1 h2 h3 h4 => by (try dsimp only) <;> omega)
                                        exact rl_some ⟨uy36, vGV_y36⟩
                                    · rintro y29 y29r ⟨uy29, wGV_y29⟩
                                      have uy29 : Up mu 144 y28_1 y28_1r y29 y29r := uy29
                                      have ty29 := cx_up ty28_1 uy29
                                      have wm_y29 := wg_up uy29 wm_y28_1
                                      have wFL_y29 := wq_up uy29 wFL_y28_1
                                      have wFU_y29 := wq_up uy29 wFU_y28_1
                                      have wFV_y29 := wq_up uy29 wFV_y28_1
                                      have wSL_y29 := wq_up uy29 wSL_y28_1
                                      have wSU_y29 := wq_up uy29 wSU_y28_1
                                      have wSV_y29 := wq_up uy29 wSV_y28_1
                                      have wGY_y29 := wq_up uy29 wGY_y28_1
                                      have wGU_y29 := wq_up uy29 wGU_y28_1
                                      have wk9_y29 := fun h => ag_up uy29 (vk9_y28_1 h)
                                      have wk11_y29 := fun h => ag_up uy29 (vk11_y28_1 h)
                                      have wk10_y29 := fun h => ag_up uy29 (vk10_y28_1 h)
                                      have wk12_y29 := fun h => ag_up uy29 (vk12_y28_1 h)
                                      have wk13_y29 := fun h => ag_up uy29 (vk13_y28_1 h)
                                      have wGV_y29 : WQ mu y29 y29r 139 (16 / 2) (16 / 2) (fun r x => x18.toInt + 64 + r * 8 + x) := wGV_y29
                                      refine rl_ltI (av_add is23_1 tn_1 (by omega) (by omega)) (fun x30 ix30 => ?_)
                                      refine rl_inlQ (fun (y z : Int32 × DD) => y.1 = z.1 ∧ (3 ≤ y.1.toInt ∧ y.1.toInt ≤ 3) ∧ Up mu 144 y19_2 y19_2r y.2 z.2 ∧ WQ mu y.2 z.2 139 16 16 (fun r x => x14.toInt + r * 16 + x) ∧ WQ mu y.2 z.2 139 (16 / 2) (16 / 2) (fun r x => x18.toInt + 0 + r * 8 + x) ∧ WQ mu y.2 z.2 139 (16 / 2) (16 / 2) (fun r x => x18.toInt + 64 + r * 8 + x)) ⟨rfl, (ti_bd ix30 (by omega) (by omega)), (up_tr (up_tr us23_2 uy28_1) uy29), wGY_y29, wGU_y29, wGV_y29⟩ ?_
                                      rintro ⟨s23_1, s23_2⟩ ⟨s23_1r, s23_2r⟩ ⟨es23_1, ls23_1, us23_2, wGY_s23_2, wGU_s23_2, wGV_s23_2⟩
                                      obtain rfl : s23_1 = s23_1r := es23_1
                                      have ls23_1 : 3 ≤ s23_1.toInt ∧ s23_1.toInt ≤ 3 := ls23_1
                                      have is23_1 : TI s23_1 (3) := ti_c ls23_1
                                      have us23_2 : Up mu 144 y19_2 y19_2r s23_2 s23_2r := us23_2
                                      have ts23_2 := cx_up ty19_2 us23_2
                                      have wm_s23_2 := wg_up us23_2 wm_y19_2
                                      have wFL_s23_2 := wq_up us23_2 wFL_y19_2
                                      have wFU_s23_2 := wq_up us23_2 wFU_y19_2
                                      have wFV_s23_2 := wq_up us23_2 wFV_y19_2
                                      have wSL_s23_2 := wq_up us23_2 wSL_y19_2
                                      have wSU_s23_2 := wq_up us23_2 wSU_y19_2
                                      have wSV_s23_2 := wq_up us23_2 wSV_y19_2
                                      have wGY_s23_2 : WQ mu s23_2 s23_2r 139 16 16 (fun r x => x14.toInt + r * 16 + x) := wGY_s23_2
                                      have wGU_s23_2 : WQ mu s23_2 s23_2r 139 (16 / 2) (16 / 2) (fun r x => x18.toInt + 0 + r * 8 + x) := wGU_s23_2
                                      have wGV_s23_2 : WQ mu s23_2 s23_2r 139 (16 / 2) (16 / 2) (fun r x => x18.toInt + 64 + r * 8 + x) := wGV_s23_2
                                      refine rl_it1 ?_
                                      refine rl_bnd (Q := fun (y z : Int32) => y = z ∧ (3 ≤ y.toInt ∧ y.toInt ≤ 3)) ?_ ?_
                                      · refine rl_if (fun c35 => ?_) (fun c35 => ?_)
                                        · have dc35 := tl_eq i4 tn_0 c35
                                          exfalso
                                          omega
                                        · have dc35 := tl_ne i4 tn_0 c35
                                          exact rl_some ⟨rfl, (ti_bd tn_3 (by omega) (by omega))⟩
                                      · rintro y26 y26r ⟨ey26, ly26⟩
                                        obtain rfl : y26 = y26r := ey26
                                        have ly26 : 3 ≤ y26.toInt ∧ y26.toInt ≤ 3 := ly26
                                        have iy26 : TI y26 (3) := ti_c ly26
                                        refine rl_if (fun c36 => ?_) (fun c36 => ?_)
                                        · have dc36 := tl_le iy26 is23_1 c36
                                          refine rl_inrQ (fun (y z : Int32 × DD) => y.1 = z.1 ∧ Up mu 144 y19_2 y19_2r y.2 z.2 ∧ WQ mu y.2 z.2 139 16 16 (fun r x => x14.toInt + r * 16 + x) ∧ WQ mu y.2 z.2 139 (16 / 2) (16 / 2) (fun r x => x18.toInt + 0 + r * 8 + x) ∧ WQ mu y.2 z.2 139 (16 / 2) (16 / 2) (fun r x => x18.toInt + 64 + r * 8 + x)) ⟨rfl, us23_2, wGY_s23_2, wGU_s23_2, wGV_s23_2⟩ ?_
                                          rintro ⟨y22_1, y22_2⟩ ⟨y22_1r, y22_2r⟩ ⟨ey22_1, uy22_2, wGY_y22_2, wGU_y22_2, wGV_y22_2⟩
                                          obtain rfl : y22_1 = y22_1r := ey22_1
                                          have uy22_2 : Up mu 144 y19_2 y19_2r y22_2 y22_2r := uy22_2
                                          have ty22_2 := cx_up ty19_2 uy22_2
                                          have wm_y22_2 := wg_up uy22_2 wm_y19_2
                                          have wFL_y22_2 := wq_up uy22_2 wFL_y19_2
                                          have wFU_y22_2 := wq_up uy22_2 wFU_y19_2
                                          have wFV_y22_2 := wq_up uy22_2 wFV_y19_2
                                          have wSL_y22_2 := wq_up uy22_2 wSL_y19_2
                                          have wSU_y22_2 := wq_up uy22_2 wSU_y19_2
                                          have wSV_y22_2 := wq_up uy22_2 wSV_y19_2
                                          have wGY_y22_2 : WQ mu y22_2 y22_2r 139 16 16 (fun r x => x14.toInt + r * 16 + x) := wGY_y22_2
                                          have wGU_y22_2 : WQ mu y22_2 y22_2r 139 (16 / 2) (16 / 2) (fun r x => x18.toInt + 0 + r * 8 + x) := wGU_y22_2
                                          have wGV_y22_2 : WQ mu y22_2 y22_2r 139 (16 / 2) (16 / 2) (fun r x => x18.toInt + 64 + r * 8 + x) := wGV_y22_2
                                          exact rl_some ⟨(up_tr (up_tr (up_tr uy1_1 uy2_1) uy19_2) uy22_2), (wq_cs wGY_y22_2 (Int.le_refl _) (Int.le_refl _) (fun r x h1 h2 h3 h4 => by (try dsimp only) <;> omega)), (wq_cs wGU_y22_2 (Int.le_refl _) (Int.le_refl _) (fun r x h1 h2 h3 h4 => by (try dsimp only) <;> omega)), (wq_cs wGV_y22_2 (Int.le_refl _) (Int.le_refl _) (fun r x h1 h2 h3 h4 => by (try dsimp only) <;> omega))⟩
                                        · have dc36 := tl_nle iy26 is23_1 c36
                                          exfalso
                                          omega
                  · have dc25 := tl_nle tn_2 is20_1 c25
                    exfalso
                    omega
    · refine rl_bnd (r_pieceX t i2 (by omega) (by omega)) ?_
      rintro ⟨y1_1, y1_2⟩ ⟨y1_1r, y1_2r⟩ ⟨uy1_1', ey1_2, iy1_2⟩
      have uy1_1 : Up mu 144 M N y1_1 y1_1r := uy1_1'
      have ty1_1 := cx_up t uy1_1
      have wm_y1_1 := wg_up uy1_1 hm
      obtain rfl : y1_2 = y1_2r := ey1_2
      refine rl_bnd (r_pieceY ty1_1 i2 (by omega) (by omega)) ?_
      rintro ⟨y2_1, y2_2⟩ ⟨y2_1r, y2_2r⟩ ⟨uy2_1', ey2_2, iy2_2⟩
      have uy2_1 : Up mu 144 y1_1 y1_1r y2_1 y2_1r := uy2_1'
      have ty2_1 := cx_up ty1_1 uy2_1
      have wm_y2_1 := wg_up uy2_1 wm_y1_1
      obtain rfl : y2_2 = y2_2r := ey2_2
      refine rl_dr (cx_U ty2_1) ⟨rfl, rfl⟩ (fun gb3 => ?_)
      refine rl_dr (cx_U ty2_1) (rx_p ty2_1) (fun gb4 => ?_)
      refine rl_rd (cx_q (j := 0) (k := 1) ty2_1 (cx_p t) rfl) (fun x5 => ?_)
      refine rl_chk (fun h => h) (fun k1 => ?_)
      refine rl_ltA (fun x6 => ?_)
      refine rl_ltA (fun x7 => ?_)
      refine rl_ltA (fun x8 => ?_)
      refine rl_rd (cx_q (j := 0) (k := 1) ty2_1 (cx_p t) rfl) (fun x9 => ?_)
      refine rl_chk (fun h => h) (fun k2 => ?_)
      refine rl_ltA (fun x10 => ?_)
      refine rl_ltA (fun x11 => ?_)
      refine rl_ltA (fun x12 => ?_)
      refine rl_ltI (av_mul tn_16 iy2_2 (by omega) (by omega)) (fun x13 ix13 => ?_)
      refine rl_ltI (av_add ix13 iy1_2 (by omega) (by omega)) (fun x14 ix14 => ?_)
      have kx14 : x14.toInt = _ := ix14
      refine rl_ltI (av_mul tn_4 iy2_2 (by omega) (by omega)) (fun x15 ix15 => ?_)
      refine rl_ltI (av_add tn_256 ix15 (by omega) (by omega)) (fun x16 ix16 => ?_)
      refine rl_ltI (av_div iy1_2 tn_2 (by omega) (by omega)) (fun x17 ix17 => ?_)
      refine rl_ltI (av_add ix16 ix17 (by omega) (by omega)) (fun x18 ix18 => ?_)
      have kx18 : x18.toInt = _ := ix18
      refine rl_bndK ?_
      refine rl_itQ (fun (y z : Int32 × DD) => y.1 = z.1 ∧ (0 ≤ y.1.toInt ∧ y.1.toInt ≤ 0) ∧ Up mu 144 y2_1 y2_1r y.2 z.2) ⟨rfl, (ti_bd tn_0 (by omega) (by omega)), (up_0 mu (κ := 144) _ _)⟩ ?_
      rintro ⟨s20_1, s20_2⟩ ⟨s20_1r, s20_2r⟩ ⟨es20_1, ls20_1, us20_2⟩
      obtain rfl : s20_1 = s20_1r := es20_1
      have ls20_1 : 0 ≤ s20_1.toInt ∧ s20_1.toInt ≤ 0 := ls20_1
      have is20_1 : TI s20_1 (0) := ti_c ls20_1
      have us20_2 : Up mu 144 y2_1 y2_1r s20_2 s20_2r := us20_2
      have ts20_2 := cx_up ty2_1 us20_2
      have wm_s20_2 := wg_up us20_2 wm_y2_1
      refine rl_it1 ?_
      refine rl_if (fun c3 => ?_) (fun c3 => ?_)
      · have dc3 := tl_le tn_2 is20_1 c3
        exfalso
        omega
      · have dc3 := tl_nle tn_2 is20_1 c3
        refine rl_ltI (av_mul tn_3 is20_1 (by omega) (by omega)) (fun x41 ix41 => ?_)
        refine rl_dr (cx_U ts20_2) (rx_c (a := 138) (k := 5) (b := 144) ts20_2 (Or.inr (Or.inl rfl)) rfl (by decide)) (fun gb42 => ?_)
        refine rl_chk (chkl (cx_U ts20_2) gb42) (fun k4 => ?_)
        refine rl_rdE (wg_id wm_s20_2 ix41 (by omega) (by omega)) (fun x43 ex43 => ?_)
        have mx43 : x43.toInt = (M.1 144 0).toInt := by rw [ex43, ti_n ix41, ((up_tr (up_tr uy1_1 uy2_1) us20_2)).2.2.2.1]; rfl
        have lx43 : 0 ≤ x43.toInt ∧ x43.toInt ≤ 7 := by rw [mx43]; exact h0.1
        refine rl_bnd (Q := fun (y z : Option Nat) => (∃ q, q ∈ L ∧ (y = some q ∧ z = some (mu q)))) ?_ ?_
        · refine rl_if (fun c5 => ?_) (fun c5 => ?_)
          · have dc5 := tl_lt (rfl : TI x43 x43.toInt) tn_0 c5
            exfalso
            omega
          · have dc5 := tl_nlt (rfl : TI x43 x43.toInt) tn_0 c5
            refine rl_bnd (Q := fun (y z : Option Nat) => (∃ q, q ∈ L ∧ (y = some q ∧ z = some (mu q)))) ?_ ?_
            · refine rl_if (fun c6 => ?_) (fun c6 => ?_)
              · have dc6 := tl_le (rfl : TI x43 x43.toInt) tn_8 c6
                refine rl_ltI (av_mul tn_9 is20_1 (by omega) (by omega)) (fun x70 ix70 => ?_)
                refine rl_ltI (av_add ix70 (rfl : TI x43 x43.toInt) (by omega) (by omega)) (fun x71 ix71 => ?_)
                refine rl_dr (cx_U ts20_2) (rx_c (a := 125) (k := 3) (b := 126) ts20_2 (Or.inl rfl) rfl (by decide)) (fun gb72 => ?_)
                refine rl_chk (chkl (cx_U ts20_2) gb72) (fun k7 => ?_)
                exact rl_some (or_ne (rx_l ts20_2 _) (by rw [((up_tr (up_tr uy1_1 uy2_1) us20_2)).1.1, ti_n ix71, mx43]; exact en_ix h0 0 (by omega)))
              · have dc6 := tl_nle (rfl : TI x43 x43.toInt) tn_8 c6
                exfalso
                omega
            · rintro y68 y68r ⟨qy68, hqy68, oy68⟩
              exact rl_some ⟨qy68, hqy68, oy68⟩
        · rintro y44 y44r ⟨qy44, hqy44, oy44⟩
          refine rl_bnd (Q := fun (y z : DD) => Up mu 144 s20_2 s20_2r y z ∧ WQ mu y z 140 16 16 (fun r x => x14.toInt + r * 16 + x) ∧ WQ mu y z 140 (16 / 2) (16 / 2) (fun r x => x18.toInt + 0 + r * 8 + x) ∧ WQ mu y z 140 (16 / 2) (16 / 2) (fun r x => x18.toInt + 64 + r * 8 + x)) ?_ ?_
          · refine rl_ifD (or_iff (mu := mu) (L := L) (Or.inr ⟨qy44, hqy44, oy44⟩)) (fun c8 => ?_) (fun c8 => ?_)
            · exact absurd c8 (by rw [oy44.1]; exact Option.some_ne_none _)
            · refine rl_ltA (fun x48 => ?_)
              refine rl_ltI (av_mul tn_3 is20_1 (by omega) (by omega)) (fun x49 ix49 => ?_)
              refine rl_ltI (av_add ix49 tn_1 (by omega) (by omega)) (fun x50 ix50 => ?_)
              refine rl_chk (chkl (cx_U ts20_2) gb42) (fun k9 => ?_)
              refine rl_rd (wg_id wm_s20_2 ix50 (by omega) (by omega)) (fun x51 => ?_)
              refine rl_ltA (fun x52 => ?_)
              refine rl_ltA (fun x53 => ?_)
              refine rl_ltI (av_mul tn_3 is20_1 (by omega) (by omega)) (fun x54 ix54 => ?_)
              refine rl_ltI (av_add ix54 tn_2 (by omega) (by omega)) (fun x55 ix55 => ?_)
              refine rl_chk (chkl (cx_U ts20_2) gb42) (fun k10 => ?_)
              refine rl_rd (wg_id wm_s20_2 ix55 (by omega) (by omega)) (fun x56 => ?_)
              refine rl_ltA (fun x57 => ?_)
              refine rl_bnd (Q := fun (y z : Option Nat) => (y = some 140 ∧ z = some (mu 140))) ?_ ?_
              · refine rl_if (fun c11 => ?_) (fun c11 => ?_)
                · have dc11 := tl_eq is20_1 tn_0 c11
                  exact rl_some (rx_c (a := 138) (k := 1) (b := 140) ts20_2 (Or.inr (Or.inl rfl)) rfl (by decide))
                · have dc11 := tl_ne is20_1 tn_0 c11
                  exfalso
                  omega
              · rintro y58 y58r oy58
                refine rl_bnd (r_predictLuma ts20_2 oy44 hqy44 (rfl : TI x52 x52.toInt) (rfl : TI x57 x57.toInt) i3 oy58 (Or.inl rfl) ix14 (by omega) (by omega) (by omega)) ?_
                rintro y59 y59r ⟨uy59', vFL_y59'⟩
                have uy59 : Up mu 144 s20_2 s20_2r y59 y59r := uy59'
                have ty59 := cx_up ts20_2 uy59
                have wm_y59 := wg_up uy59 wm_s20_2
                have vFL_y59 : WQ mu y59 y59r 140 16 16 (fun r x => x14.toInt + r * 16 + x) := wg_wq vFL_y59' (fun r x => r * 16 + x) (fun r x h1 h2 h3 h4 => by (try dsimp only); refine ⟨⟨by omega, by omega⟩, by omega⟩)
                refine rl_bnd (Q := fun (y z : DD) => Up mu 144 y59 y59r y z ∧ WQ mu y z 140 (16 / 2) (16 / 2) (fun r x => x18.toInt + 0 + r * 8 + x) ∧ WQ mu y z 140 (16 / 2) (16 / 2) (fun r x => x18.toInt + 64 + r * 8 + x)) ?_ ?_
                · refine rl_if (fun c12 => ?_) (fun c12 => ?_)
                  · have dc12 := tl_eq i4 tn_0 c12
                    exfalso
                    omega
                  · have dc12 := tl_ne i4 tn_0 c12
                    refine rl_ltI (av_div i3 tn_2 (by omega) (by omega)) (fun x62 ix62 => ?_)
                    refine rl_bnd (Q := fun (y z : Option Nat) => (y = some 140 ∧ z = some (mu 140))) ?_ ?_
                    · refine rl_if (fun c13 => ?_) (fun c13 => ?_)
                      · have dc13 := tl_eq is20_1 tn_0 c13
                        exact rl_some (rx_c (a := 138) (k := 1) (b := 140) ty59 (Or.inr (Or.inl rfl)) rfl (by decide))
                      · have dc13 := tl_ne is20_1 tn_0 c13
                        exfalso
                        omega
                    · rintro y63 y63r oy63
                      refine rl_bnd (r_predictColours ty59 oy44 hqy44 (rfl : TI x52 x52.toInt) (rfl : TI x57 x57.toInt) ix62 oy63 (Or.inl rfl) ix18 (by omega) (by omega) (by omega)) ?_
                      rintro y64 y64r ⟨uy64', vFU_y64', vFV_y64'⟩
                      have uy64 : Up mu 144 y59 y59r y64 y64r := uy64'
                      have ty64 := cx_up ty59 uy64
                      have wm_y64 := wg_up uy64 wm_y59
                      have wFL_y64 := wq_up uy64 vFL_y59
                      have vFU_y64 : WQ mu y64 y64r 140 (16 / 2) (16 / 2) (fun r x => x18.toInt + 0 + r * 8 + x) := wg_wq vFU_y64' (fun r x => r * (16 / 2) + x) (fun r x h1 h2 h3 h4 => by (try dsimp only); refine ⟨⟨by omega, by omega⟩, by omega⟩)
                      have vFV_y64 : WQ mu y64 y64r 140 (16 / 2) (16 / 2) (fun r x => x18.toInt + 64 + r * 8 + x) := wg_wq vFV_y64' (fun r x => r * (16 / 2) + x) (fun r x h1 h2 h3 h4 => by (try dsimp only); refine ⟨⟨by omega, by omega⟩, by omega⟩)
                      exact rl_some ⟨uy64, vFU_y64, vFV_y64⟩
                · rintro y60 y60r ⟨uy60, wFU_y60, wFV_y60⟩
                  have uy60 : Up mu 144 y59 y59r y60 y60r := uy60
                  have ty60 := cx_up ty59 uy60
                  have wm_y60 := wg_up uy60 wm_y59
                  have wFL_y60 := wq_up uy60 vFL_y59
                  have wFU_y60 : WQ mu y60 y60r 140 (16 / 2) (16 / 2) (fun r x => x18.toInt + 0 + r * 8 + x) := wFU_y60
                  have wFV_y60 : WQ mu y60 y60r 140 (16 / 2) (16 / 2) (fun r x => x18.toInt + 64 + r * 8 + x) := wFV_y60
                  exact rl_some ⟨(up_tr uy59 uy60), wFL_y60, wFU_y60, wFV_y60⟩
          · rintro y45 y45r ⟨uy45, wFL_y45, wFU_y45, wFV_y45⟩
            have uy45 : Up mu 144 s20_2 s20_2r y45 y45r := uy45
            have ty45 := cx_up ts20_2 uy45
            have wm_y45 := wg_up uy45 wm_s20_2
            have wFL_y45 : WQ mu y45 y45r 140 16 16 (fun r x => x14.toInt + r * 16 + x) := wFL_y45
            have wFU_y45 : WQ mu y45 y45r 140 (16 / 2) (16 / 2) (fun r x => x18.toInt + 0 + r * 8 + x) := wFU_y45
            have wFV_y45 : WQ mu y45 y45r 140 (16 / 2) (16 / 2) (fun r x => x18.toInt + 64 + r * 8 + x) := wFV_y45
            refine rl_ltI (av_add is20_1 tn_1 (by omega) (by omega)) (fun x46 ix46 => ?_)
            refine rl_inlQ (fun (y z : Int32 × DD) => y.1 = z.1 ∧ (1 ≤ y.1.toInt ∧ y.1.toInt ≤ 1) ∧ Up mu 144 y2_1 y2_1r y.2 z.2 ∧ WQ mu y.2 z.2 140 16 16 (fun r x => x14.toInt + r * 16 + x) ∧ WQ mu y.2 z.2 140 (16 / 2) (16 / 2) (fun r x => x18.toInt + 0 + r * 8 + x) ∧ WQ mu y.2 z.2 140 (16 / 2) (16 / 2) (fun r x => x18.toInt + 64 + r * 8 + x)) ⟨rfl, (ti_bd ix46 (by omega) (by omega)), (up_tr us20_2 uy45), wFL_y45, wFU_y45, wFV_y45⟩ ?_
            rintro ⟨s20_1, s20_2⟩ ⟨s20_1r, s20_2r⟩ ⟨es20_1, ls20_1, us20_2, wFL_s20_2, wFU_s20_2, wFV_s20_2⟩
            obtain rfl : s20_1 = s20_1r := es20_1
            have ls20_1 : 1 ≤ s20_1.toInt ∧ s20_1.toInt ≤ 1 := ls20_1
            have is20_1 : TI s20_1 (1) := ti_c ls20_1
            have us20_2 : Up mu 144 y2_1 y2_1r s20_2 s20_2r := us20_2
            have ts20_2 := cx_up ty2_1 us20_2
            have wm_s20_2 := wg_up us20_2 wm_y2_1
            have wFL_s20_2 : WQ mu s20_2 s20_2r 140 16 16 (fun r x => x14.toInt + r * 16 + x) := wFL_s20_2
            have wFU_s20_2 : WQ mu s20_2 s20_2r 140 (16 / 2) (16 / 2) (fun r x => x18.toInt + 0 + r * 8 + x) := wFU_s20_2
            have wFV_s20_2 : WQ mu s20_2 s20_2r 140 (16 / 2) (16 / 2) (fun r x => x18.toInt + 64 + r * 8 + x) := wFV_s20_2
            refine rl_it1 ?_
            refine rl_if (fun c14 => ?_) (fun c14 => ?_)
            · have dc14 := tl_le tn_2 is20_1 c14
              exfalso
              omega
            · have dc14 := tl_nle tn_2 is20_1 c14
              refine rl_ltI (av_mul tn_3 is20_1 (by omega) (by omega)) (fun x41 ix41 => ?_)
              refine rl_dr (cx_U ts20_2) (rx_c (a := 138) (k := 5) (b := 144) ts20_2 (Or.inr (Or.inl rfl)) rfl (by decide)) (fun gb42 => ?_)
              refine rl_chk (chkl (cx_U ts20_2) gb42) (fun k15 => ?_)
              refine rl_rdE (wg_id wm_s20_2 ix41 (by omega) (by omega)) (fun x43 ex43 => ?_)
              have mx43 : x43.toInt = (M.1 144 3).toInt := by rw [ex43, ti_n ix41, ((up_tr (up_tr uy1_1 uy2_1) us20_2)).2.2.2.1]; rfl
              have lx43 : x43.toInt < 0 := by rw [mx43]; exact h1
              refine rl_bnd (Q := fun (y z : Option Nat) => (y = none ∧ z = none)) ?_ ?_
              · refine rl_if (fun c16 => ?_) (fun c16 => ?_)
                · have dc16 := tl_lt (rfl : TI x43 x43.toInt) tn_0 c16
                  exact rl_some ⟨rfl, rfl⟩
                · have dc16 := tl_nlt (rfl : TI x43 x43.toInt) tn_0 c16
                  exfalso
                  omega
              · rintro y44 y44r oy44
                refine rl_bnd (Q := fun (y z : DD) => Up mu 144 s20_2 s20_2r y z) ?_ ?_
                · refine rl_ifD (or_iff (mu := mu) (L := L) (Or.inl oy44)) (fun c17 => ?_) (fun c17 => ?_)
                  · exact rl_some (up_0 mu (κ := 144) _ _)
                  · exact absurd oy44.1 c17
                · rintro y45 y45r uy45
                  have uy45 : Up mu 144 s20_2 s20_2r y45 y45r := uy45
                  have ty45 := cx_up ts20_2 uy45
                  have wm_y45 := wg_up uy45 wm_s20_2
                  have wFL_y45 := wq_up uy45 wFL_s20_2
                  have wFU_y45 := wq_up uy45 wFU_s20_2
                  have wFV_y45 := wq_up uy45 wFV_s20_2
                  refine rl_ltI (av_add is20_1 tn_1 (by omega) (by omega)) (fun x46 ix46 => ?_)
                  refine rl_inlQ (fun (y z : Int32 × DD) => y.1 = z.1 ∧ (2 ≤ y.1.toInt ∧ y.1.toInt ≤ 2) ∧ Up mu 144 y2_1 y2_1r y.2 z.2 ∧ WQ mu y.2 z.2 140 16 16 (fun r x => x14.toInt + r * 16 + x) ∧ WQ mu y.2 z.2 140 (16 / 2) (16 / 2) (fun r x => x18.toInt + 0 + r * 8 + x) ∧ WQ mu y.2 z.2 140 (16 / 2) (16 / 2) (fun r x => x18.toInt + 64 + r * 8 + x)) ⟨rfl, (ti_bd ix46 (by omega) (by omega)), (up_tr us20_2 uy45), wFL_y45, wFU_y45, wFV_y45⟩ ?_
                  rintro ⟨s20_1, s20_2⟩ ⟨s20_1r, s20_2r⟩ ⟨es20_1, ls20_1, us20_2, wFL_s20_2, wFU_s20_2, wFV_s20_2⟩
                  obtain rfl : s20_1 = s20_1r := es20_1
                  have ls20_1 : 2 ≤ s20_1.toInt ∧ s20_1.toInt ≤ 2 := ls20_1
                  have is20_1 : TI s20_1 (2) := ti_c ls20_1
                  have us20_2 : Up mu 144 y2_1 y2_1r s20_2 s20_2r := us20_2
                  have ts20_2 := cx_up ty2_1 us20_2
                  have wm_s20_2 := wg_up us20_2 wm_y2_1
                  have wFL_s20_2 : WQ mu s20_2 s20_2r 140 16 16 (fun r x => x14.toInt + r * 16 + x) := wFL_s20_2
                  have wFU_s20_2 : WQ mu s20_2 s20_2r 140 (16 / 2) (16 / 2) (fun r x => x18.toInt + 0 + r * 8 + x) := wFU_s20_2
                  have wFV_s20_2 : WQ mu s20_2 s20_2r 140 (16 / 2) (16 / 2) (fun r x => x18.toInt + 64 + r * 8 + x) := wFV_s20_2
                  refine rl_it1 ?_
                  refine rl_if (fun c18 => ?_) (fun c18 => ?_)
                  · have dc18 := tl_le tn_2 is20_1 c18
                    refine rl_inrQ (fun (y z : Int32 × DD) => y.1 = z.1 ∧ Up mu 144 y2_1 y2_1r y.2 z.2 ∧ WQ mu y.2 z.2 140 16 16 (fun r x => x14.toInt + r * 16 + x) ∧ WQ mu y.2 z.2 140 (16 / 2) (16 / 2) (fun r x => x18.toInt + 0 + r * 8 + x) ∧ WQ mu y.2 z.2 140 (16 / 2) (16 / 2) (fun r x => x18.toInt + 64 + r * 8 + x)) ⟨rfl, us20_2, wFL_s20_2, wFU_s20_2, wFV_s20_2⟩ ?_
                    rintro ⟨y19_1, y19_2⟩ ⟨y19_1r, y19_2r⟩ ⟨ey19_1, uy19_2, wFL_y19_2, wFU_y19_2, wFV_y19_2⟩
                    obtain rfl : y19_1 = y19_1r := ey19_1
                    have uy19_2 : Up mu 144 y2_1 y2_1r y19_2 y19_2r := uy19_2
                    have ty19_2 := cx_up ty2_1 uy19_2
                    have wm_y19_2 := wg_up uy19_2 wm_y2_1
                    have wFL_y19_2 : WQ mu y19_2 y19_2r 140 16 16 (fun r x => x14.toInt + r * 16 + x) := wFL_y19_2
                    have wFU_y19_2 : WQ mu y19_2 y19_2r 140 (16 / 2) (16 / 2) (fun r x => x18.toInt + 0 + r * 8 + x) := wFU_y19_2
                    have wFV_y19_2 : WQ mu y19_2 y19_2r 140 (16 / 2) (16 / 2) (fun r x => x18.toInt + 64 + r * 8 + x) := wFV_y19_2
                    refine rl_bndK ?_
                    refine rl_itQ (fun (y z : Int32 × DD) => y.1 = z.1 ∧ (0 ≤ y.1.toInt ∧ y.1.toInt ≤ 0) ∧ Up mu 144 y19_2 y19_2r y.2 z.2) ⟨rfl, (ti_bd tn_0 (by omega) (by omega)), (up_0 mu (κ := 144) _ _)⟩ ?_
                    rintro ⟨s23_1, s23_2⟩ ⟨s23_1r, s23_2r⟩ ⟨es23_1, ls23_1, us23_2⟩
                    obtain rfl : s23_1 = s23_1r := es23_1
                    have ls23_1 : 0 ≤ s23_1.toInt ∧ s23_1.toInt ≤ 0 := ls23_1
                    have is23_1 : TI s23_1 (0) := ti_c ls23_1
                    have us23_2 : Up mu 144 y19_2 y19_2r s23_2 s23_2r := us23_2
                    have ts23_2 := cx_up ty19_2 us23_2
                    have wm_s23_2 := wg_up us23_2 wm_y19_2
                    have wFL_s23_2 := wq_up us23_2 wFL_y19_2
                    have wFU_s23_2 := wq_up us23_2 wFU_y19_2
                    have wFV_s23_2 := wq_up us23_2 wFV_y19_2
                    refine rl_it1 ?_
                    refine rl_bnd (Q := fun (y z : Int32) => y = z ∧ (3 ≤ y.toInt ∧ y.toInt ≤ 3)) ?_ ?_
                    · refine rl_if (fun c19 => ?_) (fun c19 => ?_)
                      · have dc19 := tl_eq i4 tn_0 c19
                        exfalso
                        omega
                      · have dc19 := tl_ne i4 tn_0 c19
                        exact rl_some ⟨rfl, (ti_bd tn_3 (by omega) (by omega))⟩
                    · rintro y26 y26r ⟨ey26, ly26⟩
                      obtain rfl : y26 = y26r := ey26
                      have ly26 : 3 ≤ y26.toInt ∧ y26.toInt ≤ 3 := ly26
                      have iy26 : TI y26 (3) := ti_c ly26
                      refine rl_if (fun c20 => ?_) (fun c20 => ?_)
                      · have dc20 := tl_le iy26 is23_1 c20
                        exfalso
                        omega
                      · have dc20 := tl_nle iy26 is23_1 c20
                        refine rl_bnd (r_chooseWeights ts23_2 ⟨rfl, rfl⟩ is23_1 (by omega) (by omega) wm_s23_2) ?_
                        rintro ⟨y28_1, y28_2⟩ ⟨y28_1r, y28_2r⟩ ⟨uy28_1', ey28_2, ly28_2, vk9_y28_1, vk11_y28_1, vk10_y28_1, vk12_y28_1, vk13_y28_1⟩
                        have uy28_1 : Up mu 144 s23_2 s23_2r y28_1 y28_1r := uy28_1'
                        have ty28_1 := cx_up ts23_2 uy28_1
                        have wm_y28_1 := wg_up uy28_1 wm_s23_2
                        have wFL_y28_1 := wq_up uy28_1 wFL_s23_2
                        have wFU_y28_1 := wq_up uy28_1 wFU_s23_2
                        have wFV_y28_1 := wq_up uy28_1 wFV_s23_2
                        obtain rfl : y28_2 = y28_2r := ey28_2
                        dsimp only at ly28_2
                        have iy28_2 : TI y28_2 y28_2.toInt := rfl
                        have n0 : (s23_2.1 144 0).toInt = (M.1 144 0).toInt := by rw [((up_tr (up_tr (up_tr uy1_1 uy2_1) uy19_2) us23_2)).2.2.2.1]
                        have n3 : (s23_2.1 144 3).toInt = (M.1 144 3).toInt := by rw [((up_tr (up_tr (up_tr uy1_1 uy2_1) uy19_2) us23_2)).2.2.2.1]
                        have g0 := h0.1.1
                        have g1 := h1
                        refine rl_bnd (Q := fun (y z : DD) => Up mu 144 y28_1 y28_1r y z ∧ WQ mu y z 139 16 16 (fun r x => x14.toInt + r * 16 + x)) ?_ ?_
                        · refine rl_if (fun c21 => ?_) (fun c21 => ?_)
                          · have dc21 := tl_eq is23_1 tn_0 c21
                            refine rl_bnd (r_blend ty28_1 iy28_2 ix14 tn_16 i3 (by omega) (by omega) (by omega) (by omega) (by omega) (by omega) (fun _ => wq_cs wFL_y28_1 (Int.le_refl _) (Int.le_refl _) (fun r x h1 h2 h3 h4 => by (try dsimp only) <;> omega)) (fun h => absurd h (cw_b ly28_2.2 n0 n3 g0 g1)) vk9_y28_1 (fun h => absurd h (cw_c ly28_2.2 n0 n3 g0 g1)) vk11_y28_1 (fun h => absurd h (cw_c ly28_2.2 n0 n3 g0 g1)) vk13_y28_1) ?_
                            rintro y37 y37r ⟨uy37', vGY_y37'⟩
                            have uy37 : Up mu 144 y28_1 y28_1r y37 y37r := uy37'
                            have ty37 := cx_up ty28_1 uy37
                            have wm_y37 := wg_up uy37 wm_y28_1
                            have wFL_y37 := wq_up uy37 wFL_y28_1
                            have wFU_y37 := wq_up uy37 wFU_y28_1
                            have wFV_y37 := wq_up uy37 wFV_y28_1
                            have wk9_y37 := fun h => ag_up uy37 (vk9_y28_1 h)
                            have wk11_y37 := fun h => ag_up uy37 (vk11_y28_1 h)
                            have wk10_y37 := fun h => ag_up uy37 (vk10_y28_1 h)
                            have wk12_y37 := fun h => ag_up uy37 (vk12_y28_1 h)
                            have wk13_y37 := fun h => ag_up uy37 (vk13_y28_1 h)
                            have vGY_y37 : WQ mu y37 y37r 139 16 16 (fun r x => x14.toInt + r * 16 + x) := wq_cs vGY_y37' (by omega) (by omega) (fun r x h1 h2 h3 h4 => by (try dsimp only) <;> omega)
                            exact rl_some ⟨uy37, vGY_y37⟩
                          · have dc21 := tl_ne is23_1 tn_0 c21
                            exfalso
                            omega
                        · rintro y29 y29r ⟨uy29, wGY_y29⟩
                          have uy29 : Up mu 144 y28_1 y28_1r y29 y29r := uy29
                          have ty29 := cx_up ty28_1 uy29
                          have wm_y29 := wg_up uy29 wm_y28_1
                          have wFL_y29 := wq_up uy29 wFL_y28_1
                          have wFU_y29 := wq_up uy29 wFU_y28_1
                          have wFV_y29 := wq_up uy29 wFV_y28_1
                          have wk9_y29 := fun h => ag_up uy29 (vk9_y28_1 h)
                          have wk11_y29 := fun h => ag_up uy29 (vk11_y28_1 h)
                          have wk10_y29 := fun h => ag_up uy29 (vk10_y28_1 h)
                          have wk12_y29 := fun h => ag_up uy29 (vk12_y28_1 h)
                          have wk13_y29 := fun h => ag_up uy29 (vk13_y28_1 h)
                          have wGY_y29 : WQ mu y29 y29r 139 16 16 (fun r x => x14.toInt + r * 16 + x) := wGY_y29
                          refine rl_ltI (av_add is23_1 tn_1 (by omega) (by omega)) (fun x30 ix30 => ?_)
                          refine rl_inlQ (fun (y z : Int32 × DD) => y.1 = z.1 ∧ (1 ≤ y.1.toInt ∧ y.1.toInt ≤ 1) ∧ Up mu 144 y19_2 y19_2r y.2 z.2 ∧ WQ mu y.2 z.2 139 16 16 (fun r x => x14.toInt + r * 16 + x)) ⟨rfl, (ti_bd ix30 (by omega) (by omega)), (up_tr (up_tr us23_2 uy28_1) uy29), wGY_y29⟩ ?_
                          rintro ⟨s23_1, s23_2⟩ ⟨s23_1r, s23_2r⟩ ⟨es23_1, ls23_1, us23_2, wGY_s23_2⟩
                          obtain rfl : s23_1 = s23_1r := es23_1
                          have ls23_1 : 1 ≤ s23_1.toInt ∧ s23_1.toInt ≤ 1 := ls23_1
                          have is23_1 : TI s23_1 (1) := ti_c ls23_1
                          have us23_2 : Up mu 144 y19_2 y19_2r s23_2 s23_2r := us23_2
                          have ts23_2 := cx_up ty19_2 us23_2
                          have wm_s23_2 := wg_up us23_2 wm_y19_2
                          have wFL_s23_2 := wq_up us23_2 wFL_y19_2
                          have wFU_s23_2 := wq_up us23_2 wFU_y19_2
                          have wFV_s23_2 := wq_up us23_2 wFV_y19_2
                          have wGY_s23_2 : WQ mu s23_2 s23_2r 139 16 16 (fun r x => x14.toInt + r * 16 + x) := wGY_s23_2
                          refine rl_it1 ?_
                          refine rl_bnd (Q := fun (y z : Int32) => y = z ∧ (3 ≤ y.toInt ∧ y.toInt ≤ 3)) ?_ ?_
                          · refine rl_if (fun c22 => ?_) (fun c22 => ?_)
                            · have dc22 := tl_eq i4 tn_0 c22
                              exfalso
                              omega
                            · have dc22 := tl_ne i4 tn_0 c22
                              exact rl_some ⟨rfl, (ti_bd tn_3 (by omega) (by omega))⟩
                          · rintro y26 y26r ⟨ey26, ly26⟩
                            obtain rfl : y26 = y26r := ey26
                            have ly26 : 3 ≤ y26.toInt ∧ y26.toInt ≤ 3 := ly26
                            have iy26 : TI y26 (3) := ti_c ly26
                            refine rl_if (fun c23 => ?_) (fun c23 => ?_)
                            · have dc23 := tl_le iy26 is23_1 c23
                              exfalso
                              omega
                            · have dc23 := tl_nle iy26 is23_1 c23
                              refine rl_bnd (r_chooseWeights ts23_2 ⟨rfl, rfl⟩ is23_1 (by omega) (by omega) wm_s23_2) ?_
                              rintro ⟨y28_1, y28_2⟩ ⟨y28_1r, y28_2r⟩ ⟨uy28_1', ey28_2, ly28_2, vk9_y28_1, vk11_y28_1, vk10_y28_1, vk12_y28_1, vk13_y28_1⟩
                              have uy28_1 : Up mu 144 s23_2 s23_2r y28_1 y28_1r := uy28_1'
                              have ty28_1 := cx_up ts23_2 uy28_1
                              have wm_y28_1 := wg_up uy28_1 wm_s23_2
                              have wFL_y28_1 := wq_up uy28_1 wFL_s23_2
                              have wFU_y28_1 := wq_up uy28_1 wFU_s23_2
                              have wFV_y28_1 := wq_up uy28_1 wFV_s23_2
                              have wGY_y28_1 := wq_up uy28_1 wGY_s23_2
                              obtain rfl : y28_2 = y28_2r := ey28_2
                              dsimp only at ly28_2
                              have iy28_2 : TI y28_2 y28_2.toInt := rfl
                              have n0 : (s23_2.1 144 0).toInt = (M.1 144 0).toInt := by rw [((up_tr (up_tr (up_tr uy1_1 uy2_1) uy19_2) us23_2)).2.2.2.1]
                              have n3 : (s23_2.1 144 3).toInt = (M.1 144 3).toInt := by rw [((up_tr (up_tr (up_tr uy1_1 uy2_1) uy19_2) us23_2)).2.2.2.1]
                              have g0 := h0.1.1
                              have g1 := h1
                              refine rl_bnd (Q := fun (y z : DD) => Up mu 144 y28_1 y28_1r y z ∧ WQ mu y z 139 (16 / 2) (16 / 2) (fun r x => x18.toInt + 0 + r * 8 + x)) ?_ ?_
                              · refine rl_if (fun c24 => ?_) (fun c24 => ?_)
                                · have dc24 := tl_eq is23_1 tn_0 c24
                                  exfalso
                                  omega
                                · have dc24 := tl_ne is23_1 tn_0 c24
                                  refine rl_ltI (av_sub is23_1 tn_1 (by omega) (by omega)) (fun x32 ix32 => ?_)
                                  refine rl_ltI (av_mul tn_64 ix32 (by omega) (by omega)) (fun x33 ix33 => ?_)
                                  refine rl_ltI (av_add ix18 ix33 (by omega) (by omega)) (fun x34 ix34 => ?_)
                                  refine rl_ltI (av_div i3 tn_2 (by omega) (by omega)) (fun x35 ix35 => ?_)
                                  refine rl_bnd (r_blend ty28_1 iy28_2 ix34 tn_8 ix35 (by omega) (by omega) (by omega) (by omega) (by omega) (by omega) (fun _ => wq_cs wFU_y28_1 (Int.le_refl _) (Int.le_refl _) (fun r x h1 h2 h3 h4 => by (try dsimp only) <;> omega)) (fun h => absurd h (cw_b ly28_2.2 n0 n3 g0 g1)) vk9_y28_1 (fun h => absurd h (cw_c ly28_2.2 n0 n3 g0 g1)) vk11_y28_1 (fun h => absurd h (cw_c ly28_2.2 n0 n3 g0 g1)) vk13_y28_1) ?_
                                  rintro y36 y36r ⟨uy36', vGU_y36'⟩
                                  have uy36 : Up mu 144 y28_1 y28_1r y36 y36r := uy36'
                                  have ty36 := cx_up ty28_1 uy36
                                  have wm_y36 := wg_up uy36 wm_y28_1
                                  have wFL_y36 := wq_up uy36 wFL_y28_1
                                  have wFU_y36 := wq_up uy36 wFU_y28_1
                                  have wFV_y36 := wq_up uy36 wFV_y28_1
                                  have wGY_y36 := wq_up uy36 wGY_y28_1
                                  have wk9_y36 := fun h => ag_up uy36 (vk9_y28_1 h)
                                  have wk11_y36 := fun h => ag_up uy36 (vk11_y28_1 h)
                                  have wk10_y36 := fun h => ag_up uy36 (vk10_y28_1 h)
                                  have wk12_y36 := fun h => ag_up uy36 (vk12_y28_1 h)
                                  have wk13_y36 := fun h => ag_up uy36 (vk13_y28_1 h)
                                  have vGU_y36 : WQ mu y36 y36r 139 (16 / 2) (16 / 2) (fun r x => x18.toInt + 0 + r * 8 + x) := wq_cs vGU_y36' (by omega) (by omega) (fun r x h1 h2 h3 h4 => by (try dsimp only) <;> omega)
                                  exact rl_some ⟨uy36, vGU_y36⟩
                              · rintro y29 y29r ⟨uy29, wGU_y29⟩
                                have uy29 : Up mu 144 y28_1 y28_1r y29 y29r := uy29
                                have ty29 := cx_up ty28_1 uy29
                                have wm_y29 := wg_up uy29 wm_y28_1
                                have wFL_y29 := wq_up uy29 wFL_y28_1
                                have wFU_y29 := wq_up uy29 wFU_y28_1
                                have wFV_y29 := wq_up uy29 wFV_y28_1
                                have wGY_y29 := wq_up uy29 wGY_y28_1
                                have wk9_y29 := fun h => ag_up uy29 (vk9_y28_1 h)
                                have wk11_y29 := fun h => ag_up uy29 (vk11_y28_1 h)
                                have wk10_y29 := fun h => ag_up uy29 (vk10_y28_1 h)
                                have wk12_y29 := fun h => ag_up uy29 (vk12_y28_1 h)
                                have wk13_y29 := fun h => ag_up uy29 (vk13_y28_1 h)
                                have wGU_y29 : WQ mu y29 y29r 139 (16 / 2) (16 / 2) (fun r x => x18.toInt + 0 + r * 8 + x) := wGU_y29
                                refine rl_ltI (av_add is23_1 tn_1 (by omega) (by omega)) (fun x30 ix30 => ?_)
                                refine rl_inlQ (fun (y z : Int32 × DD) => y.1 = z.1 ∧ (2 ≤ y.1.toInt ∧ y.1.toInt ≤ 2) ∧ Up mu 144 y19_2 y19_2r y.2 z.2 ∧ WQ mu y.2 z.2 139 16 16 (fun r x => x14.toInt + r * 16 + x) ∧ WQ mu y.2 z.2 139 (16 / 2) (16 / 2) (fun r x => x18.toInt + 0 + r * 8 + x)) ⟨rfl, (ti_bd ix30 (by omega) (by omega)), (up_tr (up_tr us23_2 uy28_1) uy29), wGY_y29, wGU_y29⟩ ?_
                                rintro ⟨s23_1, s23_2⟩ ⟨s23_1r, s23_2r⟩ ⟨es23_1, ls23_1, us23_2, wGY_s23_2, wGU_s23_2⟩
                                obtain rfl : s23_1 = s23_1r := es23_1
                                have ls23_1 : 2 ≤ s23_1.toInt ∧ s23_1.toInt ≤ 2 := ls23_1
                                have is23_1 : TI s23_1 (2) := ti_c ls23_1
                                have us23_2 : Up mu 144 y19_2 y19_2r s23_2 s23_2r := us23_2
                                have ts23_2 := cx_up ty19_2 us23_2
                                have wm_s23_2 := wg_up us23_2 wm_y19_2
                                have wFL_s23_2 := wq_up us23_2 wFL_y19_2
                                have wFU_s23_2 := wq_up us23_2 wFU_y19_2
                                have wFV_s23_2 := wq_up us23_2 wFV_y19_2
                                have wGY_s23_2 : WQ mu s23_2 s23_2r 139 16 16 (fun r x => x14.toInt + r * 16 + x) := wGY_s23_2
                                have wGU_s23_2 : WQ mu s23_2 s23_2r 139 (16 / 2) (16 / 2) (fun r x => x18.toInt + 0 + r * 8 + x) := wGU_s23_2
                                refine rl_it1 ?_
                                refine rl_bnd (Q := fun (y z : Int32) => y = z ∧ (3 ≤ y.toInt ∧ y.toInt ≤ 3)) ?_ ?_
                                · refine rl_if (fun c25 => ?_) (fun c25 => ?_)
                                  · have dc25 := tl_eq i4 tn_0 c25
                                    exfalso
                                    omega
                                  · have dc25 := tl_ne i4 tn_0 c25
                                    exact rl_some ⟨rfl, (ti_bd tn_3 (by omega) (by omega))⟩
                                · rintro y26 y26r ⟨ey26, ly26⟩
                                  obtain rfl : y26 = y26r := ey26
                                  have ly26 : 3 ≤ y26.toInt ∧ y26.toInt ≤ 3 := ly26
                                  have iy26 : TI y26 (3) := ti_c ly26
                                  refine rl_if (fun c26 => ?_) (fun c26 => ?_)
                                  · have dc26 := tl_le iy26 is23_1 c26
                                    exfalso
                                    omega
                                  · have dc26 := tl_nle iy26 is23_1 c26
                                    refine rl_bnd (r_chooseWeights ts23_2 ⟨rfl, rfl⟩ is23_1 (by omega) (by omega) wm_s23_2) ?_
                                    rintro ⟨y28_1, y28_2⟩ ⟨y28_1r, y28_2r⟩ ⟨uy28_1', ey28_2, ly28_2, vk9_y28_1, vk11_y28_1, vk10_y28_1, vk12_y28_1, vk13_y28_1⟩
                                    have uy28_1 : Up mu 144 s23_2 s23_2r y28_1 y28_1r := uy28_1'
                                    have ty28_1 := cx_up ts23_2 uy28_1
                                    have wm_y28_1 := wg_up uy28_1 wm_s23_2
                                    have wFL_y28_1 := wq_up uy28_1 wFL_s23_2
                                    have wFU_y28_1 := wq_up uy28_1 wFU_s23_2
                                    have wFV_y28_1 := wq_up uy28_1 wFV_s23_2
                                    have wGY_y28_1 := wq_up uy28_1 wGY_s23_2
                                    have wGU_y28_1 := wq_up uy28_1 wGU_s23_2
                                    obtain rfl : y28_2 = y28_2r := ey28_2
                                    dsimp only at ly28_2
                                    have iy28_2 : TI y28_2 y28_2.toInt := rfl
                                    have n0 : (s23_2.1 144 0).toInt = (M.1 144 0).toInt := by rw [((up_tr (up_tr (up_tr uy1_1 uy2_1) uy19_2) us23_2)).2.2.2.1]
                                    have n3 : (s23_2.1 144 3).toInt = (M.1 144 3).toInt := by rw [((up_tr (up_tr (up_tr uy1_1 uy2_1) uy19_2) us23_2)).2.2.2.1]
                                    have g0 := h0.1.1
                                    have g1 := h1
                                    refine rl_bnd (Q := fun (y z : DD) => Up mu 144 y28_1 y28_1r y z ∧ WQ mu y z 139 (16 / 2) (16 / 2) (fun r x => x18.toInt + 64 + r * 8 + x)) ?_ ?_
                                    · refine rl_if (fun c27 => ?_) (fun c27 => ?_)
                                      · have dc27 := tl_eq is23_1 tn_0 c27
                                        exfalso
                                        omega
                                      · have dc27 := tl_ne is23_1 tn_0 c27
                                        refine rl_ltI (av_sub is23_1 tn_1 (by omega) (by omega)) (fun x32 ix32 => ?_)
                                        refine rl_ltI (av_mul tn_64 ix32 (by omega) (by omega)) (fun x33 ix33 => ?_)
                                        refine rl_ltI (av_add ix18 ix33 (by omega) (by omega)) (fun x34 ix34 => ?_)
                                        refine rl_ltI (av_div i3 tn_2 (by omega) (by omega)) (fun x35 ix35 => ?_)
                                        refine rl_bnd (r_blend ty28_1 iy28_2 ix34 tn_8 ix35 (by omega) (by omega) (by omega) (by omega) (by omega) (by omega) (fun _ => wq_cs wFV_y28_1 (Int.le_refl _) (Int.le_refl _) (fun r x h1 h2 h3 h4 => by (try dsimp only) <;> omega)) (fun h => absurd h (cw_b ly28_2.2 n0 n3 g0 g1)) vk9_y28_1 (fun h => absurd h (cw_c ly28_2.2 n0 n3 g0 g1)) vk11_y28_1 (fun h => absurd h (cw_c ly28_2.2 n0 n3 g0 g1)) vk13_y28_1) ?_
                                        rintro y36 y36r ⟨uy36', vGV_y36'⟩
                                        have uy36 : Up mu 144 y28_1 y28_1r y36 y36r := uy36'
                                        have ty36 := cx_up ty28_1 uy36
                                        have wm_y36 := wg_up uy36 wm_y28_1
                                        have wFL_y36 := wq_up uy36 wFL_y28_1
                                        have wFU_y36 := wq_up uy36 wFU_y28_1
                                        have wFV_y36 := wq_up uy36 wFV_y28_1
                                        have wGY_y36 := wq_up uy36 wGY_y28_1
                                        have wGU_y36 := wq_up uy36 wGU_y28_1
                                        have wk9_y36 := fun h => ag_up uy36 (vk9_y28_1 h)
                                        have wk11_y36 := fun h => ag_up uy36 (vk11_y28_1 h)
                                        have wk10_y36 := fun h => ag_up uy36 (vk10_y28_1 h)
                                        have wk12_y36 := fun h => ag_up uy36 (vk12_y28_1 h)
                                        have wk13_y36 := fun h => ag_up uy36 (vk13_y28_1 h)
                                        have vGV_y36 : WQ mu y36 y36r 139 (16 / 2) (16 / 2) (fun r x => x18.toInt + 64 + r * 8 + x) := wq_cs vGV_y36' (by omega) (by omega) (fun r x h1 h2 h3 h4 => by (try dsimp only) <;> omega)
                                        exact rl_some ⟨uy36, vGV_y36⟩
                                    · rintro y29 y29r ⟨uy29, wGV_y29⟩
                                      have uy29 : Up mu 144 y28_1 y28_1r y29 y29r := uy29
                                      have ty29 := cx_up ty28_1 uy29
                                      have wm_y29 := wg_up uy29 wm_y28_1
                                      have wFL_y29 := wq_up uy29 wFL_y28_1
                                      have wFU_y29 := wq_up uy29 wFU_y28_1
                                      have wFV_y29 := wq_up uy29 wFV_y28_1
                                      have wGY_y29 := wq_up uy29 wGY_y28_1
                                      have wGU_y29 := wq_up uy29 wGU_y28_1
                                      have wk9_y29 := fun h => ag_up uy29 (vk9_y28_1 h)
                                      have wk11_y29 := fun h => ag_up uy29 (vk11_y28_1 h)
                                      have wk10_y29 := fun h => ag_up uy29 (vk10_y28_1 h)
                                      have wk12_y29 := fun h => ag_up uy29 (vk12_y28_1 h)
                                      have wk13_y29 := fun h => ag_up uy29 (vk13_y28_1 h)
                                      have wGV_y29 : WQ mu y29 y29r 139 (16 / 2) (16 / 2) (fun r x => x18.toInt + 64 + r * 8 + x) := wGV_y29
                                      refine rl_ltI (av_add is23_1 tn_1 (by omega) (by omega)) (fun x30 ix30 => ?_)
                                      refine rl_inlQ (fun (y z : Int32 × DD) => y.1 = z.1 ∧ (3 ≤ y.1.toInt ∧ y.1.toInt ≤ 3) ∧ Up mu 144 y19_2 y19_2r y.2 z.2 ∧ WQ mu y.2 z.2 139 16 16 (fun r x => x14.toInt + r * 16 + x) ∧ WQ mu y.2 z.2 139 (16 / 2) (16 / 2) (fun r x => x18.toInt + 0 + r * 8 + x) ∧ WQ mu y.2 z.2 139 (16 / 2) (16 / 2) (fun r x => x18.toInt + 64 + r * 8 + x)) ⟨rfl, (ti_bd ix30 (by omega) (by omega)), (up_tr (up_tr us23_2 uy28_1) uy29), wGY_y29, wGU_y29, wGV_y29⟩ ?_
                                      rintro ⟨s23_1, s23_2⟩ ⟨s23_1r, s23_2r⟩ ⟨es23_1, ls23_1, us23_2, wGY_s23_2, wGU_s23_2, wGV_s23_2⟩
                                      obtain rfl : s23_1 = s23_1r := es23_1
                                      have ls23_1 : 3 ≤ s23_1.toInt ∧ s23_1.toInt ≤ 3 := ls23_1
                                      have is23_1 : TI s23_1 (3) := ti_c ls23_1
                                      have us23_2 : Up mu 144 y19_2 y19_2r s23_2 s23_2r := us23_2
                                      have ts23_2 := cx_up ty19_2 us23_2
                                      have wm_s23_2 := wg_up us23_2 wm_y19_2
                                      have wFL_s23_2 := wq_up us23_2 wFL_y19_2
                                      have wFU_s23_2 := wq_up us23_2 wFU_y19_2
                                      have wFV_s23_2 := wq_up us23_2 wFV_y19_2
                                      have wGY_s23_2 : WQ mu s23_2 s23_2r 139 16 16 (fun r x => x14.toInt + r * 16 + x) := wGY_s23_2
                                      have wGU_s23_2 : WQ mu s23_2 s23_2r 139 (16 / 2) (16 / 2) (fun r x => x18.toInt + 0 + r * 8 + x) := wGU_s23_2
                                      have wGV_s23_2 : WQ mu s23_2 s23_2r 139 (16 / 2) (16 / 2) (fun r x => x18.toInt + 64 + r * 8 + x) := wGV_s23_2
                                      refine rl_it1 ?_
                                      refine rl_bnd (Q := fun (y z : Int32) => y = z ∧ (3 ≤ y.toInt ∧ y.toInt ≤ 3)) ?_ ?_
                                      · refine rl_if (fun c28 => ?_) (fun c28 => ?_)
                                        · have dc28 := tl_eq i4 tn_0 c28
                                          exfalso
                                          omega
                                        · have dc28 := tl_ne i4 tn_0 c28
                                          exact rl_some ⟨rfl, (ti_bd tn_3 (by omega) (by omega))⟩
                                      · rintro y26 y26r ⟨ey26, ly26⟩
                                        obtain rfl : y26 = y26r := ey26
                                        have ly26 : 3 ≤ y26.toInt ∧ y26.toInt ≤ 3 := ly26
                                        have iy26 : TI y26 (3) := ti_c ly26
                                        refine rl_if (fun c29 => ?_) (fun c29 => ?_)
                                        · have dc29 := tl_le iy26 is23_1 c29
                                          refine rl_inrQ (fun (y z : Int32 × DD) => y.1 = z.1 ∧ Up mu 144 y19_2 y19_2r y.2 z.2 ∧ WQ mu y.2 z.2 139 16 16 (fun r x => x14.toInt + r * 16 + x) ∧ WQ mu y.2 z.2 139 (16 / 2) (16 / 2) (fun r x => x18.toInt + 0 + r * 8 + x) ∧ WQ mu y.2 z.2 139 (16 / 2) (16 / 2) (fun r x => x18.toInt + 64 + r * 8 + x)) ⟨rfl, us23_2, wGY_s23_2, wGU_s23_2, wGV_s23_2⟩ ?_
                                          rintro ⟨y22_1, y22_2⟩ ⟨y22_1r, y22_2r⟩ ⟨ey22_1, uy22_2, wGY_y22_2, wGU_y22_2, wGV_y22_2⟩
                                          obtain rfl : y22_1 = y22_1r := ey22_1
                                          have uy22_2 : Up mu 144 y19_2 y19_2r y22_2 y22_2r := uy22_2
                                          have ty22_2 := cx_up ty19_2 uy22_2
                                          have wm_y22_2 := wg_up uy22_2 wm_y19_2
                                          have wFL_y22_2 := wq_up uy22_2 wFL_y19_2
                                          have wFU_y22_2 := wq_up uy22_2 wFU_y19_2
                                          have wFV_y22_2 := wq_up uy22_2 wFV_y19_2
                                          have wGY_y22_2 : WQ mu y22_2 y22_2r 139 16 16 (fun r x => x14.toInt + r * 16 + x) := wGY_y22_2
                                          have wGU_y22_2 : WQ mu y22_2 y22_2r 139 (16 / 2) (16 / 2) (fun r x => x18.toInt + 0 + r * 8 + x) := wGU_y22_2
                                          have wGV_y22_2 : WQ mu y22_2 y22_2r 139 (16 / 2) (16 / 2) (fun r x => x18.toInt + 64 + r * 8 + x) := wGV_y22_2
                                          exact rl_some ⟨(up_tr (up_tr (up_tr uy1_1 uy2_1) uy19_2) uy22_2), (wq_cs wGY_y22_2 (Int.le_refl _) (Int.le_refl _) (fun r x h1 h2 h3 h4 => by (try dsimp only) <;> omega)), (wq_cs wGU_y22_2 (Int.le_refl _) (Int.le_refl _) (fun r x h1 h2 h3 h4 => by (try dsimp only) <;> omega)), (wq_cs wGV_y22_2 (Int.le_refl _) (Int.le_refl _) (fun r x h1 h2 h3 h4 => by (try dsimp only) <;> omega))⟩
                                        · have dc29 := tl_nle iy26 is23_1 c29
                                          exfalso
                                          omega
                  · have dc18 := tl_nle tn_2 is20_1 c18
                    exfalso
                    omega
    · refine rl_bnd (r_pieceX t i2 (by omega) (by omega)) ?_
      rintro ⟨y1_1, y1_2⟩ ⟨y1_1r, y1_2r⟩ ⟨uy1_1', ey1_2, iy1_2⟩
      have uy1_1 : Up mu 144 M N y1_1 y1_1r := uy1_1'
      have ty1_1 := cx_up t uy1_1
      have wm_y1_1 := wg_up uy1_1 hm
      obtain rfl : y1_2 = y1_2r := ey1_2
      refine rl_bnd (r_pieceY ty1_1 i2 (by omega) (by omega)) ?_
      rintro ⟨y2_1, y2_2⟩ ⟨y2_1r, y2_2r⟩ ⟨uy2_1', ey2_2, iy2_2⟩
      have uy2_1 : Up mu 144 y1_1 y1_1r y2_1 y2_1r := uy2_1'
      have ty2_1 := cx_up ty1_1 uy2_1
      have wm_y2_1 := wg_up uy2_1 wm_y1_1
      obtain rfl : y2_2 = y2_2r := ey2_2
      refine rl_dr (cx_U ty2_1) ⟨rfl, rfl⟩ (fun gb3 => ?_)
      refine rl_dr (cx_U ty2_1) (rx_p ty2_1) (fun gb4 => ?_)
      refine rl_rd (cx_q (j := 0) (k := 1) ty2_1 (cx_p t) rfl) (fun x5 => ?_)
      refine rl_chk (fun h => h) (fun k1 => ?_)
      refine rl_ltA (fun x6 => ?_)
      refine rl_ltA (fun x7 => ?_)
      refine rl_ltA (fun x8 => ?_)
      refine rl_rd (cx_q (j := 0) (k := 1) ty2_1 (cx_p t) rfl) (fun x9 => ?_)
      refine rl_chk (fun h => h) (fun k2 => ?_)
      refine rl_ltA (fun x10 => ?_)
      refine rl_ltA (fun x11 => ?_)
      refine rl_ltA (fun x12 => ?_)
      refine rl_ltI (av_mul tn_16 iy2_2 (by omega) (by omega)) (fun x13 ix13 => ?_)
      refine rl_ltI (av_add ix13 iy1_2 (by omega) (by omega)) (fun x14 ix14 => ?_)
      have kx14 : x14.toInt = _ := ix14
      refine rl_ltI (av_mul tn_4 iy2_2 (by omega) (by omega)) (fun x15 ix15 => ?_)
      refine rl_ltI (av_add tn_256 ix15 (by omega) (by omega)) (fun x16 ix16 => ?_)
      refine rl_ltI (av_div iy1_2 tn_2 (by omega) (by omega)) (fun x17 ix17 => ?_)
      refine rl_ltI (av_add ix16 ix17 (by omega) (by omega)) (fun x18 ix18 => ?_)
      have kx18 : x18.toInt = _ := ix18
      refine rl_bndK ?_
      refine rl_itQ (fun (y z : Int32 × DD) => y.1 = z.1 ∧ (0 ≤ y.1.toInt ∧ y.1.toInt ≤ 0) ∧ Up mu 144 y2_1 y2_1r y.2 z.2) ⟨rfl, (ti_bd tn_0 (by omega) (by omega)), (up_0 mu (κ := 144) _ _)⟩ ?_
      rintro ⟨s20_1, s20_2⟩ ⟨s20_1r, s20_2r⟩ ⟨es20_1, ls20_1, us20_2⟩
      obtain rfl : s20_1 = s20_1r := es20_1
      have ls20_1 : 0 ≤ s20_1.toInt ∧ s20_1.toInt ≤ 0 := ls20_1
      have is20_1 : TI s20_1 (0) := ti_c ls20_1
      have us20_2 : Up mu 144 y2_1 y2_1r s20_2 s20_2r := us20_2
      have ts20_2 := cx_up ty2_1 us20_2
      have wm_s20_2 := wg_up us20_2 wm_y2_1
      refine rl_it1 ?_
      refine rl_if (fun c3 => ?_) (fun c3 => ?_)
      · have dc3 := tl_le tn_2 is20_1 c3
        exfalso
        omega
      · have dc3 := tl_nle tn_2 is20_1 c3
        refine rl_ltI (av_mul tn_3 is20_1 (by omega) (by omega)) (fun x41 ix41 => ?_)
        refine rl_dr (cx_U ts20_2) (rx_c (a := 138) (k := 5) (b := 144) ts20_2 (Or.inr (Or.inl rfl)) rfl (by decide)) (fun gb42 => ?_)
        refine rl_chk (chkl (cx_U ts20_2) gb42) (fun k4 => ?_)
        refine rl_rdE (wg_id wm_s20_2 ix41 (by omega) (by omega)) (fun x43 ex43 => ?_)
        have mx43 : x43.toInt = (M.1 144 0).toInt := by rw [ex43, ti_n ix41, ((up_tr (up_tr uy1_1 uy2_1) us20_2)).2.2.2.1]; rfl
        have lx43 : x43.toInt < 0 := by rw [mx43]; exact h0
        refine rl_bnd (Q := fun (y z : Option Nat) => (y = none ∧ z = none)) ?_ ?_
        · refine rl_if (fun c5 => ?_) (fun c5 => ?_)
          · have dc5 := tl_lt (rfl : TI x43 x43.toInt) tn_0 c5
            exact rl_some ⟨rfl, rfl⟩
          · have dc5 := tl_nlt (rfl : TI x43 x43.toInt) tn_0 c5
            exfalso
            omega
        · rintro y44 y44r oy44
          refine rl_bnd (Q := fun (y z : DD) => Up mu 144 s20_2 s20_2r y z) ?_ ?_
          · refine rl_ifD (or_iff (mu := mu) (L := L) (Or.inl oy44)) (fun c6 => ?_) (fun c6 => ?_)
            · exact rl_some (up_0 mu (κ := 144) _ _)
            · exact absurd oy44.1 c6
          · rintro y45 y45r uy45
            have uy45 : Up mu 144 s20_2 s20_2r y45 y45r := uy45
            have ty45 := cx_up ts20_2 uy45
            have wm_y45 := wg_up uy45 wm_s20_2
            refine rl_ltI (av_add is20_1 tn_1 (by omega) (by omega)) (fun x46 ix46 => ?_)
            refine rl_inlQ (fun (y z : Int32 × DD) => y.1 = z.1 ∧ (1 ≤ y.1.toInt ∧ y.1.toInt ≤ 1) ∧ Up mu 144 y2_1 y2_1r y.2 z.2) ⟨rfl, (ti_bd ix46 (by omega) (by omega)), (up_tr us20_2 uy45)⟩ ?_
            rintro ⟨s20_1, s20_2⟩ ⟨s20_1r, s20_2r⟩ ⟨es20_1, ls20_1, us20_2⟩
            obtain rfl : s20_1 = s20_1r := es20_1
            have ls20_1 : 1 ≤ s20_1.toInt ∧ s20_1.toInt ≤ 1 := ls20_1
            have is20_1 : TI s20_1 (1) := ti_c ls20_1
            have us20_2 : Up mu 144 y2_1 y2_1r s20_2 s20_2r := us20_2
            have ts20_2 := cx_up ty2_1 us20_2
            have wm_s20_2 := wg_up us20_2 wm_y2_1
            refine rl_it1 ?_
            refine rl_if (fun c7 => ?_) (fun c7 => ?_)
            · have dc7 := tl_le tn_2 is20_1 c7
              exfalso
              omega
            · have dc7 := tl_nle tn_2 is20_1 c7
              refine rl_ltI (av_mul tn_3 is20_1 (by omega) (by omega)) (fun x41 ix41 => ?_)
              refine rl_dr (cx_U ts20_2) (rx_c (a := 138) (k := 5) (b := 144) ts20_2 (Or.inr (Or.inl rfl)) rfl (by decide)) (fun gb42 => ?_)
              refine rl_chk (chkl (cx_U ts20_2) gb42) (fun k8 => ?_)
              refine rl_rdE (wg_id wm_s20_2 ix41 (by omega) (by omega)) (fun x43 ex43 => ?_)
              have mx43 : x43.toInt = (M.1 144 3).toInt := by rw [ex43, ti_n ix41, ((up_tr (up_tr uy1_1 uy2_1) us20_2)).2.2.2.1]; rfl
              have lx43 : 0 ≤ x43.toInt ∧ x43.toInt ≤ 7 := by rw [mx43]; exact h1.1
              refine rl_bnd (Q := fun (y z : Option Nat) => (∃ q, q ∈ L ∧ (y = some q ∧ z = some (mu q)))) ?_ ?_
              · refine rl_if (fun c9 => ?_) (fun c9 => ?_)
                · have dc9 := tl_lt (rfl : TI x43 x43.toInt) tn_0 c9
                  exfalso
                  omega
                · have dc9 := tl_nlt (rfl : TI x43 x43.toInt) tn_0 c9
                  refine rl_bnd (Q := fun (y z : Option Nat) => (∃ q, q ∈ L ∧ (y = some q ∧ z = some (mu q)))) ?_ ?_
                  · refine rl_if (fun c10 => ?_) (fun c10 => ?_)
                    · have dc10 := tl_le (rfl : TI x43 x43.toInt) tn_8 c10
                      refine rl_ltI (av_mul tn_9 is20_1 (by omega) (by omega)) (fun x70 ix70 => ?_)
                      refine rl_ltI (av_add ix70 (rfl : TI x43 x43.toInt) (by omega) (by omega)) (fun x71 ix71 => ?_)
                      refine rl_dr (cx_U ts20_2) (rx_c (a := 125) (k := 3) (b := 126) ts20_2 (Or.inl rfl) rfl (by decide)) (fun gb72 => ?_)
                      refine rl_chk (chkl (cx_U ts20_2) gb72) (fun k11 => ?_)
                      exact rl_some (or_ne (rx_l ts20_2 _) (by rw [((up_tr (up_tr uy1_1 uy2_1) us20_2)).1.1, ti_n ix71, mx43]; exact en_ix h1 1 (by omega)))
                    · have dc10 := tl_nle (rfl : TI x43 x43.toInt) tn_8 c10
                      exfalso
                      omega
                  · rintro y68 y68r ⟨qy68, hqy68, oy68⟩
                    exact rl_some ⟨qy68, hqy68, oy68⟩
              · rintro y44 y44r ⟨qy44, hqy44, oy44⟩
                refine rl_bnd (Q := fun (y z : DD) => Up mu 144 s20_2 s20_2r y z ∧ WQ mu y z 141 16 16 (fun r x => x14.toInt + r * 16 + x) ∧ WQ mu y z 141 (16 / 2) (16 / 2) (fun r x => x18.toInt + 0 + r * 8 + x) ∧ WQ mu y z 141 (16 / 2) (16 / 2) (fun r x => x18.toInt + 64 + r * 8 + x)) ?_ ?_
                · refine rl_ifD (or_iff (mu := mu) (L := L) (Or.inr ⟨qy44, hqy44, oy44⟩)) (fun c12 => ?_) (fun c12 => ?_)
                  · exact absurd c12 (by rw [oy44.1]; exact Option.some_ne_none _)
                  · refine rl_ltA (fun x48 => ?_)
                    refine rl_ltI (av_mul tn_3 is20_1 (by omega) (by omega)) (fun x49 ix49 => ?_)
                    refine rl_ltI (av_add ix49 tn_1 (by omega) (by omega)) (fun x50 ix50 => ?_)
                    refine rl_chk (chkl (cx_U ts20_2) gb42) (fun k13 => ?_)
                    refine rl_rd (wg_id wm_s20_2 ix50 (by omega) (by omega)) (fun x51 => ?_)
                    refine rl_ltA (fun x52 => ?_)
                    refine rl_ltA (fun x53 => ?_)
                    refine rl_ltI (av_mul tn_3 is20_1 (by omega) (by omega)) (fun x54 ix54 => ?_)
                    refine rl_ltI (av_add ix54 tn_2 (by omega) (by omega)) (fun x55 ix55 => ?_)
                    refine rl_chk (chkl (cx_U ts20_2) gb42) (fun k14 => ?_)
                    refine rl_rd (wg_id wm_s20_2 ix55 (by omega) (by omega)) (fun x56 => ?_)
                    refine rl_ltA (fun x57 => ?_)
                    refine rl_bnd (Q := fun (y z : Option Nat) => (y = some 141 ∧ z = some (mu 141))) ?_ ?_
                    · refine rl_if (fun c15 => ?_) (fun c15 => ?_)
                      · have dc15 := tl_eq is20_1 tn_0 c15
                        exfalso
                        omega
                      · have dc15 := tl_ne is20_1 tn_0 c15
                        exact rl_some (rx_c (a := 138) (k := 2) (b := 141) ts20_2 (Or.inr (Or.inl rfl)) rfl (by decide))
                    · rintro y58 y58r oy58
                      refine rl_bnd (r_predictLuma ts20_2 oy44 hqy44 (rfl : TI x52 x52.toInt) (rfl : TI x57 x57.toInt) i3 oy58 (Or.inr rfl) ix14 (by omega) (by omega) (by omega)) ?_
                      rintro y59 y59r ⟨uy59', vSL_y59'⟩
                      have uy59 : Up mu 144 s20_2 s20_2r y59 y59r := uy59'
                      have ty59 := cx_up ts20_2 uy59
                      have wm_y59 := wg_up uy59 wm_s20_2
                      have vSL_y59 : WQ mu y59 y59r 141 16 16 (fun r x => x14.toInt + r * 16 + x) := wg_wq vSL_y59' (fun r x => r * 16 + x) (fun r x h1 h2 h3 h4 => by (try dsimp only); refine ⟨⟨by omega, by omega⟩, by omega⟩)
                      refine rl_bnd (Q := fun (y z : DD) => Up mu 144 y59 y59r y z ∧ WQ mu y z 141 (16 / 2) (16 / 2) (fun r x => x18.toInt + 0 + r * 8 + x) ∧ WQ mu y z 141 (16 / 2) (16 / 2) (fun r x => x18.toInt + 64 + r * 8 + x)) ?_ ?_
                      · refine rl_if (fun c16 => ?_) (fun c16 => ?_)
                        · have dc16 := tl_eq i4 tn_0 c16
                          exfalso
                          omega
                        · have dc16 := tl_ne i4 tn_0 c16
                          refine rl_ltI (av_div i3 tn_2 (by omega) (by omega)) (fun x62 ix62 => ?_)
                          refine rl_bnd (Q := fun (y z : Option Nat) => (y = some 141 ∧ z = some (mu 141))) ?_ ?_
                          · refine rl_if (fun c17 => ?_) (fun c17 => ?_)
                            · have dc17 := tl_eq is20_1 tn_0 c17
                              exfalso
                              omega
                            · have dc17 := tl_ne is20_1 tn_0 c17
                              exact rl_some (rx_c (a := 138) (k := 2) (b := 141) ty59 (Or.inr (Or.inl rfl)) rfl (by decide))
                          · rintro y63 y63r oy63
                            refine rl_bnd (r_predictColours ty59 oy44 hqy44 (rfl : TI x52 x52.toInt) (rfl : TI x57 x57.toInt) ix62 oy63 (Or.inr rfl) ix18 (by omega) (by omega) (by omega)) ?_
                            rintro y64 y64r ⟨uy64', vSU_y64', vSV_y64'⟩
                            have uy64 : Up mu 144 y59 y59r y64 y64r := uy64'
                            have ty64 := cx_up ty59 uy64
                            have wm_y64 := wg_up uy64 wm_y59
                            have wSL_y64 := wq_up uy64 vSL_y59
                            have vSU_y64 : WQ mu y64 y64r 141 (16 / 2) (16 / 2) (fun r x => x18.toInt + 0 + r * 8 + x) := wg_wq vSU_y64' (fun r x => r * (16 / 2) + x) (fun r x h1 h2 h3 h4 => by (try dsimp only); refine ⟨⟨by omega, by omega⟩, by omega⟩)
                            have vSV_y64 : WQ mu y64 y64r 141 (16 / 2) (16 / 2) (fun r x => x18.toInt + 64 + r * 8 + x) := wg_wq vSV_y64' (fun r x => r * (16 / 2) + x) (fun r x h1 h2 h3 h4 => by (try dsimp only); refine ⟨⟨by omega, by omega⟩, by omega⟩)
                            exact rl_some ⟨uy64, vSU_y64, vSV_y64⟩
                      · rintro y60 y60r ⟨uy60, wSU_y60, wSV_y60⟩
                        have uy60 : Up mu 144 y59 y59r y60 y60r := uy60
                        have ty60 := cx_up ty59 uy60
                        have wm_y60 := wg_up uy60 wm_y59
                        have wSL_y60 := wq_up uy60 vSL_y59
                        have wSU_y60 : WQ mu y60 y60r 141 (16 / 2) (16 / 2) (fun r x => x18.toInt + 0 + r * 8 + x) := wSU_y60
                        have wSV_y60 : WQ mu y60 y60r 141 (16 / 2) (16 / 2) (fun r x => x18.toInt + 64 + r * 8 + x) := wSV_y60
                        exact rl_some ⟨(up_tr uy59 uy60), wSL_y60, wSU_y60, wSV_y60⟩
                · rintro y45 y45r ⟨uy45, wSL_y45, wSU_y45, wSV_y45⟩
                  have uy45 : Up mu 144 s20_2 s20_2r y45 y45r := uy45
                  have ty45 := cx_up ts20_2 uy45
                  have wm_y45 := wg_up uy45 wm_s20_2
                  have wSL_y45 : WQ mu y45 y45r 141 16 16 (fun r x => x14.toInt + r * 16 + x) := wSL_y45
                  have wSU_y45 : WQ mu y45 y45r 141 (16 / 2) (16 / 2) (fun r x => x18.toInt + 0 + r * 8 + x) := wSU_y45
                  have wSV_y45 : WQ mu y45 y45r 141 (16 / 2) (16 / 2) (fun r x => x18.toInt + 64 + r * 8 + x) := wSV_y45
                  refine rl_ltI (av_add is20_1 tn_1 (by omega) (by omega)) (fun x46 ix46 => ?_)
                  refine rl_inlQ (fun (y z : Int32 × DD) => y.1 = z.1 ∧ (2 ≤ y.1.toInt ∧ y.1.toInt ≤ 2) ∧ Up mu 144 y2_1 y2_1r y.2 z.2 ∧ WQ mu y.2 z.2 141 16 16 (fun r x => x14.toInt + r * 16 + x) ∧ WQ mu y.2 z.2 141 (16 / 2) (16 / 2) (fun r x => x18.toInt + 0 + r * 8 + x) ∧ WQ mu y.2 z.2 141 (16 / 2) (16 / 2) (fun r x => x18.toInt + 64 + r * 8 + x)) ⟨rfl, (ti_bd ix46 (by omega) (by omega)), (up_tr us20_2 uy45), wSL_y45, wSU_y45, wSV_y45⟩ ?_
                  rintro ⟨s20_1, s20_2⟩ ⟨s20_1r, s20_2r⟩ ⟨es20_1, ls20_1, us20_2, wSL_s20_2, wSU_s20_2, wSV_s20_2⟩
                  obtain rfl : s20_1 = s20_1r := es20_1
                  have ls20_1 : 2 ≤ s20_1.toInt ∧ s20_1.toInt ≤ 2 := ls20_1
                  have is20_1 : TI s20_1 (2) := ti_c ls20_1
                  have us20_2 : Up mu 144 y2_1 y2_1r s20_2 s20_2r := us20_2
                  have ts20_2 := cx_up ty2_1 us20_2
                  have wm_s20_2 := wg_up us20_2 wm_y2_1
                  have wSL_s20_2 : WQ mu s20_2 s20_2r 141 16 16 (fun r x => x14.toInt + r * 16 + x) := wSL_s20_2
                  have wSU_s20_2 : WQ mu s20_2 s20_2r 141 (16 / 2) (16 / 2) (fun r x => x18.toInt + 0 + r * 8 + x) := wSU_s20_2
                  have wSV_s20_2 : WQ mu s20_2 s20_2r 141 (16 / 2) (16 / 2) (fun r x => x18.toInt + 64 + r * 8 + x) := wSV_s20_2
                  refine rl_it1 ?_
                  refine rl_if (fun c18 => ?_) (fun c18 => ?_)
                  · have dc18 := tl_le tn_2 is20_1 c18
                    refine rl_inrQ (fun (y z : Int32 × DD) => y.1 = z.1 ∧ Up mu 144 y2_1 y2_1r y.2 z.2 ∧ WQ mu y.2 z.2 141 16 16 (fun r x => x14.toInt + r * 16 + x) ∧ WQ mu y.2 z.2 141 (16 / 2) (16 / 2) (fun r x => x18.toInt + 0 + r * 8 + x) ∧ WQ mu y.2 z.2 141 (16 / 2) (16 / 2) (fun r x => x18.toInt + 64 + r * 8 + x)) ⟨rfl, us20_2, wSL_s20_2, wSU_s20_2, wSV_s20_2⟩ ?_
                    rintro ⟨y19_1, y19_2⟩ ⟨y19_1r, y19_2r⟩ ⟨ey19_1, uy19_2, wSL_y19_2, wSU_y19_2, wSV_y19_2⟩
                    obtain rfl : y19_1 = y19_1r := ey19_1
                    have uy19_2 : Up mu 144 y2_1 y2_1r y19_2 y19_2r := uy19_2
                    have ty19_2 := cx_up ty2_1 uy19_2
                    have wm_y19_2 := wg_up uy19_2 wm_y2_1
                    have wSL_y19_2 : WQ mu y19_2 y19_2r 141 16 16 (fun r x => x14.toInt + r * 16 + x) := wSL_y19_2
                    have wSU_y19_2 : WQ mu y19_2 y19_2r 141 (16 / 2) (16 / 2) (fun r x => x18.toInt + 0 + r * 8 + x) := wSU_y19_2
                    have wSV_y19_2 : WQ mu y19_2 y19_2r 141 (16 / 2) (16 / 2) (fun r x => x18.toInt + 64 + r * 8 + x) := wSV_y19_2
                    refine rl_bndK ?_
                    refine rl_itQ (fun (y z : Int32 × DD) => y.1 = z.1 ∧ (0 ≤ y.1.toInt ∧ y.1.toInt ≤ 0) ∧ Up mu 144 y19_2 y19_2r y.2 z.2) ⟨rfl, (ti_bd tn_0 (by omega) (by omega)), (up_0 mu (κ := 144) _ _)⟩ ?_
                    rintro ⟨s23_1, s23_2⟩ ⟨s23_1r, s23_2r⟩ ⟨es23_1, ls23_1, us23_2⟩
                    obtain rfl : s23_1 = s23_1r := es23_1
                    have ls23_1 : 0 ≤ s23_1.toInt ∧ s23_1.toInt ≤ 0 := ls23_1
                    have is23_1 : TI s23_1 (0) := ti_c ls23_1
                    have us23_2 : Up mu 144 y19_2 y19_2r s23_2 s23_2r := us23_2
                    have ts23_2 := cx_up ty19_2 us23_2
                    have wm_s23_2 := wg_up us23_2 wm_y19_2
                    have wSL_s23_2 := wq_up us23_2 wSL_y19_2
                    have wSU_s23_2 := wq_up us23_2 wSU_y19_2
                    have wSV_s23_2 := wq_up us23_2 wSV_y19_2
                    refine rl_it1 ?_
                    refine rl_bnd (Q := fun (y z : Int32) => y = z ∧ (3 ≤ y.toInt ∧ y.toInt ≤ 3)) ?_ ?_
                    · refine rl_if (fun c19 => ?_) (fun c19 => ?_)
                      · have dc19 := tl_eq i4 tn_0 c19
                        exfalso
                        omega
                      · have dc19 := tl_ne i4 tn_0 c19
                        exact rl_some ⟨rfl, (ti_bd tn_3 (by omega) (by omega))⟩
                    · rintro y26 y26r ⟨ey26, ly26⟩
                      obtain rfl : y26 = y26r := ey26
                      have ly26 : 3 ≤ y26.toInt ∧ y26.toInt ≤ 3 := ly26
                      have iy26 : TI y26 (3) := ti_c ly26
                      refine rl_if (fun c20 => ?_) (fun c20 => ?_)
                      · have dc20 := tl_le iy26 is23_1 c20
                        exfalso
                        omega
                      · have dc20 := tl_nle iy26 is23_1 c20
                        refine rl_bnd (r_chooseWeights ts23_2 ⟨rfl, rfl⟩ is23_1 (by omega) (by omega) wm_s23_2) ?_
                        rintro ⟨y28_1, y28_2⟩ ⟨y28_1r, y28_2r⟩ ⟨uy28_1', ey28_2, ly28_2, vk9_y28_1, vk11_y28_1, vk10_y28_1, vk12_y28_1, vk13_y28_1⟩
                        have uy28_1 : Up mu 144 s23_2 s23_2r y28_1 y28_1r := uy28_1'
                        have ty28_1 := cx_up ts23_2 uy28_1
                        have wm_y28_1 := wg_up uy28_1 wm_s23_2
                        have wSL_y28_1 := wq_up uy28_1 wSL_s23_2
                        have wSU_y28_1 := wq_up uy28_1 wSU_s23_2
                        have wSV_y28_1 := wq_up uy28_1 wSV_s23_2
                        obtain rfl : y28_2 = y28_2r := ey28_2
                        dsimp only at ly28_2
                        have iy28_2 : TI y28_2 y28_2.toInt := rfl
                        have n0 : (s23_2.1 144 0).toInt = (M.1 144 0).toInt := by rw [((up_tr (up_tr (up_tr uy1_1 uy2_1) uy19_2) us23_2)).2.2.2.1]
                        have n3 : (s23_2.1 144 3).toInt = (M.1 144 3).toInt := by rw [((up_tr (up_tr (up_tr uy1_1 uy2_1) uy19_2) us23_2)).2.2.2.1]
                        have g0 := h0
                        have g1 := h1.1.1
                        refine rl_bnd (Q := fun (y z : DD) => Up mu 144 y28_1 y28_1r y z ∧ WQ mu y z 139 16 16 (fun r x => x14.toInt + r * 16 + x)) ?_ ?_
                        · refine rl_if (fun c21 => ?_) (fun c21 => ?_)
                          · have dc21 := tl_eq is23_1 tn_0 c21
                            refine rl_bnd (r_blend ty28_1 iy28_2 ix14 tn_16 i3 (by omega) (by omega) (by omega) (by omega) (by omega) (by omega) (fun h => absurd h (cw_a ly28_2.2 n0 g0)) (fun _ => wq_cs wSL_y28_1 (Int.le_refl _) (Int.le_refl _) (fun r x h1 h2 h3 h4 => by (try dsimp only) <;> omega)) vk9_y28_1 (fun h => vk10_y28_1 ⟨h, by rw [n3]; exact h1.1.1⟩) vk11_y28_1 (fun h => vk12_y28_1 ⟨h, by rw [n3]; exact h1.1.1⟩) vk13_y28_1) ?_
                            rintro y37 y37r ⟨uy37', vGY_y37'⟩
                            have uy37 : Up mu 144 y28_1 y28_1r y37 y37r := uy37'
                            have ty37 := cx_up ty28_1 uy37
                            have wm_y37 := wg_up uy37 wm_y28_1
                            have wSL_y37 := wq_up uy37 wSL_y28_1
                            have wSU_y37 := wq_up uy37 wSU_y28_1
                            have wSV_y37 := wq_up uy37 wSV_y28_1
                            have wk9_y37 := fun h => ag_up uy37 (vk9_y28_1 h)
                            have wk11_y37 := fun h => ag_up uy37 (vk11_y28_1 h)
                            have wk10_y37 := fun h => ag_up uy37 (vk10_y28_1 h)
                            have wk12_y37 := fun h => ag_up uy37 (vk12_y28_1 h)
                            have wk13_y37 := fun h => ag_up uy37 (vk13_y28_1 h)
                            have vGY_y37 : WQ mu y37 y37r 139 16 16 (fun r x => x14.toInt + r * 16 + x) := wq_cs vGY_y37' (by omega) (by omega) (fun r x h1 h2 h3 h4 => by (try dsimp only) <;> omega)
                            exact rl_some ⟨uy37, vGY_y37⟩
                          · have dc21 := tl_ne is23_1 tn_0 c21
                            exfalso
                            omega
                        · rintro y29 y29r ⟨uy29, wGY_y29⟩
                          have uy29 : Up mu 144 y28_1 y28_1r y29 y29r := uy29
                          have ty29 := cx_up ty28_1 uy29
                          have wm_y29 := wg_up uy29 wm_y28_1
                          have wSL_y29 := wq_up uy29 wSL_y28_1
                          have wSU_y29 := wq_up uy29 wSU_y28_1
                          have wSV_y29 := wq_up uy29 wSV_y28_1
                          have wk9_y29 := fun h => ag_up uy29 (vk9_y28_1 h)
                          have wk11_y29 := fun h => ag_up uy29 (vk11_y28_1 h)
                          have wk10_y29 := fun h => ag_up uy29 (vk10_y28_1 h)
                          have wk12_y29 := fun h => ag_up uy29 (vk12_y28_1 h)
                          have wk13_y29 := fun h => ag_up uy29 (vk13_y28_1 h)
                          have wGY_y29 : WQ mu y29 y29r 139 16 16 (fun r x => x14.toInt + r * 16 + x) := wGY_y29
                          refine rl_ltI (av_add is23_1 tn_1 (by omega) (by omega)) (fun x30 ix30 => ?_)
                          refine rl_inlQ (fun (y z : Int32 × DD) => y.1 = z.1 ∧ (1 ≤ y.1.toInt ∧ y.1.toInt ≤ 1) ∧ Up mu 144 y19_2 y19_2r y.2 z.2 ∧ WQ mu y.2 z.2 139 16 16 (fun r x => x14.toInt + r * 16 + x)) ⟨rfl, (ti_bd ix30 (by omega) (by omega)), (up_tr (up_tr us23_2 uy28_1) uy29), wGY_y29⟩ ?_
                          rintro ⟨s23_1, s23_2⟩ ⟨s23_1r, s23_2r⟩ ⟨es23_1, ls23_1, us23_2, wGY_s23_2⟩
                          obtain rfl : s23_1 = s23_1r := es23_1
                          have ls23_1 : 1 ≤ s23_1.toInt ∧ s23_1.toInt ≤ 1 := ls23_1
                          have is23_1 : TI s23_1 (1) := ti_c ls23_1
                          have us23_2 : Up mu 144 y19_2 y19_2r s23_2 s23_2r := us23_2
                          have ts23_2 := cx_up ty19_2 us23_2
                          have wm_s23_2 := wg_up us23_2 wm_y19_2
                          have wSL_s23_2 := wq_up us23_2 wSL_y19_2
                          have wSU_s23_2 := wq_up us23_2 wSU_y19_2
                          have wSV_s23_2 := wq_up us23_2 wSV_y19_2
                          have wGY_s23_2 : WQ mu s23_2 s23_2r 139 16 16 (fun r x => x14.toInt + r * 16 + x) := wGY_s23_2
                          refine rl_it1 ?_
                          refine rl_bnd (Q := fun (y z : Int32) => y = z ∧ (3 ≤ y.toInt ∧ y.toInt ≤ 3)) ?_ ?_
                          · refine rl_if (fun c22 => ?_) (fun c22 => ?_)
                            · have dc22 := tl_eq i4 tn_0 c22
                              exfalso
                              omega
                            · have dc22 := tl_ne i4 tn_0 c22
                              exact rl_some ⟨rfl, (ti_bd tn_3 (by omega) (by omega))⟩
                          · rintro y26 y26r ⟨ey26, ly26⟩
                            obtain rfl : y26 = y26r := ey26
                            have ly26 : 3 ≤ y26.toInt ∧ y26.toInt ≤ 3 := ly26
                            have iy26 : TI y26 (3) := ti_c ly26
                            refine rl_if (fun c23 => ?_) (fun c23 => ?_)
                            · have dc23 := tl_le iy26 is23_1 c23
                              exfalso
                              omega
                            · have dc23 := tl_nle iy26 is23_1 c23
                              refine rl_bnd (r_chooseWeights ts23_2 ⟨rfl, rfl⟩ is23_1 (by omega) (by omega) wm_s23_2) ?_
                              rintro ⟨y28_1, y28_2⟩ ⟨y28_1r, y28_2r⟩ ⟨uy28_1', ey28_2, ly28_2, vk9_y28_1, vk11_y28_1, vk10_y28_1, vk12_y28_1, vk13_y28_1⟩
                              have uy28_1 : Up mu 144 s23_2 s23_2r y28_1 y28_1r := uy28_1'
                              have ty28_1 := cx_up ts23_2 uy28_1
                              have wm_y28_1 := wg_up uy28_1 wm_s23_2
                              have wSL_y28_1 := wq_up uy28_1 wSL_s23_2
                              have wSU_y28_1 := wq_up uy28_1 wSU_s23_2
                              have wSV_y28_1 := wq_up uy28_1 wSV_s23_2
                              have wGY_y28_1 := wq_up uy28_1 wGY_s23_2
                              obtain rfl : y28_2 = y28_2r := ey28_2
                              dsimp only at ly28_2
                              have iy28_2 : TI y28_2 y28_2.toInt := rfl
                              have n0 : (s23_2.1 144 0).toInt = (M.1 144 0).toInt := by rw [((up_tr (up_tr (up_tr uy1_1 uy2_1) uy19_2) us23_2)).2.2.2.1]
                              have n3 : (s23_2.1 144 3).toInt = (M.1 144 3).toInt := by rw [((up_tr (up_tr (up_tr uy1_1 uy2_1) uy19_2) us23_2)).2.2.2.1]
                              have g0 := h0
                              have g1 := h1.1.1
                              refine rl_bnd (Q := fun (y z : DD) => Up mu 144 y28_1 y28_1r y z ∧ WQ mu y z 139 (16 / 2) (16 / 2) (fun r x => x18.toInt + 0 + r * 8 + x)) ?_ ?_
                              · refine rl_if (fun c24 => ?_) (fun c24 => ?_)
                                · have dc24 := tl_eq is23_1 tn_0 c24
                                  exfalso
                                  omega
                                · have dc24 := tl_ne is23_1 tn_0 c24
                                  refine rl_ltI (av_sub is23_1 tn_1 (by omega) (by omega)) (fun x32 ix32 => ?_)
                                  refine rl_ltI (av_mul tn_64 ix32 (by omega) (by omega)) (fun x33 ix33 => ?_)
                                  refine rl_ltI (av_add ix18 ix33 (by omega) (by omega)) (fun x34 ix34 => ?_)
                                  refine rl_ltI (av_div i3 tn_2 (by omega) (by omega)) (fun x35 ix35 => ?_)
                                  refine rl_bnd (r_blend ty28_1 iy28_2 ix34 tn_8 ix35 (by omega) (by omega) (by omega) (by omega) (by omega) (by omega) (fun h => absurd h (cw_a ly28_2.2 n0 g0)) (fun _ => wq_cs wSU_y28_1 (Int.le_refl _) (Int.le_refl _) (fun r x h1 h2 h3 h4 => by (try dsimp only) <;> omega)) vk9_y28_1 (fun h => vk10_y28_1 ⟨h, by rw [n3]; exact h1.1.1⟩) vk11_y28_1 (fun h => vk12_y28_1 ⟨h, by rw [n3]; exact h1.1.1⟩) vk13_y28_1) ?_
                                  rintro y36 y36r ⟨uy36', vGU_y36'⟩
                                  have uy36 : Up mu 144 y28_1 y28_1r y36 y36r := uy36'
                                  have ty36 := cx_up ty28_1 uy36
                                  have wm_y36 := wg_up uy36 wm_y28_1
                                  have wSL_y36 := wq_up uy36 wSL_y28_1
                                  have wSU_y36 := wq_up uy36 wSU_y28_1
                                  have wSV_y36 := wq_up uy36 wSV_y28_1
                                  have wGY_y36 := wq_up uy36 wGY_y28_1
                                  have wk9_y36 := fun h => ag_up uy36 (vk9_y28_1 h)
                                  have wk11_y36 := fun h => ag_up uy36 (vk11_y28_1 h)
                                  have wk10_y36 := fun h => ag_up uy36 (vk10_y28_1 h)
                                  have wk12_y36 := fun h => ag_up uy36 (vk12_y28_1 h)
                                  have wk13_y36 := fun h => ag_up uy36 (vk13_y28_1 h)
                                  have vGU_y36 : WQ mu y36 y36r 139 (16 / 2) (16 / 2) (fun r x => x18.toInt + 0 + r * 8 + x) := wq_cs vGU_y36' (by omega) (by omega) (fun r x h1 h2 h3 h4 => by (try dsimp only) <;> omega)
                                  exact rl_some ⟨uy36, vGU_y36⟩
                              · rintro y29 y29r ⟨uy29, wGU_y29⟩
                                have uy29 : Up mu 144 y28_1 y28_1r y29 y29r := uy29
                                have ty29 := cx_up ty28_1 uy29
                                have wm_y29 := wg_up uy29 wm_y28_1
                                have wSL_y29 := wq_up uy29 wSL_y28_1
                                have wSU_y29 := wq_up uy29 wSU_y28_1
                                have wSV_y29 := wq_up uy29 wSV_y28_1
                                have wGY_y29 := wq_up uy29 wGY_y28_1
                                have wk9_y29 := fun h => ag_up uy29 (vk9_y28_1 h)
                                have wk11_y29 := fun h => ag_up uy29 (vk11_y28_1 h)
                                have wk10_y29 := fun h => ag_up uy29 (vk10_y28_1 h)
                                have wk12_y29 := fun h => ag_up uy29 (vk12_y28_1 h)
                                have wk13_y29 := fun h => ag_up uy29 (vk13_y28_1 h)
                                have wGU_y29 : WQ mu y29 y29r 139 (16 / 2) (16 / 2) (fun r x => x18.toInt + 0 + r * 8 + x) := wGU_y29
                                refine rl_ltI (av_add is23_1 tn_1 (by omega) (by omega)) (fun x30 ix30 => ?_)
                                refine rl_inlQ (fun (y z : Int32 × DD) => y.1 = z.1 ∧ (2 ≤ y.1.toInt ∧ y.1.toInt ≤ 2) ∧ Up mu 144 y19_2 y19_2r y.2 z.2 ∧ WQ mu y.2 z.2 139 16 16 (fun r x => x14.toInt + r * 16 + x) ∧ WQ mu y.2 z.2 139 (16 / 2) (16 / 2) (fun r x => x18.toInt + 0 + r * 8 + x)) ⟨rfl, (ti_bd ix30 (by omega) (by omega)), (up_tr (up_tr us23_2 uy28_1) uy29), wGY_y29, wGU_y29⟩ ?_
                                rintro ⟨s23_1, s23_2⟩ ⟨s23_1r, s23_2r⟩ ⟨es23_1, ls23_1, us23_2, wGY_s23_2, wGU_s23_2⟩
                                obtain rfl : s23_1 = s23_1r := es23_1
                                have ls23_1 : 2 ≤ s23_1.toInt ∧ s23_1.toInt ≤ 2 := ls23_1
                                have is23_1 : TI s23_1 (2) := ti_c ls23_1
                                have us23_2 : Up mu 144 y19_2 y19_2r s23_2 s23_2r := us23_2
                                have ts23_2 := cx_up ty19_2 us23_2
                                have wm_s23_2 := wg_up us23_2 wm_y19_2
                                have wSL_s23_2 := wq_up us23_2 wSL_y19_2
                                have wSU_s23_2 := wq_up us23_2 wSU_y19_2
                                have wSV_s23_2 := wq_up us23_2 wSV_y19_2
                                have wGY_s23_2 : WQ mu s23_2 s23_2r 139 16 16 (fun r x => x14.toInt + r * 16 + x) := wGY_s23_2
                                have wGU_s23_2 : WQ mu s23_2 s23_2r 139 (16 / 2) (16 / 2) (fun r x => x18.toInt + 0 + r * 8 + x) := wGU_s23_2
                                refine rl_it1 ?_
                                refine rl_bnd (Q := fun (y z : Int32) => y = z ∧ (3 ≤ y.toInt ∧ y.toInt ≤ 3)) ?_ ?_
                                · refine rl_if (fun c25 => ?_) (fun c25 => ?_)
                                  · have dc25 := tl_eq i4 tn_0 c25
                                    exfalso
                                    omega
                                  · have dc25 := tl_ne i4 tn_0 c25
                                    exact rl_some ⟨rfl, (ti_bd tn_3 (by omega) (by omega))⟩
                                · rintro y26 y26r ⟨ey26, ly26⟩
                                  obtain rfl : y26 = y26r := ey26
                                  have ly26 : 3 ≤ y26.toInt ∧ y26.toInt ≤ 3 := ly26
                                  have iy26 : TI y26 (3) := ti_c ly26
                                  refine rl_if (fun c26 => ?_) (fun c26 => ?_)
                                  · have dc26 := tl_le iy26 is23_1 c26
                                    exfalso
                                    omega
                                  · have dc26 := tl_nle iy26 is23_1 c26
                                    refine rl_bnd (r_chooseWeights ts23_2 ⟨rfl, rfl⟩ is23_1 (by omega) (by omega) wm_s23_2) ?_
                                    rintro ⟨y28_1, y28_2⟩ ⟨y28_1r, y28_2r⟩ ⟨uy28_1', ey28_2, ly28_2, vk9_y28_1, vk11_y28_1, vk10_y28_1, vk12_y28_1, vk13_y28_1⟩
                                    have uy28_1 : Up mu 144 s23_2 s23_2r y28_1 y28_1r := uy28_1'
                                    have ty28_1 := cx_up ts23_2 uy28_1
                                    have wm_y28_1 := wg_up uy28_1 wm_s23_2
                                    have wSL_y28_1 := wq_up uy28_1 wSL_s23_2
                                    have wSU_y28_1 := wq_up uy28_1 wSU_s23_2
                                    have wSV_y28_1 := wq_up uy28_1 wSV_s23_2
                                    have wGY_y28_1 := wq_up uy28_1 wGY_s23_2
                                    have wGU_y28_1 := wq_up uy28_1 wGU_s23_2
                                    obtain rfl : y28_2 = y28_2r := ey28_2
                                    dsimp only at ly28_2
                                    have iy28_2 : TI y28_2 y28_2.toInt := rfl
                                    have n0 : (s23_2.1 144 0).toInt = (M.1 144 0).toInt := by rw [((up_tr (up_tr (up_tr uy1_1 uy2_1) uy19_2) us23_2)).2.2.2.1]
                                    have n3 : (s23_2.1 144 3).toInt = (M.1 144 3).toInt := by rw [((up_tr (up_tr (up_tr uy1_1 uy2_1) uy19_2) us23_2)).2.2.2.1]
                                    have g0 := h0
                                    have g1 := h1.1.1
                                    refine rl_bnd (Q := fun (y z : DD) => Up mu 144 y28_1 y28_1r y z ∧ WQ mu y z 139 (16 / 2) (16 / 2) (fun r x => x18.toInt + 64 + r * 8 + x)) ?_ ?_
                                    · refine rl_if (fun c27 => ?_) (fun c27 => ?_)
                                      · have dc27 := tl_eq is23_1 tn_0 c27
                                        exfalso
                                        omega
                                      · have dc27 := tl_ne is23_1 tn_0 c27
                                        refine rl_ltI (av_sub is23_1 tn_1 (by omega) (by omega)) (fun x32 ix32 => ?_)
                                        refine rl_ltI (av_mul tn_64 ix32 (by omega) (by omega)) (fun x33 ix33 => ?_)
                                        refine rl_ltI (av_add ix18 ix33 (by omega) (by omega)) (fun x34 ix34 => ?_)
                                        refine rl_ltI (av_div i3 tn_2 (by omega) (by omega)) (fun x35 ix35 => ?_)
                                        refine rl_bnd (r_blend ty28_1 iy28_2 ix34 tn_8 ix35 (by omega) (by omega) (by omega) (by omega) (by omega) (by omega) (fun h => absurd h (cw_a ly28_2.2 n0 g0)) (fun _ => wq_cs wSV_y28_1 (Int.le_refl _) (Int.le_refl _) (fun r x h1 h2 h3 h4 => by (try dsimp only) <;> omega)) vk9_y28_1 (fun h => vk10_y28_1 ⟨h, by rw [n3]; exact h1.1.1⟩) vk11_y28_1 (fun h => vk12_y28_1 ⟨h, by rw [n3]; exact h1.1.1⟩) vk13_y28_1) ?_
                                        rintro y36 y36r ⟨uy36', vGV_y36'⟩
                                        have uy36 : Up mu 144 y28_1 y28_1r y36 y36r := uy36'
                                        have ty36 := cx_up ty28_1 uy36
                                        have wm_y36 := wg_up uy36 wm_y28_1
                                        have wSL_y36 := wq_up uy36 wSL_y28_1
                                        have wSU_y36 := wq_up uy36 wSU_y28_1
                                        have wSV_y36 := wq_up uy36 wSV_y28_1
                                        have wGY_y36 := wq_up uy36 wGY_y28_1
                                        have wGU_y36 := wq_up uy36 wGU_y28_1
                                        have wk9_y36 := fun h => ag_up uy36 (vk9_y28_1 h)
                                        have wk11_y36 := fun h => ag_up uy36 (vk11_y28_1 h)
                                        have wk10_y36 := fun h => ag_up uy36 (vk10_y28_1 h)
                                        have wk12_y36 := fun h => ag_up uy36 (vk12_y28_1 h)
                                        have wk13_y36 := fun h => ag_up uy36 (vk13_y28_1 h)
                                        have vGV_y36 : WQ mu y36 y36r 139 (16 / 2) (16 / 2) (fun r x => x18.toInt + 64 + r * 8 + x) := wq_cs vGV_y36' (by omega) (by omega) (fun r x h1 h2 h3 h4 => by (try dsimp only) <;> omega)
                                        exact rl_some ⟨uy36, vGV_y36⟩
                                    · rintro y29 y29r ⟨uy29, wGV_y29⟩
                                      have uy29 : Up mu 144 y28_1 y28_1r y29 y29r := uy29
                                      have ty29 := cx_up ty28_1 uy29
                                      have wm_y29 := wg_up uy29 wm_y28_1
                                      have wSL_y29 := wq_up uy29 wSL_y28_1
                                      have wSU_y29 := wq_up uy29 wSU_y28_1
                                      have wSV_y29 := wq_up uy29 wSV_y28_1
                                      have wGY_y29 := wq_up uy29 wGY_y28_1
                                      have wGU_y29 := wq_up uy29 wGU_y28_1
                                      have wk9_y29 := fun h => ag_up uy29 (vk9_y28_1 h)
                                      have wk11_y29 := fun h => ag_up uy29 (vk11_y28_1 h)
                                      have wk10_y29 := fun h => ag_up uy29 (vk10_y28_1 h)
                                      have wk12_y29 := fun h => ag_up uy29 (vk12_y28_1 h)
                                      have wk13_y29 := fun h => ag_up uy29 (vk13_y28_1 h)
                                      have wGV_y29 : WQ mu y29 y29r 139 (16 / 2) (16 / 2) (fun r x => x18.toInt + 64 + r * 8 + x) := wGV_y29
                                      refine rl_ltI (av_add is23_1 tn_1 (by omega) (by omega)) (fun x30 ix30 => ?_)
                                      refine rl_inlQ (fun (y z : Int32 × DD) => y.1 = z.1 ∧ (3 ≤ y.1.toInt ∧ y.1.toInt ≤ 3) ∧ Up mu 144 y19_2 y19_2r y.2 z.2 ∧ WQ mu y.2 z.2 139 16 16 (fun r x => x14.toInt + r * 16 + x) ∧ WQ mu y.2 z.2 139 (16 / 2) (16 / 2) (fun r x => x18.toInt + 0 + r * 8 + x) ∧ WQ mu y.2 z.2 139 (16 / 2) (16 / 2) (fun r x => x18.toInt + 64 + r * 8 + x)) ⟨rfl, (ti_bd ix30 (by omega) (by omega)), (up_tr (up_tr us23_2 uy28_1) uy29), wGY_y29, wGU_y29, wGV_y29⟩ ?_
                                      rintro ⟨s23_1, s23_2⟩ ⟨s23_1r, s23_2r⟩ ⟨es23_1, ls23_1, us23_2, wGY_s23_2, wGU_s23_2, wGV_s23_2⟩
                                      obtain rfl : s23_1 = s23_1r := es23_1
                                      have ls23_1 : 3 ≤ s23_1.toInt ∧ s23_1.toInt ≤ 3 := ls23_1
                                      have is23_1 : TI s23_1 (3) := ti_c ls23_1
                                      have us23_2 : Up mu 144 y19_2 y19_2r s23_2 s23_2r := us23_2
                                      have ts23_2 := cx_up ty19_2 us23_2
                                      have wm_s23_2 := wg_up us23_2 wm_y19_2
                                      have wSL_s23_2 := wq_up us23_2 wSL_y19_2
                                      have wSU_s23_2 := wq_up us23_2 wSU_y19_2
                                      have wSV_s23_2 := wq_up us23_2 wSV_y19_2
                                      have wGY_s23_2 : WQ mu s23_2 s23_2r 139 16 16 (fun r x => x14.toInt + r * 16 + x) := wGY_s23_2
                                      have wGU_s23_2 : WQ mu s23_2 s23_2r 139 (16 / 2) (16 / 2) (fun r x => x18.toInt + 0 + r * 8 + x) := wGU_s23_2
                                      have wGV_s23_2 : WQ mu s23_2 s23_2r 139 (16 / 2) (16 / 2) (fun r x => x18.toInt + 64 + r * 8 + x) := wGV_s23_2
                                      refine rl_it1 ?_
                                      refine rl_bnd (Q := fun (y z : Int32) => y = z ∧ (3 ≤ y.toInt ∧ y.toInt ≤ 3)) ?_ ?_
                                      · refine rl_if (fun c28 => ?_) (fun c28 => ?_)
                                        · have dc28 := tl_eq i4 tn_0 c28
                                          exfalso
                                          omega
                                        · have dc28 := tl_ne i4 tn_0 c28
                                          exact rl_some ⟨rfl, (ti_bd tn_3 (by omega) (by omega))⟩
                                      · rintro y26 y26r ⟨ey26, ly26⟩
                                        obtain rfl : y26 = y26r := ey26
                                        have ly26 : 3 ≤ y26.toInt ∧ y26.toInt ≤ 3 := ly26
                                        have iy26 : TI y26 (3) := ti_c ly26
                                        refine rl_if (fun c29 => ?_) (fun c29 => ?_)
                                        · have dc29 := tl_le iy26 is23_1 c29
                                          refine rl_inrQ (fun (y z : Int32 × DD) => y.1 = z.1 ∧ Up mu 144 y19_2 y19_2r y.2 z.2 ∧ WQ mu y.2 z.2 139 16 16 (fun r x => x14.toInt + r * 16 + x) ∧ WQ mu y.2 z.2 139 (16 / 2) (16 / 2) (fun r x => x18.toInt + 0 + r * 8 + x) ∧ WQ mu y.2 z.2 139 (16 / 2) (16 / 2) (fun r x => x18.toInt + 64 + r * 8 + x)) ⟨rfl, us23_2, wGY_s23_2, wGU_s23_2, wGV_s23_2⟩ ?_
                                          rintro ⟨y22_1, y22_2⟩ ⟨y22_1r, y22_2r⟩ ⟨ey22_1, uy22_2, wGY_y22_2, wGU_y22_2, wGV_y22_2⟩
                                          obtain rfl : y22_1 = y22_1r := ey22_1
                                          have uy22_2 : Up mu 144 y19_2 y19_2r y22_2 y22_2r := uy22_2
                                          have ty22_2 := cx_up ty19_2 uy22_2
                                          have wm_y22_2 := wg_up uy22_2 wm_y19_2
                                          have wSL_y22_2 := wq_up uy22_2 wSL_y19_2
                                          have wSU_y22_2 := wq_up uy22_2 wSU_y19_2
                                          have wSV_y22_2 := wq_up uy22_2 wSV_y19_2
                                          have wGY_y22_2 : WQ mu y22_2 y22_2r 139 16 16 (fun r x => x14.toInt + r * 16 + x) := wGY_y22_2
                                          have wGU_y22_2 : WQ mu y22_2 y22_2r 139 (16 / 2) (16 / 2) (fun r x => x18.toInt + 0 + r * 8 + x) := wGU_y22_2
                                          have wGV_y22_2 : WQ mu y22_2 y22_2r 139 (16 / 2) (16 / 2) (fun r x => x18.toInt + 64 + r * 8 + x) := wGV_y22_2
                                          exact rl_some ⟨(up_tr (up_tr (up_tr uy1_1 uy2_1) uy19_2) uy22_2), (wq_cs wGY_y22_2 (Int.le_refl _) (Int.le_refl _) (fun r x h1 h2 h3 h4 => by (try dsimp only) <;> omega)), (wq_cs wGU_y22_2 (Int.le_refl _) (Int.le_refl _) (fun r x h1 h2 h3 h4 => by (try dsimp only) <;> omega)), (wq_cs wGV_y22_2 (Int.le_refl _) (Int.le_refl _) (fun r x h1 h2 h3 h4 => by (try dsimp only) <;> omega))⟩
                                        · have dc29 := tl_nle iy26 is23_1 c29
                                          exfalso
                                          omega
                  · have dc18 := tl_nle tn_2 is20_1 c18
                    exfalso
                    omega
