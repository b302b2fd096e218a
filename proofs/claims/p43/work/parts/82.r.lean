/-! two runs in lockstep, printed out of the functions' trees -/
theorem r_blend {mu : Nat → Nat} {G H : GG} {M N : DD} {p : Nat} {L : List Nat} (t : CX mu G H M N p L) {p0 : Int32} {a0 : Int} (i0 : TI p0 a0) {p1 : Int32} {a1 : Int} (i1 : TI p1 a1) {p2 : Int32} {a2 : Int} (i2 : TI p2 a2) {p3 : Int32} {a3 : Int} (i3 : TI p3 a3) (h0 : a0 = 0 ∨ a0 = 1 ∨ a0 = 2 ∨ a0 = 3 ∨ a0 = 4 ∨ a0 = 5) (h1 : 0 ≤ a1) (h2 : a1 ≤ 383) (h3 : a2 = 8 ∨ a2 = 16) (h4 : 0 ≤ a3) (h5 : a3 ≤ 16) (hF : (a0 = 0 ∨ a0 = 2 ∨ a0 = 3 ∨ a0 = 5) → WQ mu M N 140 a3 a3 (fun r x => a1 + r * a2 + x)) (hS : (a0 = 1 ∨ a0 = 2 ∨ a0 = 4 ∨ a0 = 5) → WQ mu M N 141 a3 a3 (fun r x => a1 + r * a2 + x)) (h9 : (a0 = 3 ∨ a0 = 5) → Ag mu M N 138 9) (h10 : (a0 = 4 ∨ a0 = 5) → Ag mu M N 138 10) (h11 : (a0 = 3 ∨ a0 = 5) → Ag mu M N 138 11) (h12 : (a0 = 4 ∨ a0 = 5) → Ag mu M N 138 12) (h13 : 3 ≤ a0 → Ag mu M N 138 13) : LKS (FX6_blend G M 138 p0 p1 p2 p3) (FX6_blend H N (mu 138) p0 p1 p2 p3) (fun y z => Up mu 144 M N y z ∧ WQ mu y z 139 a3 a3 (fun r x => a1 + r * a2 + x)) := by
  unfold FX6_blend
  rcases h0 with rfl | rfl | rfl | rfl | rfl | rfl
  · rcases h3 with rfl | rfl
    · have hF := hF (by decide)
      refine rl_bnd (Q := fun (y z : Option Nat) => (y = some 140 ∧ z = some (mu 140))) ?_ ?_
      · refine rl_if (fun c1 => ?_) (fun c1 => ?_)
        · have dc1 := tl_eq i0 tn_1 c1
          exfalso
          omega
        · refine rl_bnd (Q := fun (y z : Option Nat) => (y = some 140 ∧ z = some (mu 140))) ?_ ?_
          · refine rl_if (fun c2 => ?_) (fun c2 => ?_)
            · have dc2 := tl_eq i0 tn_4 c2
              exfalso
              omega
            · exact rl_some (rx_c (a := 138) (k := 1) (b := 140) t (Or.inr (Or.inl rfl)) rfl (by decide))
          · rintro y90 y90r oy90
            exact rl_some oy90
      · rintro y1 y1r oy1
        refine rl_bnd (Q := fun (y z : Int32) => True) ?_ ?_
        · refine rl_if (fun c3 => ?_) (fun c3 => ?_)
          · have dc3 := tl_eq i0 tn_4 c3
            exfalso
            omega
          · refine rl_ltU (fun x87 x87r => ?_)
            exact rl_some trivial
        · rintro y2 y2r _
          refine rl_bnd (Q := fun (y z : Int32) => True) ?_ ?_
          · refine rl_if (fun c4 => ?_) (fun c4 => ?_)
            · have dc4 := tl_eq i0 tn_4 c4
              exfalso
              omega
            · refine rl_ltU (fun x84 x84r => ?_)
              exact rl_some trivial
          · rintro y3 y3r _
            have kp3 : p3.toInt = _ := i3
            refine rl_bnd (Q := fun (y z : Int32 × DD) => y.1 = z.1 ∧ (0 ≤ y.1.toInt ∧ y.1.toInt ≤ p3.toInt) ∧ Up mu 144 M N y.2 z.2 ∧ WQ mu y.2 z.2 139 (a3) (a3) (fun r x => a1 + r * 8 + x)) (rl_itr (fun (y z : Int32 × DD) => y.1 = z.1 ∧ (0 ≤ y.1.toInt ∧ y.1.toInt ≤ p3.toInt) ∧ Up mu 144 M N y.2 z.2 ∧ WQ mu y.2 z.2 139 (y.1.toInt) (a3) (fun r x => a1 + r * 8 + x)) _ ?_ _ _ _ ?_) ?_
            · rintro ⟨s5_1, s5_2⟩ ⟨s5_1r, s5_2r⟩ ⟨es5_1, ls5_1, us5_2, vG_s5_2⟩
              obtain rfl : s5_1 = s5_1r := es5_1
              have ls5_1 : 0 ≤ s5_1.toInt ∧ s5_1.toInt ≤ p3.toInt := ls5_1
              have is5_1 : TI s5_1 s5_1.toInt := rfl
              have us5_2 : Up mu 144 M N s5_2 s5_2r := us5_2
              have ts5_2 := cx_up t us5_2
              have wF_s5_2 := wq_up us5_2 hF
              have vG_s5_2 : WQ mu s5_2 s5_2r 139 (s5_1.toInt) (a3) (fun r x => a1 + r * 8 + x) := vG_s5_2
              refine rl_if (fun c5 => ?_) (fun c5 => ?_)
              · have dc5 := tl_le i3 is5_1 c5
                exact rl_inr ⟨rfl, (ti_bd is5_1 (by omega) (by omega)), us5_2, (wq_sub vG_s5_2 (by omega))⟩
              · have dc5 := tl_nle i3 is5_1 c5
                refine rl_ltI (av_mul is5_1 i2 (by omega) (by omega)) (fun x9 ix9 => ?_)
                refine rl_ltI (av_add i1 ix9 (by omega) (by omega)) (fun x10 ix10 => ?_)
                have k0x10 : x10.toInt = _ := ix10
                refine rl_bnd (Q := fun (y z : Int32 × DD) => y.1 = z.1 ∧ (x10.toInt ≤ y.1.toInt ∧ y.1.toInt ≤ (a1 + s5_1.toInt * 8 + a3)) ∧ Up mu 144 s5_2 s5_2r y.2 z.2 ∧ WG mu y.2 z.2 139 (0) (a3) (fun j => a1 + s5_1.toInt * 8 + j)) (rl_itr (fun (y z : Int32 × DD) => y.1 = z.1 ∧ (x10.toInt ≤ y.1.toInt ∧ y.1.toInt ≤ (a1 + s5_1.toInt * 8 + a3)) ∧ Up mu 144 s5_2 s5_2r y.2 z.2 ∧ WG mu y.2 z.2 139 (0) (y.1.toInt - (a1 + s5_1.toInt * 8)) (fun j => a1 + s5_1.toInt * 8 + j)) _ ?_ _ _ _ ?_) ?_
                · rintro ⟨s12_1, s12_2⟩ ⟨s12_1r, s12_2r⟩ ⟨es12_1, ls12_1, us12_2, vK_s12_2⟩
                  obtain rfl : s12_1 = s12_1r := es12_1
                  have ls12_1 : x10.toInt ≤ s12_1.toInt ∧ s12_1.toInt ≤ (a1 + s5_1.toInt * 8 + a3) := ls12_1
                  have is12_1 : TI s12_1 s12_1.toInt := rfl
                  have us12_2 : Up mu 144 s5_2 s5_2r s12_2 s12_2r := us12_2
                  have ts12_2 := cx_up ts5_2 us12_2
                  have wF_s12_2 := wq_up us12_2 wF_s5_2
                  have wG_s12_2 := wq_up us12_2 vG_s5_2
                  have vK_s12_2 : WG mu s12_2 s12_2r 139 (0) (s12_1.toInt - (a1 + s5_1.toInt * 8)) (fun j => a1 + s5_1.toInt * 8 + j) := vK_s12_2
                  refine rl_ltI (av_mul is5_1 i2 (by omega) (by omega)) (fun x16 ix16 => ?_)
                  refine rl_ltI (av_add i1 ix16 (by omega) (by omega)) (fun x17 ix17 => ?_)
                  refine rl_ltI (av_add ix17 i3 (by omega) (by omega)) (fun x18 ix18 => ?_)
                  refine rl_if (fun c6 => ?_) (fun c6 => ?_)
                  · have dc6 := tl_le ix18 is12_1 c6
                    exact rl_inr ⟨rfl, (ti_bd is12_1 (by omega) (by omega)), us12_2, (wg_sub vK_s12_2 (by omega) (by omega))⟩
                  · have dc6 := tl_nle ix18 is12_1 c6
                    refine rl_bnd (Q := fun (y z : DD) => Up mu 144 s12_2 s12_2r y z ∧ Ag mu y z 139 s12_1.toNatClampNeg) ?_ ?_
                    · refine rl_if (fun c7 => ?_) (fun c7 => ?_)
                      · have dc7 := tl_le tn_2 i0 c7
                        exfalso
                        omega
                      · have dc7 := tl_nle tn_2 i0 c7
                        refine rl_dr (cx_U ts12_2) oy1 (fun gb79 => ?_)
                        refine rl_chk (chkl (cx_U ts12_2) gb79) (fun k8 => ?_)
                        refine rl_rd (wq_use wF_s12_2 is12_1 (s5_1.toInt) (s12_1.toInt - (a1 + s5_1.toInt * 8)) (by omega) (by omega) (by omega) (by omega) (by (try dsimp only) <;> omega)) (fun x80 => ?_)
                        refine rl_dr (cx_U ts12_2) (rx_c (a := 138) (k := 0) (b := 139) ts12_2 (Or.inr (Or.inl rfl)) rfl (by decide)) (fun gb81 => ?_)
                        refine rl_chk (chkl (cx_U ts12_2) gb81) (fun k9 => ?_)
                        refine rl_w (κ := 144) (cx_U ts12_2) (by decide) (fun M82 M82r uM82 AM82 nM82 => ?_)
                        have tM82 := cx_up ts12_2 uM82
                        have wF_M82 := wq_up uM82 wF_s12_2
                        have wG_M82 := wq_up uM82 wG_s12_2
                        have wK_M82 := wg_up uM82 vK_s12_2
                        exact rl_some ⟨uM82, (ag_up (up_0 mu (κ := 144) _ _) AM82)⟩
                    · rintro y20 y20r ⟨uy20, aw0_y20'⟩
                      have uy20 : Up mu 144 s12_2 s12_2r y20 y20r := uy20
                      have ty20 := cx_up ts12_2 uy20
                      have wF_y20 := wq_up uy20 wF_s12_2
                      have wG_y20 := wq_up uy20 wG_s12_2
                      have wK_y20 := wg_up uy20 vK_s12_2
                      have aw0_y20 : Ag mu y20 y20r 139 s12_1.toNatClampNeg := aw0_y20'
                      refine rl_ltI (av_add is12_1 tn_1 (by omega) (by omega)) (fun x21 ix21 => ?_)
                      exact rl_inl ⟨rfl, (ti_bd ix21 (by omega) (by omega)), (up_tr us12_2 uy20), (wg_ext wK_y20 is12_1 (ag_up (up_0 mu (κ := 144) _ _) aw0_y20) (by (try dsimp only) <;> omega) (by have q : _ = _ := ix21; (try dsimp only) <;> omega))⟩
                · exact ⟨rfl, (ti_bd ix10 (by omega) (by omega)), (up_0 mu (κ := 144) _ _), (wg_0 (by have q : _ = _ := ix10; (try dsimp only) <;> omega))⟩
                · rintro ⟨y11_1, y11_2⟩ ⟨y11_1r, y11_2r⟩ ⟨ey11_1, ly11_1, uy11_2, vK_y11_2⟩
                  obtain rfl : y11_1 = y11_1r := ey11_1
                  have ly11_1 : x10.toInt ≤ y11_1.toInt ∧ y11_1.toInt ≤ (a1 + s5_1.toInt * 8 + a3) := ly11_1
                  have iy11_1 : TI y11_1 y11_1.toInt := rfl
                  have uy11_2 : Up mu 144 s5_2 s5_2r y11_2 y11_2r := uy11_2
                  have ty11_2 := cx_up ts5_2 uy11_2
                  have wF_y11_2 := wq_up uy11_2 wF_s5_2
                  have wG_y11_2 := wq_up uy11_2 vG_s5_2
                  have vK_y11_2 : WG mu y11_2 y11_2r 139 (0) (a3) (fun j => a1 + s5_1.toInt * 8 + j) := vK_y11_2
                  refine rl_ltI (av_add is5_1 tn_1 (by omega) (by omega)) (fun x14 ix14 => ?_)
                  exact rl_inl ⟨rfl, (ti_bd ix14 (by omega) (by omega)), (up_tr us5_2 uy11_2), (by exact wq_ext wG_y11_2 vK_y11_2 (Int.le_refl _) (fun j h1 h2 => by (try dsimp only) <;> omega) (by have q2 : _ = _ := ix14; (try dsimp only) <;> omega))⟩
            · exact ⟨rfl, (ti_bd tn_0 (by omega) (by omega)), (up_0 mu (κ := 144) _ _), (wq_0 (by have q : _ = _ := tn_0; (try dsimp only) <;> omega))⟩
            · rintro ⟨y4_1, y4_2⟩ ⟨y4_1r, y4_2r⟩ ⟨ey4_1, ly4_1, uy4_2, vG_y4_2⟩
              obtain rfl : y4_1 = y4_1r := ey4_1
              have ly4_1 : 0 ≤ y4_1.toInt ∧ y4_1.toInt ≤ p3.toInt := ly4_1
              have iy4_1 : TI y4_1 y4_1.toInt := rfl
              have uy4_2 : Up mu 144 M N y4_2 y4_2r := uy4_2
              have ty4_2 := cx_up t uy4_2
              have wF_y4_2 := wq_up uy4_2 hF
              have vG_y4_2 : WQ mu y4_2 y4_2r 139 (a3) (a3) (fun r x => a1 + r * 8 + x) := vG_y4_2
              exact rl_some ⟨uy4_2, vG_y4_2⟩
    · have hF := hF (by decide)
      refine rl_bnd (Q := fun (y z : Option Nat) => (y = some 140 ∧ z = some (mu 140))) ?_ ?_
      · refine rl_if (fun c1 => ?_) (fun c1 => ?_)
        · have dc1 := tl_eq i0 tn_1 c1
          exfalso
          omega
        · refine rl_bnd (Q := fun (y z : Option Nat) => (y = some 140 ∧ z = some (mu 140))) ?_ ?_
          · refine rl_if (fun c2 => ?_) (fun c2 => ?_)
            · have dc2 := tl_eq i0 tn_4 c2
              exfalso
              omega
            · exact rl_some (rx_c (a := 138) (k := 1) (b := 140) t (Or.inr (Or.inl rfl)) rfl (by decide))
          · rintro y90 y90r oy90
            exact rl_some oy90
      · rintro y1 y1r oy1
        refine rl_bnd (Q := fun (y z : Int32) => True) ?_ ?_
        · refine rl_if (fun c3 => ?_) (fun c3 => ?_)
          · have dc3 := tl_eq i0 tn_4 c3
            exfalso
            omega
          · refine rl_ltU (fun x87 x87r => ?_)
            exact rl_some trivial
        · rintro y2 y2r _
          refine rl_bnd (Q := fun (y z : Int32) => True) ?_ ?_
          · refine rl_if (fun c4 => ?_) (fun c4 => ?_)
            · have dc4 := tl_eq i0 tn_4 c4
              exfalso
              omega
            · refine rl_ltU (fun x84 x84r => ?_)
              exact rl_some trivial
          · rintro y3 y3r _
            have kp3 : p3.toInt = _ := i3
            refine rl_bnd (Q := fun (y z : Int32 × DD) => y.1 = z.1 ∧ (0 ≤ y.1.toInt ∧ y.1.toInt ≤ p3.toInt) ∧ Up mu 144 M N y.2 z.2 ∧ WQ mu y.2 z.2 139 (a3) (a3) (fun r x => a1 + r * 16 + x)) (rl_itr (fun (y z : Int32 × DD) => y.1 = z.1 ∧ (0 ≤ y.1.toInt ∧ y.1.toInt ≤ p3.toInt) ∧ Up mu 144 M N y.2 z.2 ∧ WQ mu y.2 z.2 139 (y.1.toInt) (a3) (fun r x => a1 + r * 16 + x)) _ ?_ _ _ _ ?_) ?_
            · rintro ⟨s5_1, s5_2⟩ ⟨s5_1r, s5_2r⟩ ⟨es5_1, ls5_1, us5_2, vG_s5_2⟩
              obtain rfl : s5_1 = s5_1r := es5_1
              have ls5_1 : 0 ≤ s5_1.toInt ∧ s5_1.toInt ≤ p3.toInt := ls5_1
              have is5_1 : TI s5_1 s5_1.toInt := rfl
              have us5_2 : Up mu 144 M N s5_2 s5_2r := us5_2
              have ts5_2 := cx_up t us5_2
              have wF_s5_2 := wq_up us5_2 hF
              have vG_s5_2 : WQ mu s5_2 s5_2r 139 (s5_1.toInt) (a3) (fun r x => a1 + r * 16 + x) := vG_s5_2
              refine rl_if (fun c5 => ?_) (fun c5 => ?_)
              · have dc5 := tl_le i3 is5_1 c5
                exact rl_inr ⟨rfl, (ti_bd is5_1 (by omega) (by omega)), us5_2, (wq_sub vG_s5_2 (by omega))⟩
              · have dc5 := tl_nle i3 is5_1 c5
                refine rl_ltI (av_mul is5_1 i2 (by omega) (by omega)) (fun x9 ix9 => ?_)
                refine rl_ltI (av_add i1 ix9 (by omega) (by omega)) (fun x10 ix10 => ?_)
                have k0x10 : x10.toInt = _ := ix10
                refine rl_bnd (Q := fun (y z : Int32 × DD) => y.1 = z.1 ∧ (x10.toInt ≤ y.1.toInt ∧ y.1.toInt ≤ (a1 + s5_1.toInt * 16 + a3)) ∧ Up mu 144 s5_2 s5_2r y.2 z.2 ∧ WG mu y.2 z.2 139 (0) (a3) (fun j => a1 + s5_1.toInt * 16 + j)) (rl_itr (fun (y z : Int32 × DD) => y.1 = z.1 ∧ (x10.toInt ≤ y.1.toInt ∧ y.1.toInt ≤ (a1 + s5_1.toInt * 16 + a3)) ∧ Up mu 144 s5_2 s5_2r y.2 z.2 ∧ WG mu y.2 z.2 139 (0) (y.1.toInt - (a1 + s5_1.toInt * 16)) (fun j => a1 + s5_1.toInt * 16 + j)) _ ?_ _ _ _ ?_) ?_
                · rintro ⟨s12_1, s12_2⟩ ⟨s12_1r, s12_2r⟩ ⟨es12_1, ls12_1, us12_2, vK_s12_2⟩
                  obtain rfl : s12_1 = s12_1r := es12_1
                  have ls12_1 : x10.toInt ≤ s12_1.toInt ∧ s12_1.toInt ≤ (a1 + s5_1.toInt * 16 + a3) := ls12_1
                  have is12_1 : TI s12_1 s12_1.toInt := rfl
                  have us12_2 : Up mu 144 s5_2 s5_2r s12_2 s12_2r := us12_2
                  have ts12_2 := cx_up ts5_2 us12_2
                  have wF_s12_2 := wq_up us12_2 wF_s5_2
                  have wG_s12_2 := wq_up us12_2 vG_s5_2
                  have vK_s12_2 : WG mu s12_2 s12_2r 139 (0) (s12_1.toInt - (a1 + s5_1.toInt * 16)) (fun j => a1 + s5_1.toInt * 16 + j) := vK_s12_2
                  refine rl_ltI (av_mul is5_1 i2 (by omega) (by omega)) (fun x16 ix16 => ?_)
                  refine rl_ltI (av_add i1 ix16 (by omega) (by omega)) (fun x17 ix17 => ?_)
                  refine rl_ltI (av_add ix17 i3 (by omega) (by omega)) (fun x18 ix18 => ?_)
                  refine rl_if (fun c6 => ?_) (fun c6 => ?_)
                  · have dc6 := tl_le ix18 is12_1 c6
                    exact rl_inr ⟨rfl, (ti_bd is12_1 (by omega) (by omega)), us12_2, (wg_sub vK_s12_2 (by omega) (by omega))⟩
                  · have dc6 := tl_nle ix18 is12_1 c6
                    refine rl_bnd (Q := fun (y z : DD) => Up mu 144 s12_2 s12_2r y z ∧ Ag mu y z 139 s12_1.toNatClampNeg) ?_ ?_
                    · refine rl_if (fun c7 => ?_) (fun c7 => ?_)
                      · have dc7 := tl_le tn_2 i0 c7
                        exfalso
                        omega
                      · have dc7 := tl_nle tn_2 i0 c7
                        refine rl_dr (cx_U ts12_2) oy1 (fun gb79 => ?_)
                        refine rl_chk (chkl (cx_U ts12_2) gb79) (fun k8 => ?_)
                        refine rl_rd (wq_use wF_s12_2 is12_1 (s5_1.toInt) (s12_1.toInt - (a1 + s5_1.toInt * 16)) (by omega) (by omega) (by omega) (by omega) (by (try dsimp only) <;> omega)) (fun x80 => ?_)
                        refine rl_dr (cx_U ts12_2) (rx_c (a := 138) (k := 0) (b := 139) ts12_2 (Or.inr (Or.inl rfl)) rfl (by decide)) (fun gb81 => ?_)
                        refine rl_chk (chkl (cx_U ts12_2) gb81) (fun k9 => ?_)
                        refine rl_w (κ := 144) (cx_U ts12_2) (by decide) (fun M82 M82r uM82 AM82 nM82 => ?_)
                        have tM82 := cx_up ts12_2 uM82
                        have wF_M82 := wq_up uM82 wF_s12_2
                        have wG_M82 := wq_up uM82 wG_s12_2
                        have wK_M82 := wg_up uM82 vK_s12_2
                        exact rl_some ⟨uM82, (ag_up (up_0 mu (κ := 144) _ _) AM82)⟩
                    · rintro y20 y20r ⟨uy20, aw0_y20'⟩
                      have uy20 : Up mu 144 s12_2 s12_2r y20 y20r := uy20
                      have ty20 := cx_up ts12_2 uy20
                      have wF_y20 := wq_up uy20 wF_s12_2
                      have wG_y20 := wq_up uy20 wG_s12_2
                      have wK_y20 := wg_up uy20 vK_s12_2
                      have aw0_y20 : Ag mu y20 y20r 139 s12_1.toNatClampNeg := aw0_y20'
                      refine rl_ltI (av_add is12_1 tn_1 (by omega) (by omega)) (fun x21 ix21 => ?_)
                      exact rl_inl ⟨rfl, (ti_bd ix21 (by omega) (by omega)), (up_tr us12_2 uy20), (wg_ext wK_y20 is12_1 (ag_up (up_0 mu (κ := 144) _ _) aw0_y20) (by (try dsimp only) <;> omega) (by have q : _ = _ := ix21; (try dsimp only) <;> omega))⟩
                · exact ⟨rfl, (ti_bd ix10 (by omega) (by omega)), (up_0 mu (κ := 144) _ _), (wg_0 (by have q : _ = _ := ix10; (try dsimp only) <;> omega))⟩
                · rintro ⟨y11_1, y11_2⟩ ⟨y11_1r, y11_2r⟩ ⟨ey11_1, ly11_1, uy11_2, vK_y11_2⟩
                  obtain rfl : y11_1 = y11_1r := ey11_1
                  have ly11_1 : x10.toInt ≤ y11_1.toInt ∧ y11_1.toInt ≤ (a1 + s5_1.toInt * 16 + a3) := ly11_1
                  have iy11_1 : TI y11_1 y11_1.toInt := rfl
                  have uy11_2 : Up mu 144 s5_2 s5_2r y11_2 y11_2r := uy11_2
                  have ty11_2 := cx_up ts5_2 uy11_2
                  have wF_y11_2 := wq_up uy11_2 wF_s5_2
                  have wG_y11_2 := wq_up uy11_2 vG_s5_2
                  have vK_y11_2 : WG mu y11_2 y11_2r 139 (0) (a3) (fun j => a1 + s5_1.toInt * 16 + j) := vK_y11_2
                  refine rl_ltI (av_add is5_1 tn_1 (by omega) (by omega)) (fun x14 ix14 => ?_)
                  exact rl_inl ⟨rfl, (ti_bd ix14 (by omega) (by omega)), (up_tr us5_2 uy11_2), (by exact wq_ext wG_y11_2 vK_y11_2 (Int.le_refl _) (fun j h1 h2 => by (try dsimp only) <;> omega) (by have q2 : _ = _ := ix14; (try dsimp only) <;> omega))⟩
            · exact ⟨rfl, (ti_bd tn_0 (by omega) (by omega)), (up_0 mu (κ := 144) _ _), (wq_0 (by have q : _ = _ := tn_0; (try dsimp only) <;> omega))⟩
            · rintro ⟨y4_1, y4_2⟩ ⟨y4_1r, y4_2r⟩ ⟨ey4_1, ly4_1, uy4_2, vG_y4_2⟩
              obtain rfl : y4_1 = y4_1r := ey4_1
              have ly4_1 : 0 ≤ y4_1.toInt ∧ y4_1.toInt ≤ p3.toInt := ly4_1
              have iy4_1 : TI y4_1 y4_1.toInt := rfl
              have uy4_2 : Up mu 144 M N y4_2 y4_2r := uy4_2
              have ty4_2 := cx_up t uy4_2
              have wF_y4_2 := wq_up uy4_2 hF
              have vG_y4_2 : WQ mu y4_2 y4_2r 139 (a3) (a3) (fun r x => a1 + r * 16 + x) := vG_y4_2
              exact rl_some ⟨uy4_2, vG_y4_2⟩
  · rcases h3 with rfl | rfl
    · have hS := hS (by decide)
      refine rl_bnd (Q := fun (y z : Option Nat) => (y = some 141 ∧ z = some (mu 141))) ?_ ?_
      · refine rl_if (fun c1 => ?_) (fun c1 => ?_)
        · have dc1 := tl_eq i0 tn_1 c1
          exact rl_some (rx_c (a := 138) (k := 2) (b := 141) t (Or.inr (Or.inl rfl)) rfl (by decide))
        · have dc1 := tl_ne i0 tn_1 c1
          exfalso
          omega
      · rintro y1 y1r oy1
        refine rl_bnd (Q := fun (y z : Int32) => True) ?_ ?_
        · refine rl_if (fun c2 => ?_) (fun c2 => ?_)
          · have dc2 := tl_eq i0 tn_4 c2
            exfalso
            omega
          · refine rl_ltU (fun x87 x87r => ?_)
            exact rl_some trivial
        · rintro y2 y2r _
          refine rl_bnd (Q := fun (y z : Int32) => True) ?_ ?_
          · refine rl_if (fun c3 => ?_) (fun c3 => ?_)
            · have dc3 := tl_eq i0 tn_4 c3
              exfalso
              omega
            · refine rl_ltU (fun x84 x84r => ?_)
              exact rl_some trivial
          · rintro y3 y3r _
            have kp3 : p3.toInt = _ := i3
            refine rl_bnd (Q := fun (y z : Int32 × DD) => y.1 = z.1 ∧ (0 ≤ y.1.toInt ∧ y.1.toInt ≤ p3.toInt) ∧ Up mu 144 M N y.2 z.2 ∧ WQ mu y.2 z.2 139 (a3) (a3) (fun r x => a1 + r * 8 + x)) (rl_itr (fun (y z : Int32 × DD) => y.1 = z.1 ∧ (0 ≤ y.1.toInt ∧ y.1.toInt ≤ p3.toInt) ∧ Up mu 144 M N y.2 z.2 ∧ WQ mu y.2 z.2 139 (y.1.toInt) (a3) (fun r x => a1 + r * 8 + x)) _ ?_ _ _ _ ?_) ?_
            · rintro ⟨s5_1, s5_2⟩ ⟨s5_1r, s5_2r⟩ ⟨es5_1, ls5_1, us5_2, vG_s5_2⟩
              obtain rfl : s5_1 = s5_1r := es5_1
              have ls5_1 : 0 ≤ s5_1.toInt ∧ s5_1.toInt ≤ p3.toInt := ls5_1
              have is5_1 : TI s5_1 s5_1.toInt := rfl
              have us5_2 : Up mu 144 M N s5_2 s5_2r := us5_2
              have ts5_2 := cx_up t us5_2
              have wS_s5_2 := wq_up us5_2 hS
              have vG_s5_2 : WQ mu s5_2 s5_2r 139 (s5_1.toInt) (a3) (fun r x => a1 + r * 8 + x) := vG_s5_2
              refine rl_if (fun c4 => ?_) (fun c4 => ?_)
              · have dc4 := tl_le i3 is5_1 c4
                exact rl_inr ⟨rfl, (ti_bd is5_1 (by omega) (by omega)), us5_2, (wq_sub vG_s5_2 (by omega))⟩
              · have dc4 := tl_nle i3 is5_1 c4
                refine rl_ltI (av_mul is5_1 i2 (by omega) (by omega)) (fun x9 ix9 => ?_)
                refine rl_ltI (av_add i1 ix9 (by omega) (by omega)) (fun x10 ix10 => ?_)
                have k0x10 : x10.toInt = _ := ix10
                refine rl_bnd (Q := fun (y z : Int32 × DD) => y.1 = z.1 ∧ (x10.toInt ≤ y.1.toInt ∧ y.1.toInt ≤ (a1 + s5_1.toInt * 8 + a3)) ∧ Up mu 144 s5_2 s5_2r y.2 z.2 ∧ WG mu y.2 z.2 139 (0) (a3) (fun j => a1 + s5_1.toInt * 8 + j)) (rl_itr (fun (y z : Int32 × DD) => y.1 = z.1 ∧ (x10.toInt ≤ y.1.toInt ∧ y.1.toInt ≤ (a1 + s5_1.toInt * 8 + a3)) ∧ Up mu 144 s5_2 s5_2r y.2 z.2 ∧ WG mu y.2 z.2 139 (0) (y.1.toInt - (a1 + s5_1.toInt * 8)) (fun j => a1 + s5_1.toInt * 8 + j)) _ ?_ _ _ _ ?_) ?_
                · rintro ⟨s12_1, s12_2⟩ ⟨s12_1r, s12_2r⟩ ⟨es12_1, ls12_1, us12_2, vK_s12_2⟩
                  obtain rfl : s12_1 = s12_1r := es12_1
                  have ls12_1 : x10.toInt ≤ s12_1.toInt ∧ s12_1.toInt ≤ (a1 + s5_1.toInt * 8 + a3) := ls12_1
                  have is12_1 : TI s12_1 s12_1.toInt := rfl
                  have us12_2 : Up mu 144 s5_2 s5_2r s12_2 s12_2r := us12_2
                  have ts12_2 := cx_up ts5_2 us12_2
                  have wS_s12_2 := wq_up us12_2 wS_s5_2
                  have wG_s12_2 := wq_up us12_2 vG_s5_2
                  have vK_s12_2 : WG mu s12_2 s12_2r 139 (0) (s12_1.toInt - (a1 + s5_1.toInt * 8)) (fun j => a1 + s5_1.toInt * 8 + j) := vK_s12_2
                  refine rl_ltI (av_mul is5_1 i2 (by omega) (by omega)) (fun x16 ix16 => ?_)
                  refine rl_ltI (av_add i1 ix16 (by omega) (by omega)) (fun x17 ix17 => ?_)
                  refine rl_ltI (av_add ix17 i3 (by omega) (by omega)) (fun x18 ix18 => ?_)
                  refine rl_if (fun c5 => ?_) (fun c5 => ?_)
                  · have dc5 := tl_le ix18 is12_1 c5
                    exact rl_inr ⟨rfl, (ti_bd is12_1 (by omega) (by omega)), us12_2, (wg_sub vK_s12_2 (by omega) (by omega))⟩
                  · have dc5 := tl_nle ix18 is12_1 c5
                    refine rl_bnd (Q := fun (y z : DD) => Up mu 144 s12_2 s12_2r y z ∧ Ag mu y z 139 s12_1.toNatClampNeg) ?_ ?_
                    · refine rl_if (fun c6 => ?_) (fun c6 => ?_)
                      · have dc6 := tl_le tn_2 i0 c6
                        exfalso
                        omega
                      · have dc6 := tl_nle tn_2 i0 c6
                        refine rl_dr (cx_U ts12_2) oy1 (fun gb79 => ?_)
                        refine rl_chk (chkl (cx_U ts12_2) gb79) (fun k7 => ?_)
                        refine rl_rd (wq_use wS_s12_2 is12_1 (s5_1.toInt) (s12_1.toInt - (a1 + s5_1.toInt * 8)) (by omega) (by omega) (by omega) (by omega) (by (try dsimp only) <;> omega)) (fun x80 => ?_)
                        refine rl_dr (cx_U ts12_2) (rx_c (a := 138) (k := 0) (b := 139) ts12_2 (Or.inr (Or.inl rfl)) rfl (by decide)) (fun gb81 => ?_)
                        refine rl_chk (chkl (cx_U ts12_2) gb81) (fun k8 => ?_)
                        refine rl_w (κ := 144) (cx_U ts12_2) (by decide) (fun M82 M82r uM82 AM82 nM82 => ?_)
                        have tM82 := cx_up ts12_2 uM82
                        have wS_M82 := wq_up uM82 wS_s12_2
                        have wG_M82 := wq_up uM82 wG_s12_2
                        have wK_M82 := wg_up uM82 vK_s12_2
                        exact rl_some ⟨uM82, (ag_up (up_0 mu (κ := 144) _ _) AM82)⟩
                    · rintro y20 y20r ⟨uy20, aw0_y20'⟩
                      have uy20 : Up mu 144 s12_2 s12_2r y20 y20r := uy20
                      have ty20 := cx_up ts12_2 uy20
                      have wS_y20 := wq_up uy20 wS_s12_2
                      have wG_y20 := wq_up uy20 wG_s12_2
                      have wK_y20 := wg_up uy20 vK_s12_2
                      have aw0_y20 : Ag mu y20 y20r 139 s12_1.toNatClampNeg := aw0_y20'
                      refine rl_ltI (av_add is12_1 tn_1 (by omega) (by omega)) (fun x21 ix21 => ?_)
                      exact rl_inl ⟨rfl, (ti_bd ix21 (by omega) (by omega)), (up_tr us12_2 uy20), (wg_ext wK_y20 is12_1 (ag_up (up_0 mu (κ := 144) _ _) aw0_y20) (by (try dsimp only) <;> omega) (by have q : _ = _ := ix21; (try dsimp only) <;> omega))⟩
                · exact ⟨rfl, (ti_bd ix10 (by omega) (by omega)), (up_0 mu (κ := 144) _ _), (wg_0 (by have q : _ = _ := ix10; (try dsimp only) <;> omega))⟩
                · rintro ⟨y11_1, y11_2⟩ ⟨y11_1r, y11_2r⟩ ⟨ey11_1, ly11_1, uy11_2, vK_y11_2⟩
                  obtain rfl : y11_1 = y11_1r := ey11_1
                  have ly11_1 : x10.toInt ≤ y11_1.toInt ∧ y11_1.toInt ≤ (a1 + s5_1.toInt * 8 + a3) := ly11_1
                  have iy11_1 : TI y11_1 y11_1.toInt := rfl
                  have uy11_2 : Up mu 144 s5_2 s5_2r y11_2 y11_2r := uy11_2
                  have ty11_2 := cx_up ts5_2 uy11_2
                  have wS_y11_2 := wq_up uy11_2 wS_s5_2
                  have wG_y11_2 := wq_up uy11_2 vG_s5_2
                  have vK_y11_2 : WG mu y11_2 y11_2r 139 (0) (a3) (fun j => a1 + s5_1.toInt * 8 + j) := vK_y11_2
                  refine rl_ltI (av_add is5_1 tn_1 (by omega) (by omega)) (fun x14 ix14 => ?_)
                  exact rl_inl ⟨rfl, (ti_bd ix14 (by omega) (by omega)), (up_tr us5_2 uy11_2), (by exact wq_ext wG_y11_2 vK_y11_2 (Int.le_refl _) (fun j h1 h2 => by (try dsimp only) <;> omega) (by have q2 : _ = _ := ix14; (try dsimp only) <;> omega))⟩
            · exact ⟨rfl, (ti_bd tn_0 (by omega) (by omega)), (up_0 mu (κ := 144) _ _), (wq_0 (by have q : _ = _ := tn_0; (try dsimp only) <;> omega))⟩
            · rintro ⟨y4_1, y4_2⟩ ⟨y4_1r, y4_2r⟩ ⟨ey4_1, ly4_1, uy4_2, vG_y4_2⟩
              obtain rfl : y4_1 = y4_1r := ey4_1
              have ly4_1 : 0 ≤ y4_1.toInt ∧ y4_1.toInt ≤ p3.toInt := ly4_1
              have iy4_1 : TI y4_1 y4_1.toInt := rfl
              have uy4_2 : Up mu 144 M N y4_2 y4_2r := uy4_2
              have ty4_2 := cx_up t uy4_2
              have wS_y4_2 := wq_up uy4_2 hS
              have vG_y4_2 : WQ mu y4_2 y4_2r 139 (a3) (a3) (fun r x => a1 + r * 8 + x) := vG_y4_2
              exact rl_some ⟨uy4_2, vG_y4_2⟩
    · have hS := hS (by decide)
      refine rl_bnd (Q := fun (y z : Option Nat) => (y = some 141 ∧ z = some (mu 141))) ?_ ?_
      · refine rl_if (fun c1 => ?_) (fun c1 => ?_)
        · have dc1 := tl_eq i0 tn_1 c1
          exact rl_some (rx_c (a := 138) (k := 2) (b := 141) t (Or.inr (Or.inl rfl)) rfl (by decide))
        · have dc1 := tl_ne i0 tn_1 c1
          exfalso
          omega
      · rintro y1 y1r oy1
        refine rl_bnd (Q := fun (y z : Int32) => True) ?_ ?_
        · refine rl_if (fun c2 => ?_) (fun c2 => ?_)
          · have dc2 := tl_eq i0 tn_4 c2
            exfalso
            omega
          · refine rl_ltU (fun x87 x87r => ?_)
            exact rl_some trivial
        · rintro y2 y2r _
          refine rl_bnd (Q := fun (y z : Int32) => True) ?_ ?_
          · refine rl_if (fun c3 => ?_) (fun c3 => ?_)
            · have dc3 := tl_eq i0 tn_4 c3
              exfalso
              omega
            · refine rl_ltU (fun x84 x84r => ?_)
              exact rl_some trivial
          · rintro y3 y3r _
            have kp3 : p3.toInt = _ := i3
            refine rl_bnd (Q := fun (y z : Int32 × DD) => y.1 = z.1 ∧ (0 ≤ y.1.toInt ∧ y.1.toInt ≤ p3.toInt) ∧ Up mu 144 M N y.2 z.2 ∧ WQ mu y.2 z.2 139 (a3) (a3) (fun r x => a1 + r * 16 + x)) (rl_itr (fun (y z : Int32 × DD) => y.1 = z.1 ∧ (0 ≤ y.1.toInt ∧ y.1.toInt ≤ p3.toInt) ∧ Up mu 144 M N y.2 z.2 ∧ WQ mu y.2 z.2 139 (y.1.toInt) (a3) (fun r x => a1 + r * 16 + x)) _ ?_ _ _ _ ?_) ?_
            · rintro ⟨s5_1, s5_2⟩ ⟨s5_1r, s5_2r⟩ ⟨es5_1, ls5_1, us5_2, vG_s5_2⟩
              obtain rfl : s5_1 = s5_1r := es5_1
              have ls5_1 : 0 ≤ s5_1.toInt ∧ s5_1.toInt ≤ p3.toInt := ls5_1
              have is5_1 : TI s5_1 s5_1.toInt := rfl
              have us5_2 : Up mu 144 M N s5_2 s5_2r := us5_2
              have ts5_2 := cx_up t us5_2
              have wS_s5_2 := wq_up us5_2 hS
              have vG_s5_2 : WQ mu s5_2 s5_2r 139 (s5_1.toInt) (a3) (fun r x => a1 + r * 16 + x) := vG_s5_2
              refine rl_if (fun c4 => ?_) (fun c4 => ?_)
              · have dc4 := tl_le i3 is5_1 c4
                exact rl_inr ⟨rfl, (ti_bd is5_1 (by omega) (by omega)), us5_2, (wq_sub vG_s5_2 (by omega))⟩
              · have dc4 := tl_nle i3 is5_1 c4
                refine rl_ltI (av_mul is5_1 i2 (by omega) (by omega)) (fun x9 ix9 => ?_)
                refine rl_ltI (av_add i1 ix9 (by omega) (by omega)) (fun x10 ix10 => ?_)
                have k0x10 : x10.toInt = _ := ix10
                refine rl_bnd (Q := fun (y z : Int32 × DD) => y.1 = z.1 ∧ (x10.toInt ≤ y.1.toInt ∧ y.1.toInt ≤ (a1 + s5_1.toInt * 16 + a3)) ∧ Up mu 144 s5_2 s5_2r y.2 z.2 ∧ WG mu y.2 z.2 139 (0) (a3) (fun j => a1 + s5_1.toInt * 16 + j)) (rl_itr (fun (y z : Int32 × DD) => y.1 = z.1 ∧ (x10.toInt ≤ y.1.toInt ∧ y.1.toInt ≤ (a1 + s5_1.toInt * 16 + a3)) ∧ Up mu 144 s5_2 s5_2r y.2 z.2 ∧ WG mu y.2 z.2 139 (0) (y.1.toInt - (a1 + s5_1.toInt * 16)) (fun j => a1 + s5_1.toInt * 16 + j)) _ ?_ _ _ _ ?_) ?_
                · rintro ⟨s12_1, s12_2⟩ ⟨s12_1r, s12_2r⟩ ⟨es12_1, ls12_1, us12_2, vK_s12_2⟩
                  obtain rfl : s12_1 = s12_1r := es12_1
                  have ls12_1 : x10.toInt ≤ s12_1.toInt ∧ s12_1.toInt ≤ (a1 + s5_1.toInt * 16 + a3) := ls12_1
                  have is12_1 : TI s12_1 s12_1.toInt := rfl
                  have us12_2 : Up mu 144 s5_2 s5_2r s12_2 s12_2r := us12_2
                  have ts12_2 := cx_up ts5_2 us12_2
                  have wS_s12_2 := wq_up us12_2 wS_s5_2
                  have wG_s12_2 := wq_up us12_2 vG_s5_2
                  have vK_s12_2 : WG mu s12_2 s12_2r 139 (0) (s12_1.toInt - (a1 + s5_1.toInt * 16)) (fun j => a1 + s5_1.toInt * 16 + j) := vK_s12_2
                  refine rl_ltI (av_mul is5_1 i2 (by omega) (by omega)) (fun x16 ix16 => ?_)
                  refine rl_ltI (av_add i1 ix16 (by omega) (by omega)) (fun x17 ix17 => ?_)
                  refine rl_ltI (av_add ix17 i3 (by omega) (by omega)) (fun x18 ix18 => ?_)
                  refine rl_if (fun c5 => ?_) (fun c5 => ?_)
                  · have dc5 := tl_le ix18 is12_1 c5
                    exact rl_inr ⟨rfl, (ti_bd is12_1 (by omega) (by omega)), us12_2, (wg_sub vK_s12_2 (by omega) (by omega))⟩
                  · have dc5 := tl_nle ix18 is12_1 c5
                    refine rl_bnd (Q := fun (y z : DD) => Up mu 144 s12_2 s12_2r y z ∧ Ag mu y z 139 s12_1.toNatClampNeg) ?_ ?_
                    · refine rl_if (fun c6 => ?_) (fun c6 => ?_)
                      · have dc6 := tl_le tn_2 i0 c6
                        exfalso
                        omega
                      · have dc6 := tl_nle tn_2 i0 c6
                        refine rl_dr (cx_U ts12_2) oy1 (fun gb79 => ?_)
                        refine rl_chk (chkl (cx_U ts12_2) gb79) (fun k7 => ?_)
                        refine rl_rd (wq_use wS_s12_2 is12_1 (s5_1.toInt) (s12_1.toInt - (a1 + s5_1.toInt * 16)) (by omega) (by omega) (by omega) (by omega) (by (try dsimp only) <;> omega)) (fun x80 => ?_)
                        refine rl_dr (cx_U ts12_2) (rx_c (a := 138) (k := 0) (b := 139) ts12_2 (Or.inr (Or.inl rfl)) rfl (by decide)) (fun gb81 => ?_)
                        refine rl_chk (chkl (cx_U ts12_2) gb81) (fun k8 => ?_)
                        refine rl_w (κ := 144) (cx_U ts12_2) (by decide) (fun M82 M82r uM82 AM82 nM82 => ?_)
                        have tM82 := cx_up ts12_2 uM82
                        have wS_M82 := wq_up uM82 wS_s12_2
                        have wG_M82 := wq_up uM82 wG_s12_2
                        have wK_M82 := wg_up uM82 vK_s12_2
                        exact rl_some ⟨uM82, (ag_up (up_0 mu (κ := 144) _ _) AM82)⟩
                    · rintro y20 y20r ⟨uy20, aw0_y20'⟩
                      have uy20 : Up mu 144 s12_2 s12_2r y20 y20r := uy20
                      have ty20 := cx_up ts12_2 uy20
                      have wS_y20 := wq_up uy20 wS_s12_2
                      have wG_y20 := wq_up uy20 wG_s12_2
                      have wK_y20 := wg_up uy20 vK_s12_2
                      have aw0_y20 : Ag mu y20 y20r 139 s12_1.toNatClampNeg := aw0_y20'
                      refine rl_ltI (av_add is12_1 tn_1 (by omega) (by omega)) (fun x21 ix21 => ?_)
                      exact rl_inl ⟨rfl, (ti_bd ix21 (by omega) (by omega)), (up_tr us12_2 uy20), (wg_ext wK_y20 is12_1 (ag_up (up_0 mu (κ := 144) _ _) aw0_y20) (by (try dsimp only) <;> omega) (by have q : _ = _ := ix21; (try dsimp only) <;> omega))⟩
                · exact ⟨rfl, (ti_bd ix10 (by omega) (by omega)), (up_0 mu (κ := 144) _ _), (wg_0 (by have q : _ = _ := ix10; (try dsimp only) <;> omega))⟩
                · rintro ⟨y11_1, y11_2⟩ ⟨y11_1r, y11_2r⟩ ⟨ey11_1, ly11_1, uy11_2, vK_y11_2⟩
                  obtain rfl : y11_1 = y11_1r := ey11_1
                  have ly11_1 : x10.toInt ≤ y11_1.toInt ∧ y11_1.toInt ≤ (a1 + s5_1.toInt * 16 + a3) := ly11_1
                  have iy11_1 : TI y11_1 y11_1.toInt := rfl
                  have uy11_2 : Up mu 144 s5_2 s5_2r y11_2 y11_2r := uy11_2
                  have ty11_2 := cx_up ts5_2 uy11_2
                  have wS_y11_2 := wq_up uy11_2 wS_s5_2
                  have wG_y11_2 := wq_up uy11_2 vG_s5_2
                  have vK_y11_2 : WG mu y11_2 y11_2r 139 (0) (a3) (fun j => a1 + s5_1.toInt * 16 + j) := vK_y11_2
                  refine rl_ltI (av_add is5_1 tn_1 (by omega) (by omega)) (fun x14 ix14 => ?_)
                  exact rl_inl ⟨rfl, (ti_bd ix14 (by omega) (by omega)), (up_tr us5_2 uy11_2), (by exact wq_ext wG_y11_2 vK_y11_2 (Int.le_refl _) (fun j h1 h2 => by (try dsimp only) <;> omega) (by have q2 : _ = _ := ix14; (try dsimp only) <;> omega))⟩
            · exact ⟨rfl, (ti_bd tn_0 (by omega) (by omega)), (up_0 mu (κ := 144) _ _), (wq_0 (by have q : _ = _ := tn_0; (try dsimp only) <;> omega))⟩
            · rintro ⟨y4_1, y4_2⟩ ⟨y4_1r, y4_2r⟩ ⟨ey4_1, ly4_1, uy4_2, vG_y4_2⟩
              obtain rfl : y4_1 = y4_1r := ey4_1
              have ly4_1 : 0 ≤ y4_1.toInt ∧ y4_1.toInt ≤ p3.toInt := ly4_1
              have iy4_1 : TI y4_1 y4_1.toInt := rfl
              have uy4_2 : Up mu 144 M N y4_2 y4_2r := uy4_2
              have ty4_2 := cx_up t uy4_2
              have wS_y4_2 := wq_up uy4_2 hS
              have vG_y4_2 : WQ mu y4_2 y4_2r 139 (a3) (a3) (fun r x => a1 + r * 16 + x) := vG_y4_2
              exact rl_some ⟨uy4_2, vG_y4_2⟩
  · rcases h3 with rfl | rfl
    · have hF := hF (by decide)
      have hS := hS (by decide)
      refine rl_bnd (Q := fun (y z : Option Nat) => (y = some 140 ∧ z = some (mu 140))) ?_ ?_
      · refine rl_if (fun c1 => ?_) (fun c1 => ?_)
        · have dc1 := tl_eq i0 tn_1 c1
          exfalso
          omega
        · refine rl_bnd (Q := fun (y z : Option Nat) => (y = some 140 ∧ z = some (mu 140))) ?_ ?_
          · refine rl_if (fun c2 => ?_) (fun c2 => ?_)
            · have dc2 := tl_eq i0 tn_4 c2
              exfalso
              omega
            · exact rl_some (rx_c (a := 138) (k := 1) (b := 140) t (Or.inr (Or.inl rfl)) rfl (by decide))
          · rintro y90 y90r oy90
            exact rl_some oy90
      · rintro y1 y1r oy1
        refine rl_bnd (Q := fun (y z : Int32) => True) ?_ ?_
        · refine rl_if (fun c3 => ?_) (fun c3 => ?_)
          · have dc3 := tl_eq i0 tn_4 c3
            exfalso
            omega
          · refine rl_ltU (fun x87 x87r => ?_)
            exact rl_some trivial
        · rintro y2 y2r _
          refine rl_bnd (Q := fun (y z : Int32) => True) ?_ ?_
          · refine rl_if (fun c4 => ?_) (fun c4 => ?_)
            · have dc4 := tl_eq i0 tn_4 c4
              exfalso
              omega
            · refine rl_ltU (fun x84 x84r => ?_)
              exact rl_some trivial
          · rintro y3 y3r _
            have kp3 : p3.toInt = _ := i3
            refine rl_bnd (Q := fun (y z : Int32 × DD) => y.1 = z.1 ∧ (0 ≤ y.1.toInt ∧ y.1.toInt ≤ p3.toInt) ∧ Up mu 144 M N y.2 z.2 ∧ WQ mu y.2 z.2 139 (a3) (a3) (fun r x => a1 + r * 8 + x)) (rl_itr (fun (y z : Int32 × DD) => y.1 = z.1 ∧ (0 ≤ y.1.toInt ∧ y.1.toInt ≤ p3.toInt) ∧ Up mu 144 M N y.2 z.2 ∧ WQ mu y.2 z.2 139 (y.1.toInt) (a3) (fun r x => a1 + r * 8 + x)) _ ?_ _ _ _ ?_) ?_
            · rintro ⟨s5_1, s5_2⟩ ⟨s5_1r, s5_2r⟩ ⟨es5_1, ls5_1, us5_2, vG_s5_2⟩
              obtain rfl : s5_1 = s5_1r := es5_1
              have ls5_1 : 0 ≤ s5_1.toInt ∧ s5_1.toInt ≤ p3.toInt := ls5_1
              have is5_1 : TI s5_1 s5_1.toInt := rfl
              have us5_2 : Up mu 144 M N s5_2 s5_2r := us5_2
              have ts5_2 := cx_up t us5_2
              have wF_s5_2 := wq_up us5_2 hF
              have wS_s5_2 := wq_up us5_2 hS
              have vG_s5_2 : WQ mu s5_2 s5_2r 139 (s5_1.toInt) (a3) (fun r x => a1 + r * 8 + x) := vG_s5_2
              refine rl_if (fun c5 => ?_) (fun c5 => ?_)
              · have dc5 := tl_le i3 is5_1 c5
                exact rl_inr ⟨rfl, (ti_bd is5_1 (by omega) (by omega)), us5_2, (wq_sub vG_s5_2 (by omega))⟩
              · have dc5 := tl_nle i3 is5_1 c5
                refine rl_ltI (av_mul is5_1 i2 (by omega) (by omega)) (fun x9 ix9 => ?_)
                refine rl_ltI (av_add i1 ix9 (by omega) (by omega)) (fun x10 ix10 => ?_)
                have k0x10 : x10.toInt = _ := ix10
                refine rl_bnd (Q := fun (y z : Int32 × DD) => y.1 = z.1 ∧ (x10.toInt ≤ y.1.toInt ∧ y.1.toInt ≤ (a1 + s5_1.toInt * 8 + a3)) ∧ Up mu 144 s5_2 s5_2r y.2 z.2 ∧ WG mu y.2 z.2 139 (0) (a3) (fun j => a1 + s5_1.toInt * 8 + j)) (rl_itr (fun (y z : Int32 × DD) => y.1 = z.1 ∧ (x10.toInt ≤ y.1.toInt ∧ y.1.toInt ≤ (a1 + s5_1.toInt * 8 + a3)) ∧ Up mu 144 s5_2 s5_2r y.2 z.2 ∧ WG mu y.2 z.2 139 (0) (y.1.toInt - (a1 + s5_1.toInt * 8)) (fun j => a1 + s5_1.toInt * 8 + j)) _ ?_ _ _ _ ?_) ?_
                · rintro ⟨s12_1, s12_2⟩ ⟨s12_1r, s12_2r⟩ ⟨es12_1, ls12_1, us12_2, vK_s12_2⟩
                  obtain rfl : s12_1 = s12_1r := es12_1
                  have ls12_1 : x10.toInt ≤ s12_1.toInt ∧ s12_1.toInt ≤ (a1 + s5_1.toInt * 8 + a3) := ls12_1
                  have is12_1 : TI s12_1 s12_1.toInt := rfl
                  have us12_2 : Up mu 144 s5_2 s5_2r s12_2 s12_2r := us12_2
                  have ts12_2 := cx_up ts5_2 us12_2
                  have wF_s12_2 := wq_up us12_2 wF_s5_2
                  have wS_s12_2 := wq_up us12_2 wS_s5_2
                  have wG_s12_2 := wq_up us12_2 vG_s5_2
                  have vK_s12_2 : WG mu s12_2 s12_2r 139 (0) (s12_1.toInt - (a1 + s5_1.toInt * 8)) (fun j => a1 + s5_1.toInt * 8 + j) := vK_s12_2
                  refine rl_ltI (av_mul is5_1 i2 (by omega) (by omega)) (fun x16 ix16 => ?_)
                  refine rl_ltI (av_add i1 ix16 (by omega) (by omega)) (fun x17 ix17 => ?_)
                  refine rl_ltI (av_add ix17 i3 (by omega) (by omega)) (fun x18 ix18 => ?_)
                  refine rl_if (fun c6 => ?_) (fun c6 => ?_)
                  · have dc6 := tl_le ix18 is12_1 c6
                    exact rl_inr ⟨rfl, (ti_bd is12_1 (by omega) (by omega)), us12_2, (wg_sub vK_s12_2 (by omega) (by omega))⟩
                  · have dc6 := tl_nle ix18 is12_1 c6
                    refine rl_bnd (Q := fun (y z : DD) => Up mu 144 s12_2 s12_2r y z ∧ Ag mu y z 139 s12_1.toNatClampNeg) ?_ ?_
                    · refine rl_if (fun c7 => ?_) (fun c7 => ?_)
                      · have dc7 := tl_le tn_2 i0 c7
                        refine rl_bnd (Q := fun (y z : DD) => Up mu 144 s12_2 s12_2r y z ∧ Ag mu y z 139 s12_1.toNatClampNeg) ?_ ?_
                        · refine rl_if (fun c8 => ?_) (fun c8 => ?_)
                          · have dc8 := tl_eq i0 tn_2 c8
                            refine rl_dr (cx_U ts12_2) (rx_c (a := 138) (k := 1) (b := 140) ts12_2 (Or.inr (Or.inl rfl)) rfl (by decide)) (fun gb70 => ?_)
                            refine rl_chk (chkl (cx_U ts12_2) gb70) (fun k9 => ?_)
                            refine rl_rd (wq_use wF_s12_2 is12_1 (s5_1.toInt) (s12_1.toInt - (a1 + s5_1.toInt * 8)) (by omega) (by omega) (by omega) (by omega) (by (try dsimp only) <;> omega)) (fun x71 => ?_)
                            refine rl_dr (cx_U ts12_2) (rx_c (a := 138) (k := 2) (b := 141) ts12_2 (Or.inr (Or.inl rfl)) rfl (by decide)) (fun gb72 => ?_)
                            refine rl_chk (chkl (cx_U ts12_2) gb72) (fun k10 => ?_)
                            refine rl_rd (wq_use wS_s12_2 is12_1 (s5_1.toInt) (s12_1.toInt - (a1 + s5_1.toInt * 8)) (by omega) (by omega) (by omega) (by omega) (by (try dsimp only) <;> omega)) (fun x73 => ?_)
                            refine rl_ltA (fun x74 => ?_)
                            refine rl_ltA (fun x75 => ?_)
                            refine rl_ltA (fun x76 => ?_)
                            refine rl_dr (cx_U ts12_2) (rx_c (a := 138) (k := 0) (b := 139) ts12_2 (Or.inr (Or.inl rfl)) rfl (by decide)) (fun gb77 => ?_)
                            refine rl_chk (chkl (cx_U ts12_2) gb77) (fun k11 => ?_)
                            refine rl_w (κ := 144) (cx_U ts12_2) (by decide) (fun M78 M78r uM78 AM78 nM78 => ?_)
                            have tM78 := cx_up ts12_2 uM78
                            have wF_M78 := wq_up uM78 wF_s12_2
                            have wS_M78 := wq_up uM78 wS_s12_2
                            have wG_M78 := wq_up uM78 wG_s12_2
                            have wK_M78 := wg_up uM78 vK_s12_2
                            exact rl_some ⟨uM78, (ag_up (up_0 mu (κ := 144) _ _) AM78)⟩
                          · have dc8 := tl_ne i0 tn_2 c8
                            exfalso
                            omega
                        · rintro y23 y23r ⟨uy23, aw0_y23'⟩
                          have uy23 : Up mu 144 s12_2 s12_2r y23 y23r := uy23
                          have ty23 := cx_up ts12_2 uy23
                          have wF_y23 := wq_up uy23 wF_s12_2
                          have wS_y23 := wq_up uy23 wS_s12_2
                          have wG_y23 := wq_up uy23 wG_s12_2
                          have wK_y23 := wg_up uy23 vK_s12_2
                          have aw0_y23 : Ag mu y23 y23r 139 s12_1.toNatClampNeg := aw0_y23'
                          exact rl_some ⟨uy23, (ag_up (up_0 mu (κ := 144) _ _) aw0_y23)⟩
                      · have dc7 := tl_nle tn_2 i0 c7
                        exfalso
                        omega
                    · rintro y20 y20r ⟨uy20, aw0_y20'⟩
                      have uy20 : Up mu 144 s12_2 s12_2r y20 y20r := uy20
                      have ty20 := cx_up ts12_2 uy20
                      have wF_y20 := wq_up uy20 wF_s12_2
                      have wS_y20 := wq_up uy20 wS_s12_2
                      have wG_y20 := wq_up uy20 wG_s12_2
                      have wK_y20 := wg_up uy20 vK_s12_2
                      have aw0_y20 : Ag mu y20 y20r 139 s12_1.toNatClampNeg := aw0_y20'
                      refine rl_ltI (av_add is12_1 tn_1 (by omega) (by omega)) (fun x21 ix21 => ?_)
                      exact rl_inl ⟨rfl, (ti_bd ix21 (by omega) (by omega)), (up_tr us12_2 uy20), (wg_ext wK_y20 is12_1 (ag_up (up_0 mu (κ := 144) _ _) aw0_y20) (by (try dsimp only) <;> omega) (by have q : _ = _ := ix21; (try dsimp only) <;> omega))⟩
                · exact ⟨rfl, (ti_bd ix10 (by omega) (by omega)), (up_0 mu (κ := 144) _ _), (wg_0 (by have q : _ = _ := ix10; (try dsimp only) <;> omega))⟩
                · rintro ⟨y11_1, y11_2⟩ ⟨y11_1r, y11_2r⟩ ⟨ey11_1, ly11_1, uy11_2, vK_y11_2⟩
                  obtain rfl : y11_1 = y11_1r := ey11_1
                  have ly11_1 : x10.toInt ≤ y11_1.toInt ∧ y11_1.toInt ≤ (a1 + s5_1.toInt * 8 + a3) := ly11_1
                  have iy11_1 : TI y11_1 y11_1.toInt := rfl
                  have uy11_2 : Up mu 144 s5_2 s5_2r y11_2 y11_2r := uy11_2
                  have ty11_2 := cx_up ts5_2 uy11_2
                  have wF_y11_2 := wq_up uy11_2 wF_s5_2
                  have wS_y11_2 := wq_up uy11_2 wS_s5_2
                  have wG_y11_2 := wq_up uy11_2 vG_s5_2
                  have vK_y11_2 : WG mu y11_2 y11_2r 139 (0) (a3) (fun j => a1 + s5_1.toInt * 8 + j) := vK_y11_2
                  refine rl_ltI (av_add is5_1 tn_1 (by omega) (by omega)) (fun x14 ix14 => ?_)
                  exact rl_inl ⟨rfl, (ti_bd ix14 (by omega) (by omega)), (up_tr us5_2 uy11_2), (by exact wq_ext wG_y11_2 vK_y11_2 (Int.le_refl _) (fun j h1 h2 => by (try dsimp only) <;> omega) (by have q2 : _ = _ := ix14; (try dsimp only) <;> omega))⟩
            · exact ⟨rfl, (ti_bd tn_0 (by omega) (by omega)), (up_0 mu (κ := 144) _ _), (wq_0 (by have q : _ = _ := tn_0; (try dsimp only) <;> omega))⟩
            · rintro ⟨y4_1, y4_2⟩ ⟨y4_1r, y4_2r⟩ ⟨ey4_1, ly4_1, uy4_2, vG_y4_2⟩
              obtain rfl : y4_1 = y4_1r := ey4_1
              have ly4_1 : 0 ≤ y4_1.toInt ∧ y4_1.toInt ≤ p3.toInt := ly4_1
              have iy4_1 : TI y4_1 y4_1.toInt := rfl
              have uy4_2 : Up mu 144 M N y4_2 y4_2r := uy4_2
              have ty4_2 := cx_up t uy4_2
              have wF_y4_2 := wq_up uy4_2 hF
              have wS_y4_2 := wq_up uy4_2 hS
              have vG_y4_2 : WQ mu y4_2 y4_2r 139 (a3) (a3) (fun r x => a1 + r * 8 + x) := vG_y4_2
              exact rl_some ⟨uy4_2, vG_y4_2⟩
    · have hF := hF (by decide)
      have hS := hS (by decide)
      refine rl_bnd (Q := fun (y z : Option Nat) => (y = some 140 ∧ z = some (mu 140))) ?_ ?_
      · refine rl_if (fun c1 => ?_) (fun c1 => ?_)
        · have dc1 := tl_eq i0 tn_1 c1
          exfalso
          omega
        · refine rl_bnd (Q := fun (y z : Option Nat) => (y = some 140 ∧ z = some (mu 140))) ?_ ?_
          · refine rl_if (fun c2 => ?_) (fun c2 => ?_)
            · have dc2 := tl_eq i0 tn_4 c2
              exfalso
              omega
            · exact rl_some (rx_c (a := 138) (k := 1) (b := 140) t (Or.inr (Or.inl rfl)) rfl (by decide))
          · rintro y90 y90r oy90
            exact rl_some oy90
      · rintro y1 y1r oy1
        refine rl_bnd (Q := fun (y z : Int32) => True) ?_ ?_
        · refine rl_if (fun c3 => ?_) (fun c3 => ?_)
          · have dc3 := tl_eq i0 tn_4 c3
            exfalso
            omega
          · refine rl_ltU (fun x87 x87r => ?_)
            exact rl_some trivial
        · rintro y2 y2r _
          refine rl_bnd (Q := fun (y z : Int32) => True) ?_ ?_
          · refine rl_if (fun c4 => ?_) (fun c4 => ?_)
            · have dc4 := tl_eq i0 tn_4 c4
              exfalso
              omega
            · refine rl_ltU (fun x84 x84r => ?_)
              exact rl_some trivial
          · rintro y3 y3r _
            have kp3 : p3.toInt = _ := i3
            refine rl_bnd (Q := fun (y z : Int32 × DD) => y.1 = z.1 ∧ (0 ≤ y.1.toInt ∧ y.1.toInt ≤ p3.toInt) ∧ Up mu 144 M N y.2 z.2 ∧ WQ mu y.2 z.2 139 (a3) (a3) (fun r x => a1 + r * 16 + x)) (rl_itr (fun (y z : Int32 × DD) => y.1 = z.1 ∧ (0 ≤ y.1.toInt ∧ y.1.toInt ≤ p3.toInt) ∧ Up mu 144 M N y.2 z.2 ∧ WQ mu y.2 z.2 139 (y.1.toInt) (a3) (fun r x => a1 + r * 16 + x)) _ ?_ _ _ _ ?_) ?_
            · rintro ⟨s5_1, s5_2⟩ ⟨s5_1r, s5_2r⟩ ⟨es5_1, ls5_1, us5_2, vG_s5_2⟩
              obtain rfl : s5_1 = s5_1r := es5_1
              have ls5_1 : 0 ≤ s5_1.toInt ∧ s5_1.toInt ≤ p3.toInt := ls5_1
              have is5_1 : TI s5_1 s5_1.toInt := rfl
              have us5_2 : Up mu 144 M N s5_2 s5_2r := us5_2
              have ts5_2 := cx_up t us5_2
              have wF_s5_2 := wq_up us5_2 hF
              have wS_s5_2 := wq_up us5_2 hS
              have vG_s5_2 : WQ mu s5_2 s5_2r 139 (s5_1.toInt) (a3) (fun r x => a1 + r * 16 + x) := vG_s5_2
              refine rl_if (fun c5 => ?_) (fun c5 => ?_)
              · have dc5 := tl_le i3 is5_1 c5
                exact rl_inr ⟨rfl, (ti_bd is5_1 (by omega) (by omega)), us5_2, (wq_sub vG_s5_2 (by omega))⟩
              · have dc5 := tl_nle i3 is5_1 c5
                refine rl_ltI (av_mul is5_1 i2 (by omega) (by omega)) (fun x9 ix9 => ?_)
                refine rl_ltI (av_add i1 ix9 (by omega) (by omega)) (fun x10 ix10 => ?_)
                have k0x10 : x10.toInt = _ := ix10
                refine rl_bnd (Q := fun (y z : Int32 × DD) => y.1 = z.1 ∧ (x10.toInt ≤ y.1.toInt ∧ y.1.toInt ≤ (a1 + s5_1.toInt * 16 + a3)) ∧ Up mu 144 s5_2 s5_2r y.2 z.2 ∧ WG mu y.2 z.2 139 (0) (a3) (fun j => a1 + s5_1.toInt * 16 + j)) (rl_itr (fun (y z : Int32 × DD) => y.1 = z.1 ∧ (x10.toInt ≤ y.1.toInt ∧ y.1.toInt ≤ (a1 + s5_1.toInt * 16 + a3)) ∧ Up mu 144 s5_2 s5_2r y.2 z.2 ∧ WG mu y.2 z.2 139 (0) (y.1.toInt - (a1 + s5_1.toInt * 16)) (fun j => a1 + s5_1.toInt * 16 + j)) _ ?_ _ _ _ ?_) ?_
                · rintro ⟨s12_1, s12_2⟩ ⟨s12_1r, s12_2r⟩ ⟨es12_1, ls12_1, us12_2, vK_s12_2⟩
                  obtain rfl : s12_1 = s12_1r := es12_1
                  have ls12_1 : x10.toInt ≤ s12_1.toInt ∧ s12_1.toInt ≤ (a1 + s5_1.toInt * 16 + a3) := ls12_1
                  have is12_1 : TI s12_1 s12_1.toInt := rfl
                  have us12_2 : Up mu 144 s5_2 s5_2r s12_2 s12_2r := us12_2
                  have ts12_2 := cx_up ts5_2 us12_2
                  have wF_s12_2 := wq_up us12_2 wF_s5_2
                  have wS_s12_2 := wq_up us12_2 wS_s5_2
                  have wG_s12_2 := wq_up us12_2 vG_s5_2
                  have vK_s12_2 : WG mu s12_2 s12_2r 139 (0) (s12_1.toInt - (a1 + s5_1.toInt * 16)) (fun j => a1 + s5_1.toInt * 16 + j) := vK_s12_2
                  refine rl_ltI (av_mul is5_1 i2 (by omega) (by omega)) (fun x16 ix16 => ?_)
                  refine rl_ltI (av_add i1 ix16 (by omega) (by omega)) (fun x17 ix17 => ?_)
                  refine rl_ltI (av_add ix17 i3 (by omega) (by omega)) (fun x18 ix18 => ?_)
                  refine rl_if (fun c6 => ?_) (fun c6 => ?_)
                  · have dc6 := tl_le ix18 is12_1 c6
                    exact rl_inr ⟨rfl, (ti_bd is12_1 (by omega) (by omega)), us12_2, (wg_sub vK_s12_2 (by omega) (by omega))⟩
                  · have dc6 := tl_nle ix18 is12_1 c6
                    refine rl_bnd (Q := fun (y z : DD) => Up mu 144 s12_2 s12_2r y z ∧ Ag mu y z 139 s12_1.toNatClampNeg) ?_ ?_
                    · refine rl_if (fun c7 => ?_) (fun c7 => ?_)
                      · have dc7 := tl_le tn_2 i0 c7
                        refine rl_bnd (Q := fun (y z : DD) => Up mu 144 s12_2 s12_2r y z ∧ Ag mu y z 139 s12_1.toNatClampNeg) ?_ ?_
                        · refine rl_if (fun c8 => ?_) (fun c8 => ?_)
                          · have dc8 := tl_eq i0 tn_2 c8
                            refine rl_dr (cx_U ts12_2) (rx_c (a := 138) (k := 1) (b := 140) ts12_2 (Or.inr (Or.inl rfl)) rfl (by decide)) (fun gb70 => ?_)
                            refine rl_chk (chkl (cx_U ts12_2) gb70) (fun k9 => ?_)
                            refine rl_rd (wq_use wF_s12_2 is12_1 (s5_1.toInt) (s12_1.toInt - (a1 + s5_1.toInt * 16)) (by omega) (by omega) (by omega) (by omega) (by (try dsimp only) <;> omega)) (fun x71 => ?_)
                            refine rl_dr (cx_U ts12_2) (rx_c (a := 138) (k := 2) (b := 141) ts12_2 (Or.inr (Or.inl rfl)) rfl (by decide)) (fun gb72 => ?_)
                            refine rl_chk (chkl (cx_U ts12_2) gb72) (fun k10 => ?_)
                            refine rl_rd (wq_use wS_s12_2 is12_1 (s5_1.toInt) (s12_1.toInt - (a1 + s5_1.toInt * 16)) (by omega) (by omega) (by omega) (by omega) (by (try dsimp only) <;> omega)) (fun x73 => ?_)
                            refine rl_ltA (fun x74 => ?_)
                            refine rl_ltA (fun x75 => ?_)
                            refine rl_ltA (fun x76 => ?_)
                            refine rl_dr (cx_U ts12_2) (rx_c (a := 138) (k := 0) (b := 139) ts12_2 (Or.inr (Or.inl rfl)) rfl (by decide)) (fun gb77 => ?_)
                            refine rl_chk (chkl (cx_U ts12_2) gb77) (fun k11 => ?_)
                            refine rl_w (κ := 144) (cx_U ts12_2) (by decide) (fun M78 M78r uM78 AM78 nM78 => ?_)
                            have tM78 := cx_up ts12_2 uM78
                            have wF_M78 := wq_up uM78 wF_s12_2
                            have wS_M78 := wq_up uM78 wS_s12_2
                            have wG_M78 := wq_up uM78 wG_s12_2
                            have wK_M78 := wg_up uM78 vK_s12_2
                            exact rl_some ⟨uM78, (ag_up (up_0 mu (κ := 144) _ _) AM78)⟩
                          · have dc8 := tl_ne i0 tn_2 c8
                            exfalso
                            omega
                        · rintro y23 y23r ⟨uy23, aw0_y23'⟩
                          have uy23 : Up mu 144 s12_2 s12_2r y23 y23r := uy23
                          have ty23 := cx_up ts12_2 uy23
                          have wF_y23 := wq_up uy23 wF_s12_2
                          have wS_y23 := wq_up uy23 wS_s12_2
                          have wG_y23 := wq_up uy23 wG_s12_2
                          have wK_y23 := wg_up uy23 vK_s12_2
                          have aw0_y23 : Ag mu y23 y23r 139 s12_1.toNatClampNeg := aw0_y23'
                          exact rl_some ⟨uy23, (ag_up (up_0 mu (κ := 144) _ _) aw0_y23)⟩
                      · have dc7 := tl_nle tn_2 i0 c7
                        exfalso
                        omega
                    · rintro y20 y20r ⟨uy20, aw0_y20'⟩
                      have uy20 : Up mu 144 s12_2 s12_2r y20 y20r := uy20
                      have ty20 := cx_up ts12_2 uy20
                      have wF_y20 := wq_up uy20 wF_s12_2
                      have wS_y20 := wq_up uy20 wS_s12_2
                      have wG_y20 := wq_up uy20 wG_s12_2
                      have wK_y20 := wg_up uy20 vK_s12_2
                      have aw0_y20 : Ag mu y20 y20r 139 s12_1.toNatClampNeg := aw0_y20'
                      refine rl_ltI (av_add is12_1 tn_1 (by omega) (by omega)) (fun x21 ix21 => ?_)
                      exact rl_inl ⟨rfl, (ti_bd ix21 (by omega) (by omega)), (up_tr us12_2 uy20), (wg_ext wK_y20 is12_1 (ag_up (up_0 mu (κ := 144) _ _) aw0_y20) (by (try dsimp only) <;> omega) (by have q : _ = _ := ix21; (try dsimp only) <;> omega))⟩
                · exact ⟨rfl, (ti_bd ix10 (by omega) (by omega)), (up_0 mu (κ := 144) _ _), (wg_0 (by have q : _ = _ := ix10; (try dsimp only) <;> omega))⟩
                · rintro ⟨y11_1, y11_2⟩ ⟨y11_1r, y11_2r⟩ ⟨ey11_1, ly11_1, uy11_2, vK_y11_2⟩
                  obtain rfl : y11_1 = y11_1r := ey11_1
                  have ly11_1 : x10.toInt ≤ y11_1.toInt ∧ y11_1.toInt ≤ (a1 + s5_1.toInt * 16 + a3) := ly11_1
                  have iy11_1 : TI y11_1 y11_1.toInt := rfl
                  have uy11_2 : Up mu 144 s5_2 s5_2r y11_2 y11_2r := uy11_2
                  have ty11_2 := cx_up ts5_2 uy11_2
                  have wF_y11_2 := wq_up uy11_2 wF_s5_2
                  have wS_y11_2 := wq_up uy11_2 wS_s5_2
                  have wG_y11_2 := wq_up uy11_2 vG_s5_2
                  have vK_y11_2 : WG mu y11_2 y11_2r 139 (0) (a3) (fun j => a1 + s5_1.toInt * 16 + j) := vK_y11_2
                  refine rl_ltI (av_add is5_1 tn_1 (by omega) (by omega)) (fun x14 ix14 => ?_)
                  exact rl_inl ⟨rfl, (ti_bd ix14 (by omega) (by omega)), (up_tr us5_2 uy11_2), (by exact wq_ext wG_y11_2 vK_y11_2 (Int.le_refl _) (fun j h1 h2 => by (try dsimp only) <;> omega) (by have q2 : _ = _ := ix14; (try dsimp only) <;> omega))⟩
            · exact ⟨rfl, (ti_bd tn_0 (by omega) (by omega)), (up_0 mu (κ := 144) _ _), (wq_0 (by have q : _ = _ := tn_0; (try dsimp only) <;> omega))⟩
            · rintro ⟨y4_1, y4_2⟩ ⟨y4_1r, y4_2r⟩ ⟨ey4_1, ly4_1, uy4_2, vG_y4_2⟩
              obtain rfl : y4_1 = y4_1r := ey4_1
              have ly4_1 : 0 ≤ y4_1.toInt ∧ y4_1.toInt ≤ p3.toInt := ly4_1
              have iy4_1 : TI y4_1 y4_1.toInt := rfl
              have uy4_2 : Up mu 144 M N y4_2 y4_2r := uy4_2
              have ty4_2 := cx_up t uy4_2
              have wF_y4_2 := wq_up uy4_2 hF
              have wS_y4_2 := wq_up uy4_2 hS
              have vG_y4_2 : WQ mu y4_2 y4_2r 139 (a3) (a3) (fun r x => a1 + r * 16 + x) := vG_y4_2
              exact rl_some ⟨uy4_2, vG_y4_2⟩
  · rcases h3 with rfl | rfl
    · have hF := hF (by decide)
      have h9 := h9 (by decide)
      have h11 := h11 (by decide)
      have h13 := h13 (by decide)
      refine rl_bnd (Q := fun (y z : Option Nat) => (y = some 140 ∧ z = some (mu 140))) ?_ ?_
      · refine rl_if (fun c1 => ?_) (fun c1 => ?_)
        · have dc1 := tl_eq i0 tn_1 c1
          exfalso
          omega
        · refine rl_bnd (Q := fun (y z : Option Nat) => (y = some 140 ∧ z = some (mu 140))) ?_ ?_
          · refine rl_if (fun c2 => ?_) (fun c2 => ?_)
            · have dc2 := tl_eq i0 tn_4 c2
              exfalso
              omega
            · exact rl_some (rx_c (a := 138) (k := 1) (b := 140) t (Or.inr (Or.inl rfl)) rfl (by decide))
          · rintro y90 y90r oy90
            exact rl_some oy90
      · rintro y1 y1r oy1
        refine rl_bnd (Q := fun (y z : Int32) => y = z) ?_ ?_
        · refine rl_if (fun c3 => ?_) (fun c3 => ?_)
          · have dc3 := tl_eq i0 tn_4 c3
            exfalso
            omega
          · refine rl_rd h9 (fun x87 => ?_)
            exact rl_some rfl
        · rintro y2 y2r ey2
          obtain rfl : y2 = y2r := ey2
          refine rl_bnd (Q := fun (y z : Int32) => y = z) ?_ ?_
          · refine rl_if (fun c4 => ?_) (fun c4 => ?_)
            · have dc4 := tl_eq i0 tn_4 c4
              exfalso
              omega
            · refine rl_rd h11 (fun x84 => ?_)
              exact rl_some rfl
          · rintro y3 y3r ey3
            obtain rfl : y3 = y3r := ey3
            have kp3 : p3.toInt = _ := i3
            refine rl_bnd (Q := fun (y z : Int32 × DD) => y.1 = z.1 ∧ (0 ≤ y.1.toInt ∧ y.1.toInt ≤ p3.toInt) ∧ Up mu 144 M N y.2 z.2 ∧ WQ mu y.2 z.2 139 (a3) (a3) (fun r x => a1 + r * 8 + x)) (rl_itr (fun (y z : Int32 × DD) => y.1 = z.1 ∧ (0 ≤ y.1.toInt ∧ y.1.toInt ≤ p3.toInt) ∧ Up mu 144 M N y.2 z.2 ∧ WQ mu y.2 z.2 139 (y.1.toInt) (a3) (fun r x => a1 + r * 8 + x)) _ ?_ _ _ _ ?_) ?_
            · rintro ⟨s5_1, s5_2⟩ ⟨s5_1r, s5_2r⟩ ⟨es5_1, ls5_1, us5_2, vG_s5_2⟩
              obtain rfl : s5_1 = s5_1r := es5_1
              have ls5_1 : 0 ≤ s5_1.toInt ∧ s5_1.toInt ≤ p3.toInt := ls5_1
              have is5_1 : TI s5_1 s5_1.toInt := rfl
              have us5_2 : Up mu 144 M N s5_2 s5_2r := us5_2
              have ts5_2 := cx_up t us5_2
              have wF_s5_2 := wq_up us5_2 hF
              have wP138_9_s5_2 := ag_up us5_2 h9
              have wP138_11_s5_2 := ag_up us5_2 h11
              have wP138_13_s5_2 := ag_up us5_2 h13
              have vG_s5_2 : WQ mu s5_2 s5_2r 139 (s5_1.toInt) (a3) (fun r x => a1 + r * 8 + x) := vG_s5_2
              refine rl_if (fun c5 => ?_) (fun c5 => ?_)
              · have dc5 := tl_le i3 is5_1 c5
                exact rl_inr ⟨rfl, (ti_bd is5_1 (by omega) (by omega)), us5_2, (wq_sub vG_s5_2 (by omega))⟩
              · have dc5 := tl_nle i3 is5_1 c5
                refine rl_ltI (av_mul is5_1 i2 (by omega) (by omega)) (fun x9 ix9 => ?_)
                refine rl_ltI (av_add i1 ix9 (by omega) (by omega)) (fun x10 ix10 => ?_)
                have k0x10 : x10.toInt = _ := ix10
                refine rl_bnd (Q := fun (y z : Int32 × DD) => y.1 = z.1 ∧ (x10.toInt ≤ y.1.toInt ∧ y.1.toInt ≤ (a1 + s5_1.toInt * 8 + a3)) ∧ Up mu 144 s5_2 s5_2r y.2 z.2 ∧ WG mu y.2 z.2 139 (0) (a3) (fun j => a1 + s5_1.toInt * 8 + j)) (rl_itr (fun (y z : Int32 × DD) => y.1 = z.1 ∧ (x10.toInt ≤ y.1.toInt ∧ y.1.toInt ≤ (a1 + s5_1.toInt * 8 + a3)) ∧ Up mu 144 s5_2 s5_2r y.2 z.2 ∧ WG mu y.2 z.2 139 (0) (y.1.toInt - (a1 + s5_1.toInt * 8)) (fun j => a1 + s5_1.toInt * 8 + j)) _ ?_ _ _ _ ?_) ?_
                · rintro ⟨s12_1, s12_2⟩ ⟨s12_1r, s12_2r⟩ ⟨es12_1, ls12_1, us12_2, vK_s12_2⟩
                  obtain rfl : s12_1 = s12_1r := es12_1
                  have ls12_1 : x10.toInt ≤ s12_1.toInt ∧ s12_1.toInt ≤ (a1 + s5_1.toInt * 8 + a3) := ls12_1
                  have is12_1 : TI s12_1 s12_1.toInt := rfl
                  have us12_2 : Up mu 144 s5_2 s5_2r s12_2 s12_2r := us12_2
                  have ts12_2 := cx_up ts5_2 us12_2
                  have wF_s12_2 := wq_up us12_2 wF_s5_2
                  have wP138_9_s12_2 := ag_up us12_2 wP138_9_s5_2
                  have wP138_11_s12_2 := ag_up us12_2 wP138_11_s5_2
                  have wP138_13_s12_2 := ag_up us12_2 wP138_13_s5_2
                  have wG_s12_2 := wq_up us12_2 vG_s5_2
                  have vK_s12_2 : WG mu s12_2 s12_2r 139 (0) (s12_1.toInt - (a1 + s5_1.toInt * 8)) (fun j => a1 + s5_1.toInt * 8 + j) := vK_s12_2
                  refine rl_ltI (av_mul is5_1 i2 (by omega) (by omega)) (fun x16 ix16 => ?_)
                  refine rl_ltI (av_add i1 ix16 (by omega) (by omega)) (fun x17 ix17 => ?_)
                  refine rl_ltI (av_add ix17 i3 (by omega) (by omega)) (fun x18 ix18 => ?_)
                  refine rl_if (fun c6 => ?_) (fun c6 => ?_)
                  · have dc6 := tl_le ix18 is12_1 c6
                    exact rl_inr ⟨rfl, (ti_bd is12_1 (by omega) (by omega)), us12_2, (wg_sub vK_s12_2 (by omega) (by omega))⟩
                  · have dc6 := tl_nle ix18 is12_1 c6
                    refine rl_bnd (Q := fun (y z : DD) => Up mu 144 s12_2 s12_2r y z ∧ Ag mu y z 139 s12_1.toNatClampNeg) ?_ ?_
                    · refine rl_if (fun c7 => ?_) (fun c7 => ?_)
                      · have dc7 := tl_le tn_2 i0 c7
                        refine rl_bnd (Q := fun (y z : DD) => Up mu 144 s12_2 s12_2r y z ∧ Ag mu y z 139 s12_1.toNatClampNeg) ?_ ?_
                        · refine rl_if (fun c8 => ?_) (fun c8 => ?_)
                          · have dc8 := tl_eq i0 tn_2 c8
                            exfalso
                            omega
                          · refine rl_bnd (Q := fun (y z : Int32 × DD) => y.1 = z.1 ∧ Up mu 144 s12_2 s12_2r y.2 z.2 ∧ Ag mu y.2 z.2 139 s12_1.toNatClampNeg) ?_ ?_
                            · refine rl_if (fun c9 => ?_) (fun c9 => ?_)
                              · have dc9 := tl_eq i0 tn_5 c9
                                exfalso
                                omega
                              · refine rl_rd wP138_13_s12_2 (fun x27 => ?_)
                                refine rl_bnd (Q := fun (y z : Int32) => y = z) ?_ ?_
                                · refine rl_if (fun c10 => ?_) (fun c10 => ?_)
                                  · have dc10 := tl_le (rfl : TI x27 x27.toInt) tn_0 c10
                                    refine rl_dr (cx_U ts12_2) oy1 (fun gb34 => ?_)
                                    refine rl_chk (chkl (cx_U ts12_2) gb34) (fun k11 => ?_)
                                    refine rl_rd (wq_use wF_s12_2 is12_1 (s5_1.toInt) (s12_1.toInt - (a1 + s5_1.toInt * 8)) (by omega) (by omega) (by omega) (by omega) (by (try dsimp only) <;> omega)) (fun x35 => ?_)
                                    refine rl_ltA (fun x36 => ?_)
                                    exact rl_some rfl
                                  · have dc10 := tl_nle (rfl : TI x27 x27.toInt) tn_0 c10
                                    refine rl_dr (cx_U ts12_2) oy1 (fun gb37 => ?_)
                                    refine rl_chk (chkl (cx_U ts12_2) gb37) (fun k12 => ?_)
                                    refine rl_rd (wq_use wF_s12_2 is12_1 (s5_1.toInt) (s12_1.toInt - (a1 + s5_1.toInt * 8)) (by omega) (by omega) (by omega) (by omega) (by (try dsimp only) <;> omega)) (fun x38 => ?_)
                                    refine rl_ltA (fun x39 => ?_)
                                    refine rl_rd wP138_13_s12_2 (fun x40 => ?_)
                                    refine rl_ltA (fun x41 => ?_)
                                    refine rl_ltA (fun x42 => ?_)
                                    refine rl_ltA (fun x43 => ?_)
                                    refine rl_rd wP138_13_s12_2 (fun x44 => ?_)
                                    refine rl_ltA (fun x45 => ?_)
                                    exact rl_some rfl
                                · rintro y28 y28r ey28
                                  obtain rfl : y28 = y28r := ey28
                                  refine rl_ltA (fun x29 => ?_)
                                  refine rl_bnd (r_clip ts12_2) ?_
                                  rintro ⟨y30_1, y30_2⟩ ⟨y30_1r, y30_2r⟩ ⟨uy30_1', ey30_2⟩
                                  have uy30_1 : Up mu 144 s12_2 s12_2r y30_1 y30_1r := uy30_1'
                                  have ty30_1 := cx_up ts12_2 uy30_1
                                  have wF_y30_1 := wq_up uy30_1 wF_s12_2
                                  have wP138_9_y30_1 := ag_up uy30_1 wP138_9_s12_2
                                  have wP138_11_y30_1 := ag_up uy30_1 wP138_11_s12_2
                                  have wP138_13_y30_1 := ag_up uy30_1 wP138_13_s12_2
                                  have wG_y30_1 := wq_up uy30_1 wG_s12_2
                                  have wK_y30_1 := wg_up uy30_1 vK_s12_2
                                  obtain rfl : y30_2 = y30_2r := ey30_2
                                  refine rl_dr (cx_U ty30_1) (rx_c (a := 138) (k := 0) (b := 139) ts12_2 (Or.inr (Or.inl rfl)) rfl (by decide)) (fun gb31 => ?_)
                                  refine rl_chk (chkl (cx_U ty30_1) gb31) (fun k13 => ?_)
                                  refine rl_w (κ := 144) (cx_U ty30_1) (by decide) (fun M32 M32r uM32 AM32 nM32 => ?_)
                                  have tM32 := cx_up ty30_1 uM32
                                  have wF_M32 := wq_up uM32 wF_y30_1
                                  have wP138_9_M32 := ag_up uM32 wP138_9_y30_1
                                  have wP138_11_M32 := ag_up uM32 wP138_11_y30_1
                                  have wP138_13_M32 := ag_up uM32 wP138_13_y30_1
                                  have wG_M32 := wq_up uM32 wG_y30_1
                                  have wK_M32 := wg_up uM32 wK_y30_1
                                  exact rl_some ⟨rfl, (up_tr uy30_1 uM32), (ag_up (up_0 mu (κ := 144) _ _) AM32)⟩
                            · rintro ⟨y25_1, y25_2⟩ ⟨y25_1r, y25_2r⟩ ⟨ey25_1, uy25_2, aw0_y25_2'⟩
                              obtain rfl : y25_1 = y25_1r := ey25_1
                              have uy25_2 : Up mu 144 s12_2 s12_2r y25_2 y25_2r := uy25_2
                              have ty25_2 := cx_up ts12_2 uy25_2
                              have wF_y25_2 := wq_up uy25_2 wF_s12_2
                              have wP138_9_y25_2 := ag_up uy25_2 wP138_9_s12_2
                              have wP138_11_y25_2 := ag_up uy25_2 wP138_11_s12_2
                              have wP138_13_y25_2 := ag_up uy25_2 wP138_13_s12_2
                              have wG_y25_2 := wq_up uy25_2 wG_s12_2
                              have wK_y25_2 := wg_up uy25_2 vK_s12_2
                              have aw0_y25_2 : Ag mu y25_2 y25_2r 139 s12_1.toNatClampNeg := aw0_y25_2'
                              exact rl_some ⟨uy25_2, (ag_up (up_0 mu (κ := 144) _ _) aw0_y25_2)⟩
                        · rintro y23 y23r ⟨uy23, aw0_y23'⟩
                          have uy23 : Up mu 144 s12_2 s12_2r y23 y23r := uy23
                          have ty23 := cx_up ts12_2 uy23
                          have wF_y23 := wq_up uy23 wF_s12_2
                          have wP138_9_y23 := ag_up uy23 wP138_9_s12_2
                          have wP138_11_y23 := ag_up uy23 wP138_11_s12_2
                          have wP138_13_y23 := ag_up uy23 wP138_13_s12_2
                          have wG_y23 := wq_up uy23 wG_s12_2
                          have wK_y23 := wg_up uy23 vK_s12_2
                          have aw0_y23 : Ag mu y23 y23r 139 s12_1.toNatClampNeg := aw0_y23'
                          exact rl_some ⟨uy23, (ag_up (up_0 mu (κ := 144) _ _) aw0_y23)⟩
                      · have dc7 := tl_nle tn_2 i0 c7
                        exfalso
                        omega
                    · rintro y20 y20r ⟨uy20, aw0_y20'⟩
                      have uy20 : Up mu 144 s12_2 s12_2r y20 y20r := uy20
                      have ty20 := cx_up ts12_2 uy20
                      have wF_y20 := wq_up uy20 wF_s12_2
                      have wP138_9_y20 := ag_up uy20 wP138_9_s12_2
                      have wP138_11_y20 := ag_up uy20 wP138_11_s12_2
                      have wP138_13_y20 := ag_up uy20 wP138_13_s12_2
                      have wG_y20 := wq_up uy20 wG_s12_2
                      have wK_y20 := wg_up uy20 vK_s12_2
                      have aw0_y20 : Ag mu y20 y20r 139 s12_1.toNatClampNeg := aw0_y20'
                      refine rl_ltI (av_add is12_1 tn_1 (by omega) (by omega)) (fun x21 ix21 => ?_)
                      exact rl_inl ⟨rfl, (ti_bd ix21 (by omega) (by omega)), (up_tr us12_2 uy20), (wg_ext wK_y20 is12_1 (ag_up (up_0 mu (κ := 144) _ _) aw0_y20) (by (try dsimp only) <;> omega) (by have q : _ = _ := ix21; (try dsimp only) <;> omega))⟩
                · exact ⟨rfl, (ti_bd ix10 (by omega) (by omega)), (up_0 mu (κ := 144) _ _), (wg_0 (by have q : _ = _ := ix10; (try dsimp only) <;> omega))⟩
                · rintro ⟨y11_1, y11_2⟩ ⟨y11_1r, y11_2r⟩ ⟨ey11_1, ly11_1, uy11_2, vK_y11_2⟩
                  obtain rfl : y11_1 = y11_1r := ey11_1
                  have ly11_1 : x10.toInt ≤ y11_1.toInt ∧ y11_1.toInt ≤ (a1 + s5_1.toInt * 8 + a3) := ly11_1
                  have iy11_1 : TI y11_1 y11_1.toInt := rfl
                  have uy11_2 : Up mu 144 s5_2 s5_2r y11_2 y11_2r := uy11_2
                  have ty11_2 := cx_up ts5_2 uy11_2
                  have wF_y11_2 := wq_up uy11_2 wF_s5_2
                  have wP138_9_y11_2 := ag_up uy11_2 wP138_9_s5_2
                  have wP138_11_y11_2 := ag_up uy11_2 wP138_11_s5_2
                  have wP138_13_y11_2 := ag_up uy11_2 wP138_13_s5_2
                  have wG_y11_2 := wq_up uy11_2 vG_s5_2
                  have vK_y11_2 : WG mu y11_2 y11_2r 139 (0) (a3) (fun j => a1 + s5_1.toInt * 8 + j) := vK_y11_2
                  refine rl_ltI (av_add is5_1 tn_1 (by omega) (by omega)) (fun x14 ix14 => ?_)
                  exact rl_inl ⟨rfl, (ti_bd ix14 (by omega) (by omega)), (up_tr us5_2 uy11_2), (by exact wq_ext wG_y11_2 vK_y11_2 (Int.le_refl _) (fun j h1 h2 => by (try dsimp only) <;> omega) (by have q2 : _ = _ := ix14; (try dsimp only) <;> omega))⟩
            · exact ⟨rfl, (ti_bd tn_0 (by omega) (by omega)), (up_0 mu (κ := 144) _ _), (wq_0 (by have q : _ = _ := tn_0; (try dsimp only) <;> omega))⟩
            · rintro ⟨y4_1, y4_2⟩ ⟨y4_1r, y4_2r⟩ ⟨ey4_1, ly4_1, uy4_2, vG_y4_2⟩
              obtain rfl : y4_1 = y4_1r := ey4_1
              have ly4_1 : 0 ≤ y4_1.toInt ∧ y4_1.toInt ≤ p3.toInt := ly4_1
              have iy4_1 : TI y4_1 y4_1.toInt := rfl
              have uy4_2 : Up mu 144 M N y4_2 y4_2r := uy4_2
              have ty4_2 := cx_up t uy4_2
              have wF_y4_2 := wq_up uy4_2 hF
              have wP138_9_y4_2 := ag_up uy4_2 h9
              have wP138_11_y4_2 := ag_up uy4_2 h11
              have wP138_13_y4_2 := ag_up uy4_2 h13
              have vG_y4_2 : WQ mu y4_2 y4_2r 139 (a3) (a3) (fun r x => a1 + r * 8 + x) := vG_y4_2
              exact rl_some ⟨uy4_2, vG_y4_2⟩
    · have hF := hF (by decide)
      have h9 := h9 (by decide)
      have h11 := h11 (by decide)
      have h13 := h13 (by decide)
      refine rl_bnd (Q := fun (y z : Option Nat) => (y = some 140 ∧ z = some (mu 140))) ?_ ?_
      · refine rl_if (fun c1 => ?_) (fun c1 => ?_)
        · have dc1 := tl_eq i0 tn_1 c1
          exfalso
          omega
        · refine rl_bnd (Q := fun (y z : Option Nat) => (y = some 140 ∧ z = some (mu 140))) ?_ ?_
          · refine rl_if (fun c2 => ?_) (fun c2 => ?_)
            · have dc2 := tl_eq i0 tn_4 c2
              exfalso
              omega
            · exact rl_some (rx_c (a := 138) (k := 1) (b := 140) t (Or.inr (Or.inl rfl)) rfl (by decide))
          · rintro y90 y90r oy90
            exact rl_some oy90
      · rintro y1 y1r oy1
        refine rl_bnd (Q := fun (y z : Int32) => y = z) ?_ ?_
        · refine rl_if (fun c3 => ?_) (fun c3 => ?_)
          · have dc3 := tl_eq i0 tn_4 c3
            exfalso
            omega
          · refine rl_rd h9 (fun x87 => ?_)
            exact rl_some rfl
        · rintro y2 y2r ey2
          obtain rfl : y2 = y2r := ey2
          refine rl_bnd (Q := fun (y z : Int32) => y = z) ?_ ?_
          · refine rl_if (fun c4 => ?_) (fun c4 => ?_)
            · have dc4 := tl_eq i0 tn_4 c4
              exfalso
              omega
            · refine rl_rd h11 (fun x84 => ?_)
              exact rl_some rfl
          · rintro y3 y3r ey3
            obtain rfl : y3 = y3r := ey3
            have kp3 : p3.toInt = _ := i3
            refine rl_bnd (Q := fun (y z : Int32 × DD) => y.1 = z.1 ∧ (0 ≤ y.1.toInt ∧ y.1.toInt ≤ p3.toInt) ∧ Up mu 144 M N y.2 z.2 ∧ WQ mu y.2 z.2 139 (a3) (a3) (fun r x => a1 + r * 16 + x)) (rl_itr (fun (y z : Int32 × DD) => y.1 = z.1 ∧ (0 ≤ y.1.toInt ∧ y.1.toInt ≤ p3.toInt) ∧ Up mu 144 M N y.2 z.2 ∧ WQ mu y.2 z.2 139 (y.1.toInt) (a3) (fun r x => a1 + r * 16 + x)) _ ?_ _ _ _ ?_) ?_
            · rintro ⟨s5_1, s5_2⟩ ⟨s5_1r, s5_2r⟩ ⟨es5_1, ls5_1, us5_2, vG_s5_2⟩
              obtain rfl : s5_1 = s5_1r := es5_1
              have ls5_1 : 0 ≤ s5_1.toInt ∧ s5_1.toInt ≤ p3.toInt := ls5_1
              have is5_1 : TI s5_1 s5_1.toInt := rfl
              have us5_2 : Up mu 144 M N s5_2 s5_2r := us5_2
              have ts5_2 := cx_up t us5_2
              have wF_s5_2 := wq_up us5_2 hF
              have wP138_9_s5_2 := ag_up us5_2 h9
              have wP138_11_s5_2 := ag_up us5_2 h11
              have wP138_13_s5_2 := ag_up us5_2 h13
              have vG_s5_2 : WQ mu s5_2 s5_2r 139 (s5_1.toInt) (a3) (fun r x => a1 + r * 16 + x) := vG_s5_2
              refine rl_if (fun c5 => ?_) (fun c5 => ?_)
              · have dc5 := tl_le i3 is5_1 c5
                exact rl_inr ⟨rfl, (ti_bd is5_1 (by omega) (by omega)), us5_2, (wq_sub vG_s5_2 (by omega))⟩
              · have dc5 := tl_nle i3 is5_1 c5
                refine rl_ltI (av_mul is5_1 i2 (by omega) (by omega)) (fun x9 ix9 => ?_)
                refine rl_ltI (av_add i1 ix9 (by omega) (by omega)) (fun x10 ix10 => ?_)
                have k0x10 : x10.toInt = _ := ix10
                refine rl_bnd (Q := fun (y z : Int32 × DD) => y.1 = z.1 ∧ (x10.toInt ≤ y.1.toInt ∧ y.1.toInt ≤ (a1 + s5_1.toInt * 16 + a3)) ∧ Up mu 144 s5_2 s5_2r y.2 z.2 ∧ WG mu y.2 z.2 139 (0) (a3) (fun j => a1 + s5_1.toInt * 16 + j)) (rl_itr (fun (y z : Int32 × DD) => y.1 = z.1 ∧ (x10.toInt ≤ y.1.toInt ∧ y.1.toInt ≤ (a1 + s5_1.toInt * 16 + a3)) ∧ Up mu 144 s5_2 s5_2r y.2 z.2 ∧ WG mu y.2 z.2 139 (0) (y.1.toInt - (a1 + s5_1.toInt * 16)) (fun j => a1 + s5_1.toInt * 16 + j)) _ ?_ _ _ _ ?_) ?_
                · rintro ⟨s12_1, s12_2⟩ ⟨s12_1r, s12_2r⟩ ⟨es12_1, ls12_1, us12_2, vK_s12_2⟩
                  obtain rfl : s12_1 = s12_1r := es12_1
                  have ls12_1 : x10.toInt ≤ s12_1.toInt ∧ s12_1.toInt ≤ (a1 + s5_1.toInt * 16 + a3) := ls12_1
                  have is12_1 : TI s12_1 s12_1.toInt := rfl
                  have us12_2 : Up mu 144 s5_2 s5_2r s12_2 s12_2r := us12_2
                  have ts12_2 := cx_up ts5_2 us12_2
                  have wF_s12_2 := wq_up us12_2 wF_s5_2
                  have wP138_9_s12_2 := ag_up us12_2 wP138_9_s5_2
                  have wP138_11_s12_2 := ag_up us12_2 wP138_11_s5_2
                  have wP138_13_s12_2 := ag_up us12_2 wP138_13_s5_2
                  have wG_s12_2 := wq_up us12_2 vG_s5_2
                  have vK_s12_2 : WG mu s12_2 s12_2r 139 (0) (s12_1.toInt - (a1 + s5_1.toInt * 16)) (fun j => a1 + s5_1.toInt * 16 + j) := vK_s12_2
                  refine rl_ltI (av_mul is5_1 i2 (by omega) (by omega)) (fun x16 ix16 => ?_)
                  refine rl_ltI (av_add i1 ix16 (by omega) (by omega)) (fun x17 ix17 => ?_)
                  refine rl_ltI (av_add ix17 i3 (by omega) (by omega)) (fun x18 ix18 => ?_)
                  refine rl_if (fun c6 => ?_) (fun c6 => ?_)
                  · have dc6 := tl_le ix18 is12_1 c6
                    exact rl_inr ⟨rfl, (ti_bd is12_1 (by omega) (by omega)), us12_2, (wg_sub vK_s12_2 (by omega) (by omega))⟩
                  · have dc6 := tl_nle ix18 is12_1 c6
                    refine rl_bnd (Q := fun (y z : DD) => Up mu 144 s12_2 s12_2r y z ∧ Ag mu y z 139 s12_1.toNatClampNeg) ?_ ?_
                    · refine rl_if (fun c7 => ?_) (fun c7 => ?_)
                      · have dc7 := tl_le tn_2 i0 c7
                        refine rl_bnd (Q := fun (y z : DD) => Up mu 144 s12_2 s12_2r y z ∧ Ag mu y z 139 s12_1.toNatClampNeg) ?_ ?_
                        · refine rl_if (fun c8 => ?_) (fun c8 => ?_)
                          · have dc8 := tl_eq i0 tn_2 c8
                            exfalso
                            omega
                          · refine rl_bnd (Q := fun (y z : Int32 × DD) => y.1 = z.1 ∧ Up mu 144 s12_2 s12_2r y.2 z.2 ∧ Ag mu y.2 z.2 139 s12_1.toNatClampNeg) ?_ ?_
                            · refine rl_if (fun c9 => ?_) (fun c9 => ?_)
                              · have dc9 := tl_eq i0 tn_5 c9
                                exfalso
                                omega
                              · refine rl_rd wP138_13_s12_2 (fun x27 => ?_)
                                refine rl_bnd (Q := fun (y z : Int32) => y = z) ?_ ?_
                                · refine rl_if (fun c10 => ?_) (fun c10 => ?_)
                                  · have dc10 := tl_le (rfl : TI x27 x27.toInt) tn_0 c10
                                    refine rl_dr (cx_U ts12_2) oy1 (fun gb34 => ?_)
                                    refine rl_chk (chkl (cx_U ts12_2) gb34) (fun k11 => ?_)
                                    refine rl_rd (wq_use wF_s12_2 is12_1 (s5_1.toInt) (s12_1.toInt - (a1 + s5_1.toInt * 16)) (by omega) (by omega) (by omega) (by omega) (by (try dsimp only) <;> omega)) (fun x35 => ?_)
                                    refine rl_ltA (fun x36 => ?_)
                                    exact rl_some rfl
                                  · have dc10 := tl_nle (rfl : TI x27 x27.toInt) tn_0 c10
                                    refine rl_dr (cx_U ts12_2) oy1 (fun gb37 => ?_)
                                    refine rl_chk (chkl (cx_U ts12_2) gb37) (fun k12 => ?_)
                                    refine rl_rd (wq_use wF_s12_2 is12_1 (s5_1.toInt) (s12_1.toInt - (a1 + s5_1.toInt * 16)) (by omega) (by omega) (by omega) (by omega) (by (try dsimp only) <;> omega)) (fun x38 => ?_)
                                    refine rl_ltA (fun x39 => ?_)
                                    refine rl_rd wP138_13_s12_2 (fun x40 => ?_)
                                    refine rl_ltA (fun x41 => ?_)
                                    refine rl_ltA (fun x42 => ?_)
                                    refine rl_ltA (fun x43 => ?_)
                                    refine rl_rd wP138_13_s12_2 (fun x44 => ?_)
                                    refine rl_ltA (fun x45 => ?_)
                                    exact rl_some rfl
                                · rintro y28 y28r ey28
                                  obtain rfl : y28 = y28r := ey28
                                  refine rl_ltA (fun x29 => ?_)
                                  refine rl_bnd (r_clip ts12_2) ?_
                                  rintro ⟨y30_1, y30_2⟩ ⟨y30_1r, y30_2r⟩ ⟨uy30_1', ey30_2⟩
                                  have uy30_1 : Up mu 144 s12_2 s12_2r y30_1 y30_1r := uy30_1'
                                  have ty30_1 := cx_up ts12_2 uy30_1
                                  have wF_y30_1 := wq_up uy30_1 wF_s12_2
                                  have wP138_9_y30_1 := ag_up uy30_1 wP138_9_s12_2
                                  have wP138_11_y30_1 := ag_up uy30_1 wP138_11_s12_2
                                  have wP138_13_y30_1 := ag_up uy30_1 wP138_13_s12_2
                                  have wG_y30_1 := wq_up uy30_1 wG_s12_2
                                  have wK_y30_1 := wg_up uy30_1 vK_s12_2
                                  obtain rfl : y30_2 = y30_2r := ey30_2
                                  refine rl_dr (cx_U ty30_1) (rx_c (a := 138) (k := 0) (b := 139) ts12_2 (Or.inr (Or.inl rfl)) rfl (by decide)) (fun gb31 => ?_)
                                  refine rl_chk (chkl (cx_U ty30_1) gb31) (fun k13 => ?_)
                                  refine rl_w (κ := 144) (cx_U ty30_1) (by decide) (fun M32 M32r uM32 AM32 nM32 => ?_)
                                  have tM32 := cx_up ty30_1 uM32
                                  have wF_M32 := wq_up uM32 wF_y30_1
                                  have wP138_9_M32 := ag_up uM32 wP138_9_y30_1
                                  have wP138_11_M32 := ag_up uM32 wP138_11_y30_1
                                  have wP138_13_M32 := ag_up uM32 wP138_13_y30_1
                                  have wG_M32 := wq_up uM32 wG_y30_1
                                  have wK_M32 := wg_up uM32 wK_y30_1
                                  exact rl_some ⟨rfl, (up_tr uy30_1 uM32), (ag_up (up_0 mu (κ := 144) _ _) AM32)⟩
                            · rintro ⟨y25_1, y25_2⟩ ⟨y25_1r, y25_2r⟩ ⟨ey25_1, uy25_2, aw0_y25_2'⟩
                              obtain rfl : y25_1 = y25_1r := ey25_1
                              have uy25_2 : Up mu 144 s12_2 s12_2r y25_2 y25_2r := uy25_2
                              have ty25_2 := cx_up ts12_2 uy25_2
                              have wF_y25_2 := wq_up uy25_2 wF_s12_2
                              have wP138_9_y25_2 := ag_up uy25_2 wP138_9_s12_2
                              have wP138_11_y25_2 := ag_up uy25_2 wP138_11_s12_2
                              have wP138_13_y25_2 := ag_up uy25_2 wP138_13_s12_2
                              have wG_y25_2 := wq_up uy25_2 wG_s12_2
                              have wK_y25_2 := wg_up uy25_2 vK_s12_2
                              have aw0_y25_2 : Ag mu y25_2 y25_2r 139 s12_1.toNatClampNeg := aw0_y25_2'
                              exact rl_some ⟨uy25_2, (ag_up (up_0 mu (κ := 144) _ _) aw0_y25_2)⟩
                        · rintro y23 y23r ⟨uy23, aw0_y23'⟩
                          have uy23 : Up mu 144 s12_2 s12_2r y23 y23r := uy23
                          have ty23 := cx_up ts12_2 uy23
                          have wF_y23 := wq_up uy23 wF_s12_2
                          have wP138_9_y23 := ag_up uy23 wP138_9_s12_2
                          have wP138_11_y23 := ag_up uy23 wP138_11_s12_2
                          have wP138_13_y23 := ag_up uy23 wP138_13_s12_2
                          have wG_y23 := wq_up uy23 wG_s12_2
                          have wK_y23 := wg_up uy23 vK_s12_2
                          have aw0_y23 : Ag mu y23 y23r 139 s12_1.toNatClampNeg := aw0_y23'
                          exact rl_some ⟨uy23, (ag_up (up_0 mu (κ := 144) _ _) aw0_y23)⟩
                      · have dc7 := tl_nle tn_2 i0 c7
                        exfalso
                        omega
                    · rintro y20 y20r ⟨uy20, aw0_y20'⟩
                      have uy20 : Up mu 144 s12_2 s12_2r y20 y20r := uy20
                      have ty20 := cx_up ts12_2 uy20
                      have wF_y20 := wq_up uy20 wF_s12_2
                      have wP138_9_y20 := ag_up uy20 wP138_9_s12_2
                      have wP138_11_y20 := ag_up uy20 wP138_11_s12_2
                      have wP138_13_y20 := ag_up uy20 wP138_13_s12_2
                      have wG_y20 := wq_up uy20 wG_s12_2
                      have wK_y20 := wg_up uy20 vK_s12_2
                      have aw0_y20 : Ag mu y20 y20r 139 s12_1.toNatClampNeg := aw0_y20'
                      refine rl_ltI (av_add is12_1 tn_1 (by omega) (by omega)) (fun x21 ix21 => ?_)
                      exact rl_inl ⟨rfl, (ti_bd ix21 (by omega) (by omega)), (up_tr us12_2 uy20), (wg_ext wK_y20 is12_1 (ag_up (up_0 mu (κ := 144) _ _) aw0_y20) (by (try dsimp only) <;> omega) (by have q : _ = _ := ix21; (try dsimp only) <;> omega))⟩
                · exact ⟨rfl, (ti_bd ix10 (by omega) (by omega)), (up_0 mu (κ := 144) _ _), (wg_0 (by have q : _ = _ := ix10; (try dsimp only) <;> omega))⟩
                · rintro ⟨y11_1, y11_2⟩ ⟨y11_1r, y11_2r⟩ ⟨ey11_1, ly11_1, uy11_2, vK_y11_2⟩
                  obtain rfl : y11_1 = y11_1r := ey11_1
                  have ly11_1 : x10.toInt ≤ y11_1.toInt ∧ y11_1.toInt ≤ (a1 + s5_1.toInt * 16 + a3) := ly11_1
                  have iy11_1 : TI y11_1 y11_1.toInt := rfl
                  have uy11_2 : Up mu 144 s5_2 s5_2r y11_2 y11_2r := uy11_2
                  have ty11_2 := cx_up ts5_2 uy11_2
                  have wF_y11_2 := wq_up uy11_2 wF_s5_2
                  have wP138_9_y11_2 := ag_up uy11_2 wP138_9_s5_2
                  have wP138_11_y11_2 := ag_up uy11_2 wP138_11_s5_2
                  have wP138_13_y11_2 := ag_up uy11_2 wP138_13_s5_2
                  have wG_y11_2 := wq_up uy11_2 vG_s5_2
                  have vK_y11_2 : WG mu y11_2 y11_2r 139 (0) (a3) (fun j => a1 + s5_1.toInt * 16 + j) := vK_y11_2
                  refine rl_ltI (av_add is5_1 tn_1 (by omega) (by omega)) (fun x14 ix14 => ?_)
                  exact rl_inl ⟨rfl, (ti_bd ix14 (by omega) (by omega)), (up_tr us5_2 uy11_2), (by exact wq_ext wG_y11_2 vK_y11_2 (Int.le_refl _) (fun j h1 h2 => by (try dsimp only) <;> omega) (by have q2 : _ = _ := ix14; (try dsimp only) <;> omega))⟩
            · exact ⟨rfl, (ti_bd tn_0 (by omega) (by omega)), (up_0 mu (κ := 144) _ _), (wq_0 (by have q : _ = _ := tn_0; (try dsimp only) <;> omega))⟩
            · rintro ⟨y4_1, y4_2⟩ ⟨y4_1r, y4_2r⟩ ⟨ey4_1, ly4_1, uy4_2, vG_y4_2⟩
              obtain rfl : y4_1 = y4_1r := ey4_1
              have ly4_1 : 0 ≤ y4_1.toInt ∧ y4_1.toInt ≤ p3.toInt := ly4_1
              have iy4_1 : TI y4_1 y4_1.toInt := rfl
              have uy4_2 : Up mu 144 M N y4_2 y4_2r := uy4_2
              have ty4_2 := cx_up t uy4_2
              have wF_y4_2 := wq_up uy4_2 hF
              have wP138_9_y4_2 := ag_up uy4_2 h9
              have wP138_11_y4_2 := ag_up uy4_2 h11
              have wP138_13_y4_2 := ag_up uy4_2 h13
              have vG_y4_2 : WQ mu y4_2 y4_2r 139 (a3) (a3) (fun r x => a1 + r * 16 + x) := vG_y4_2
              exact rl_some ⟨uy4_2, vG_y4_2⟩
  · rcases h3 with rfl | rfl
    · have hS := hS (by decide)
      have h10 := h10 (by decide)
      have h12 := h12 (by decide)
      have h13 := h13 (by decide)
      refine rl_bnd (Q := fun (y z : Option Nat) => (y = some 141 ∧ z = some (mu 141))) ?_ ?_
      · refine rl_if (fun c1 => ?_) (fun c1 => ?_)
        · have dc1 := tl_eq i0 tn_1 c1
          exfalso
          omega
        · refine rl_bnd (Q := fun (y z : Option Nat) => (y = some 141 ∧ z = some (mu 141))) ?_ ?_
          · refine rl_if (fun c2 => ?_) (fun c2 => ?_)
            · have dc2 := tl_eq i0 tn_4 c2
              exact rl_some (rx_c (a := 138) (k := 2) (b := 141) t (Or.inr (Or.inl rfl)) rfl (by decide))
            · have dc2 := tl_ne i0 tn_4 c2
              exfalso
              omega
          · rintro y90 y90r oy90
            exact rl_some oy90
      · rintro y1 y1r oy1
        refine rl_bnd (Q := fun (y z : Int32) => y = z) ?_ ?_
        · refine rl_if (fun c3 => ?_) (fun c3 => ?_)
          · have dc3 := tl_eq i0 tn_4 c3
            refine rl_rd h10 (fun x88 => ?_)
            exact rl_some rfl
          · have dc3 := tl_ne i0 tn_4 c3
            exfalso
            omega
        · rintro y2 y2r ey2
          obtain rfl : y2 = y2r := ey2
          refine rl_bnd (Q := fun (y z : Int32) => y = z) ?_ ?_
          · refine rl_if (fun c4 => ?_) (fun c4 => ?_)
            · have dc4 := tl_eq i0 tn_4 c4
              refine rl_rd h12 (fun x85 => ?_)
              exact rl_some rfl
            · have dc4 := tl_ne i0 tn_4 c4
              exfalso
              omega
          · rintro y3 y3r ey3
            obtain rfl : y3 = y3r := ey3
            have kp3 : p3.toInt = _ := i3
            refine rl_bnd (Q := fun (y z : Int32 × DD) => y.1 = z.1 ∧ (0 ≤ y.1.toInt ∧ y.1.toInt ≤ p3.toInt) ∧ Up mu 144 M N y.2 z.2 ∧ WQ mu y.2 z.2 139 (a3) (a3) (fun r x => a1 + r * 8 + x)) (rl_itr (fun (y z : Int32 × DD) => y.1 = z.1 ∧ (0 ≤ y.1.toInt ∧ y.1.toInt ≤ p3.toInt) ∧ Up mu 144 M N y.2 z.2 ∧ WQ mu y.2 z.2 139 (y.1.toInt) (a3) (fun r x => a1 + r * 8 + x)) _ ?_ _ _ _ ?_) ?_
            · rintro ⟨s5_1, s5_2⟩ ⟨s5_1r, s5_2r⟩ ⟨es5_1, ls5_1, us5_2, vG_s5_2⟩
              obtain rfl : s5_1 = s5_1r := es5_1
              have ls5_1 : 0 ≤ s5_1.toInt ∧ s5_1.toInt ≤ p3.toInt := ls5_1
              have is5_1 : TI s5_1 s5_1.toInt := rfl
              have us5_2 : Up mu 144 M N s5_2 s5_2r := us5_2
              have ts5_2 := cx_up t us5_2
              have wS_s5_2 := wq_up us5_2 hS
              have wP138_10_s5_2 := ag_up us5_2 h10
              have wP138_12_s5_2 := ag_up us5_2 h12
              have wP138_13_s5_2 := ag_up us5_2 h13
              have vG_s5_2 : WQ mu s5_2 s5_2r 139 (s5_1.toInt) (a3) (fun r x => a1 + r * 8 + x) := vG_s5_2
              refine rl_if (fun c5 => ?_) (fun c5 => ?_)
              · have dc5 := tl_le i3 is5_1 c5
                exact rl_inr ⟨rfl, (ti_bd is5_1 (by omega) (by omega)), us5_2, (wq_sub vG_s5_2 (by omega))⟩
              · have dc5 := tl_nle i3 is5_1 c5
                refine rl_ltI (av_mul is5_1 i2 (by omega) (by omega)) (fun x9 ix9 => ?_)
                refine rl_ltI (av_add i1 ix9 (by omega) (by omega)) (fun x10 ix10 => ?_)
                have k0x10 : x10.toInt = _ := ix10
                refine rl_bnd (Q := fun (y z : Int32 × DD) => y.1 = z.1 ∧ (x10.toInt ≤ y.1.toInt ∧ y.1.toInt ≤ (a1 + s5_1.toInt * 8 + a3)) ∧ Up mu 144 s5_2 s5_2r y.2 z.2 ∧ WG mu y.2 z.2 139 (0) (a3) (fun j => a1 + s5_1.toInt * 8 + j)) (rl_itr (fun (y z : Int32 × DD) => y.1 = z.1 ∧ (x10.toInt ≤ y.1.toInt ∧ y.1.toInt ≤ (a1 + s5_1.toInt * 8 + a3)) ∧ Up mu 144 s5_2 s5_2r y.2 z.2 ∧ WG mu y.2 z.2 139 (0) (y.1.toInt - (a1 + s5_1.toInt * 8)) (fun j => a1 + s5_1.toInt * 8 + j)) _ ?_ _ _ _ ?_) ?_
                · rintro ⟨s12_1, s12_2⟩ ⟨s12_1r, s12_2r⟩ ⟨es12_1, ls12_1, us12_2, vK_s12_2⟩
                  obtain rfl : s12_1 = s12_1r := es12_1
                  have ls12_1 : x10.toInt ≤ s12_1.toInt ∧ s12_1.toInt ≤ (a1 + s5_1.toInt * 8 + a3) := ls12_1
                  have is12_1 : TI s12_1 s12_1.toInt := rfl
                  have us12_2 : Up mu 144 s5_2 s5_2r s12_2 s12_2r := us12_2
                  have ts12_2 := cx_up ts5_2 us12_2
                  have wS_s12_2 := wq_up us12_2 wS_s5_2
                  have wP138_10_s12_2 := ag_up us12_2 wP138_10_s5_2
                  have wP138_12_s12_2 := ag_up us12_2 wP138_12_s5_2
                  have wP138_13_s12_2 := ag_up us12_2 wP138_13_s5_2
                  have wG_s12_2 := wq_up us12_2 vG_s5_2
                  have vK_s12_2 : WG mu s12_2 s12_2r 139 (0) (s12_1.toInt - (a1 + s5_1.toInt * 8)) (fun j => a1 + s5_1.toInt * 8 + j) := vK_s12_2
                  refine rl_ltI (av_mul is5_1 i2 (by omega) (by omega)) (fun x16 ix16 => ?_)
                  refine rl_ltI (av_add i1 ix16 (by omega) (by omega)) (fun x17 ix17 => ?_)
                  refine rl_ltI (av_add ix17 i3 (by omega) (by omega)) (fun x18 ix18 => ?_)
                  refine rl_if (fun c6 => ?_) (fun c6 => ?_)
                  · have dc6 := tl_le ix18 is12_1 c6
                    exact rl_inr ⟨rfl, (ti_bd is12_1 (by omega) (by omega)), us12_2, (wg_sub vK_s12_2 (by omega) (by omega))⟩
                  · have dc6 := tl_nle ix18 is12_1 c6
                    refine rl_bnd (Q := fun (y z : DD) => Up mu 144 s12_2 s12_2r y z ∧ Ag mu y z 139 s12_1.toNatClampNeg) ?_ ?_
                    · refine rl_if (fun c7 => ?_) (fun c7 => ?_)
                      · have dc7 := tl_le tn_2 i0 c7
                        refine rl_bnd (Q := fun (y z : DD) => Up mu 144 s12_2 s12_2r y z ∧ Ag mu y z 139 s12_1.toNatClampNeg) ?_ ?_
                        · refine rl_if (fun c8 => ?_) (fun c8 => ?_)
                          · have dc8 := tl_eq i0 tn_2 c8
                            exfalso
                            omega
                          · refine rl_bnd (Q := fun (y z : Int32 × DD) => y.1 = z.1 ∧ Up mu 144 s12_2 s12_2r y.2 z.2 ∧ Ag mu y.2 z.2 139 s12_1.toNatClampNeg) ?_ ?_
                            · refine rl_if (fun c9 => ?_) (fun c9 => ?_)
                              · have dc9 := tl_eq i0 tn_5 c9
                                exfalso
                                omega
                              · refine rl_rd wP138_13_s12_2 (fun x27 => ?_)
                                refine rl_bnd (Q := fun (y z : Int32) => y = z) ?_ ?_
                                · refine rl_if (fun c10 => ?_) (fun c10 => ?_)
                                  · have dc10 := tl_le (rfl : TI x27 x27.toInt) tn_0 c10
                                    refine rl_dr (cx_U ts12_2) oy1 (fun gb34 => ?_)
                                    refine rl_chk (chkl (cx_U ts12_2) gb34) (fun k11 => ?_)
                                    refine rl_rd (wq_use wS_s12_2 is12_1 (s5_1.toInt) (s12_1.toInt - (a1 + s5_1.toInt * 8)) (by omega) (by omega) (by omega) (by omega) (by (try dsimp only) <;> omega)) (fun x35 => ?_)
                                    refine rl_ltA (fun x36 => ?_)
                                    exact rl_some rfl
                                  · have dc10 := tl_nle (rfl : TI x27 x27.toInt) tn_0 c10
                                    refine rl_dr (cx_U ts12_2) oy1 (fun gb37 => ?_)
                                    refine rl_chk (chkl (cx_U ts12_2) gb37) (fun k12 => ?_)
                                    refine rl_rd (wq_use wS_s12_2 is12_1 (s5_1.toInt) (s12_1.toInt - (a1 + s5_1.toInt * 8)) (by omega) (by omega) (by omega) (by omega) (by (try dsimp only) <;> omega)) (fun x38 => ?_)
                                    refine rl_ltA (fun x39 => ?_)
                                    refine rl_rd wP138_13_s12_2 (fun x40 => ?_)
                                    refine rl_ltA (fun x41 => ?_)
                                    refine rl_ltA (fun x42 => ?_)
                                    refine rl_ltA (fun x43 => ?_)
                                    refine rl_rd wP138_13_s12_2 (fun x44 => ?_)
                                    refine rl_ltA (fun x45 => ?_)
                                    exact rl_some rfl
                                · rintro y28 y28r ey28
                                  obtain rfl : y28 = y28r := ey28
                                  refine rl_ltA (fun x29 => ?_)
                                  refine rl_bnd (r_clip ts12_2) ?_
                                  rintro ⟨y30_1, y30_2⟩ ⟨y30_1r, y30_2r⟩ ⟨uy30_1', ey30_2⟩
                                  have uy30_1 : Up mu 144 s12_2 s12_2r y30_1 y30_1r := uy30_1'
                                  have ty30_1 := cx_up ts12_2 uy30_1
                                  have wS_y30_1 := wq_up uy30_1 wS_s12_2
                                  have wP138_10_y30_1 := ag_up uy30_1 wP138_10_s12_2
                                  have wP138_12_y30_1 := ag_up uy30_1 wP138_12_s12_2
                                  have wP138_13_y30_1 := ag_up uy30_1 wP138_13_s12_2
                                  have wG_y30_1 := wq_up uy30_1 wG_s12_2
                                  have wK_y30_1 := wg_up uy30_1 vK_s12_2
                                  obtain rfl : y30_2 = y30_2r := ey30_2
                                  refine rl_dr (cx_U ty30_1) (rx_c (a := 138) (k := 0) (b := 139) ts12_2 (Or.inr (Or.inl rfl)) rfl (by decide)) (fun gb31 => ?_)
                                  refine rl_chk (chkl (cx_U ty30_1) gb31) (fun k13 => ?_)
                                  refine rl_w (κ := 144) (cx_U ty30_1) (by decide) (fun M32 M32r uM32 AM32 nM32 => ?_)
                                  have tM32 := cx_up ty30_1 uM32
                                  have wS_M32 := wq_up uM32 wS_y30_1
                                  have wP138_10_M32 := ag_up uM32 wP138_10_y30_1
                                  have wP138_12_M32 := ag_up uM32 wP138_12_y30_1
                                  have wP138_13_M32 := ag_up uM32 wP138_13_y30_1
                                  have wG_M32 := wq_up uM32 wG_y30_1
                                  have wK_M32 := wg_up uM32 wK_y30_1
                                  exact rl_some ⟨rfl, (up_tr uy30_1 uM32), (ag_up (up_0 mu (κ := 144) _ _) AM32)⟩
                            · rintro ⟨y25_1, y25_2⟩ ⟨y25_1r, y25_2r⟩ ⟨ey25_1, uy25_2, aw0_y25_2'⟩
                              obtain rfl : y25_1 = y25_1r := ey25_1
                              have uy25_2 : Up mu 144 s12_2 s12_2r y25_2 y25_2r := uy25_2
                              have ty25_2 := cx_up ts12_2 uy25_2
                              have wS_y25_2 := wq_up uy25_2 wS_s12_2
                              have wP138_10_y25_2 := ag_up uy25_2 wP138_10_s12_2
                              have wP138_12_y25_2 := ag_up uy25_2 wP138_12_s12_2
                              have wP138_13_y25_2 := ag_up uy25_2 wP138_13_s12_2
                              have wG_y25_2 := wq_up uy25_2 wG_s12_2
                              have wK_y25_2 := wg_up uy25_2 vK_s12_2
                              have aw0_y25_2 : Ag mu y25_2 y25_2r 139 s12_1.toNatClampNeg := aw0_y25_2'
                              exact rl_some ⟨uy25_2, (ag_up (up_0 mu (κ := 144) _ _) aw0_y25_2)⟩
                        · rintro y23 y23r ⟨uy23, aw0_y23'⟩
                          have uy23 : Up mu 144 s12_2 s12_2r y23 y23r := uy23
                          have ty23 := cx_up ts12_2 uy23
                          have wS_y23 := wq_up uy23 wS_s12_2
                          have wP138_10_y23 := ag_up uy23 wP138_10_s12_2
                          have wP138_12_y23 := ag_up uy23 wP138_12_s12_2
                          have wP138_13_y23 := ag_up uy23 wP138_13_s12_2
                          have wG_y23 := wq_up uy23 wG_s12_2
                          have wK_y23 := wg_up uy23 vK_s12_2
                          have aw0_y23 : Ag mu y23 y23r 139 s12_1.toNatClampNeg := aw0_y23'
                          exact rl_some ⟨uy23, (ag_up (up_0 mu (κ := 144) _ _) aw0_y23)⟩
                      · have dc7 := tl_nle tn_2 i0 c7
                        exfalso
                        omega
                    · rintro y20 y20r ⟨uy20, aw0_y20'⟩
                      have uy20 : Up mu 144 s12_2 s12_2r y20 y20r := uy20
                      have ty20 := cx_up ts12_2 uy20
                      have wS_y20 := wq_up uy20 wS_s12_2
                      have wP138_10_y20 := ag_up uy20 wP138_10_s12_2
                      have wP138_12_y20 := ag_up uy20 wP138_12_s12_2
                      have wP138_13_y20 := ag_up uy20 wP138_13_s12_2
                      have wG_y20 := wq_up uy20 wG_s12_2
                      have wK_y20 := wg_up uy20 vK_s12_2
                      have aw0_y20 : Ag mu y20 y20r 139 s12_1.toNatClampNeg := aw0_y20'
                      refine rl_ltI (av_add is12_1 tn_1 (by omega) (by omega)) (fun x21 ix21 => ?_)
                      exact rl_inl ⟨rfl, (ti_bd ix21 (by omega) (by omega)), (up_tr us12_2 uy20), (wg_ext wK_y20 is12_1 (ag_up (up_0 mu (κ := 144) _ _) aw0_y20) (by (try dsimp only) <;> omega) (by have q : _ = _ := ix21; (try dsimp only) <;> omega))⟩
                · exact ⟨rfl, (ti_bd ix10 (by omega) (by omega)), (up_0 mu (κ := 144) _ _), (wg_0 (by have q : _ = _ := ix10; (try dsimp only) <;> omega))⟩
                · rintro ⟨y11_1, y11_2⟩ ⟨y11_1r, y11_2r⟩ ⟨ey11_1, ly11_1, uy11_2, vK_y11_2⟩
                  obtain rfl : y11_1 = y11_1r := ey11_1
                  have ly11_1 : x10.toInt ≤ y11_1.toInt ∧ y11_1.toInt ≤ (a1 + s5_1.toInt * 8 + a3) := ly11_1
                  have iy11_1 : TI y11_1 y11_1.toInt := rfl
                  have uy11_2 : Up mu 144 s5_2 s5_2r y11_2 y11_2r := uy11_2
                  have ty11_2 := cx_up ts5_2 uy11_2
                  have wS_y11_2 := wq_up uy11_2 wS_s5_2
                  have wP138_10_y11_2 := ag_up uy11_2 wP138_10_s5_2
                  have wP138_12_y11_2 := ag_up uy11_2 wP138_12_s5_2
                  have wP138_13_y11_2 := ag_up uy11_2 wP138_13_s5_2
                  have wG_y11_2 := wq_up uy11_2 vG_s5_2
                  have vK_y11_2 : WG mu y11_2 y11_2r 139 (0) (a3) (fun j => a1 + s5_1.toInt * 8 + j) := vK_y11_2
                  refine rl_ltI (av_add is5_1 tn_1 (by omega) (by omega)) (fun x14 ix14 => ?_)
                  exact rl_inl ⟨rfl, (ti_bd ix14 (by omega) (by omega)), (up_tr us5_2 uy11_2), (by exact wq_ext wG_y11_2 vK_y11_2 (Int.le_refl _) (fun j h1 h2 => by (try dsimp only) <;> omega) (by have q2 : _ = _ := ix14; (try dsimp only) <;> omega))⟩
            · exact ⟨rfl, (ti_bd tn_0 (by omega) (by omega)), (up_0 mu (κ := 144) _ _), (wq_0 (by have q : _ = _ := tn_0; (try dsimp only) <;> omega))⟩
            · rintro ⟨y4_1, y4_2⟩ ⟨y4_1r, y4_2r⟩ ⟨ey4_1, ly4_1, uy4_2, vG_y4_2⟩
              obtain rfl : y4_1 = y4_1r := ey4_1
              have ly4_1 : 0 ≤ y4_1.toInt ∧ y4_1.toInt ≤ p3.toInt := ly4_1
              have iy4_1 : TI y4_1 y4_1.toInt := rfl
              have uy4_2 : Up mu 144 M N y4_2 y4_2r := uy4_2
              have ty4_2 := cx_up t uy4_2
              have wS_y4_2 := wq_up uy4_2 hS
              have wP138_10_y4_2 := ag_up uy4_2 h10
              have wP138_12_y4_2 := ag_up uy4_2 h12
              have wP138_13_y4_2 := ag_up uy4_2 h13
              have vG_y4_2 : WQ mu y4_2 y4_2r 139 (a3) (a3) (fun r x => a1 + r * 8 + x) := vG_y4_2
              exact rl_some ⟨uy4_2, vG_y4_2⟩
    · have hS := hS (by decide)
      have h10 := h10 (by decide)
      have h12 := h12 (by decide)
      have h13 := h13 (by decide)
      refine rl_bnd (Q := fun (y z : Option Nat) => (y = some 141 ∧ z = some (mu 141))) ?_ ?_
      · refine rl_if (fun c1 => ?_) (fun c1 => ?_)
        · have dc1 := tl_eq i0 tn_1 c1
          exfalso
          omega
        · refine rl_bnd (Q := fun (y z : Option Nat) => (y = some 141 ∧ z = some (mu 141))) ?_ ?_
          · refine rl_if (fun c2 => ?_) (fun c2 => ?_)
            · have dc2 := tl_eq i0 tn_4 c2
              exact rl_some (rx_c (a := 138) (k := 2) (b := 141) t (Or.inr (Or.inl rfl)) rfl (by decide))
            · have dc2 := tl_ne i0 tn_4 c2
              exfalso
              omega
          · rintro y90 y90r oy90
            exact rl_some oy90
      · rintro y1 y1r oy1
        refine rl_bnd (Q := fun (y z : Int32) => y = z) ?_ ?_
        · refine rl_if (fun c3 => ?_) (fun c3 => ?_)
          · have dc3 := tl_eq i0 tn_4 c3
            refine rl_rd h10 (fun x88 => ?_)
            exact rl_some rfl
          · have dc3 := tl_ne i0 tn_4 c3
            exfalso
            omega
        · rintro y2 y2r ey2
          obtain rfl : y2 = y2r := ey2
          refine rl_bnd (Q := fun (y z : Int32) => y = z) ?_ ?_
          · refine rl_if (fun c4 => ?_) (fun c4 => ?_)
            · have dc4 := tl_eq i0 tn_4 c4
              refine rl_rd h12 (fun x85 => ?_)
              exact rl_some rfl
            · have dc4 := tl_ne i0 tn_4 c4
              exfalso
              omega
          · rintro y3 y3r ey3
            obtain rfl : y3 = y3r := ey3
            have kp3 : p3.toInt = _ := i3
            refine rl_bnd (Q := fun (y z : Int32 × DD) => y.1 = z.1 ∧ (0 ≤ y.1.toInt ∧ y.1.toInt ≤ p3.toInt) ∧ Up mu 144 M N y.2 z.2 ∧ WQ mu y.2 z.2 139 (a3) (a3) (fun r x => a1 + r * 16 + x)) (rl_itr (fun (y z : Int32 × DD) => y.1 = z.1 ∧ (0 ≤ y.1.toInt ∧ y.1.toInt ≤ p3.toInt) ∧ Up mu 144 M N y.2 z.2 ∧ WQ mu y.2 z.2 139 (y.1.toInt) (a3) (fun r x => a1 + r * 16 + x)) _ ?_ _ _ _ ?_) ?_
            · rintro ⟨s5_1, s5_2⟩ ⟨s5_1r, s5_2r⟩ ⟨es5_1, ls5_1, us5_2, vG_s5_2⟩
              obtain rfl : s5_1 = s5_1r := es5_1
              have ls5_1 : 0 ≤ s5_1.toInt ∧ s5_1.toInt ≤ p3.toInt := ls5_1
              have is5_1 : TI s5_1 s5_1.toInt := rfl
              have us5_2 : Up mu 144 M N s5_2 s5_2r := us5_2
              have ts5_2 := cx_up t us5_2
              have wS_s5_2 := wq_up us5_2 hS
              have wP138_10_s5_2 := ag_up us5_2 h10
              have wP138_12_s5_2 := ag_up us5_2 h12
              have wP138_13_s5_2 := ag_up us5_2 h13
              have vG_s5_2 : WQ mu s5_2 s5_2r 139 (s5_1.toInt) (a3) (fun r x => a1 + r * 16 + x) := vG_s5_2
              refine rl_if (fun c5 => ?_) (fun c5 => ?_)
              · have dc5 := tl_le i3 is5_1 c5
                exact rl_inr ⟨rfl, (ti_bd is5_1 (by omega) (by omega)), us5_2, (wq_sub vG_s5_2 (by omega))⟩
              · have dc5 := tl_nle i3 is5_1 c5
                refine rl_ltI (av_mul is5_1 i2 (by omega) (by omega)) (fun x9 ix9 => ?_)
                refine rl_ltI (av_add i1 ix9 (by omega) (by omega)) (fun x10 ix10 => ?_)
                have k0x10 : x10.toInt = _ := ix10
                refine rl_bnd (Q := fun (y z : Int32 × DD) => y.1 = z.1 ∧ (x10.toInt ≤ y.1.toInt ∧ y.1.toInt ≤ (a1 + s5_1.toInt * 16 + a3)) ∧ Up mu 144 s5_2 s5_2r y.2 z.2 ∧ WG mu y.2 z.2 139 (0) (a3) (fun j => a1 + s5_1.toInt * 16 + j)) (rl_itr (fun (y z : Int32 × DD) => y.1 = z.1 ∧ (x10.toInt ≤ y.1.toInt ∧ y.1.toInt ≤ (a1 + s5_1.toInt * 16 + a3)) ∧ Up mu 144 s5_2 s5_2r y.2 z.2 ∧ WG mu y.2 z.2 139 (0) (y.1.toInt - (a1 + s5_1.toInt * 16)) (fun j => a1 + s5_1.toInt * 16 + j)) _ ?_ _ _ _ ?_) ?_
                · rintro ⟨s12_1, s12_2⟩ ⟨s12_1r, s12_2r⟩ ⟨es12_1, ls12_1, us12_2, vK_s12_2⟩
                  obtain rfl : s12_1 = s12_1r := es12_1
                  have ls12_1 : x10.toInt ≤ s12_1.toInt ∧ s12_1.toInt ≤ (a1 + s5_1.toInt * 16 + a3) := ls12_1
                  have is12_1 : TI s12_1 s12_1.toInt := rfl
                  have us12_2 : Up mu 144 s5_2 s5_2r s12_2 s12_2r := us12_2
                  have ts12_2 := cx_up ts5_2 us12_2
                  have wS_s12_2 := wq_up us12_2 wS_s5_2
                  have wP138_10_s12_2 := ag_up us12_2 wP138_10_s5_2
                  have wP138_12_s12_2 := ag_up us12_2 wP138_12_s5_2
                  have wP138_13_s12_2 := ag_up us12_2 wP138_13_s5_2
                  have wG_s12_2 := wq_up us12_2 vG_s5_2
                  have vK_s12_2 : WG mu s12_2 s12_2r 139 (0) (s12_1.toInt - (a1 + s5_1.toInt * 16)) (fun j => a1 + s5_1.toInt * 16 + j) := vK_s12_2
                  refine rl_ltI (av_mul is5_1 i2 (by omega) (by omega)) (fun x16 ix16 => ?_)
                  refine rl_ltI (av_add i1 ix16 (by omega) (by omega)) (fun x17 ix17 => ?_)
                  refine rl_ltI (av_add ix17 i3 (by omega) (by omega)) (fun x18 ix18 => ?_)
                  refine rl_if (fun c6 => ?_) (fun c6 => ?_)
                  · have dc6 := tl_le ix18 is12_1 c6
                    exact rl_inr ⟨rfl, (ti_bd is12_1 (by omega) (by omega)), us12_2, (wg_sub vK_s12_2 (by omega) (by omega))⟩
                  · have dc6 := tl_nle ix18 is12_1 c6
                    refine rl_bnd (Q := fun (y z : DD) => Up mu 144 s12_2 s12_2r y z ∧ Ag mu y z 139 s12_1.toNatClampNeg) ?_ ?_
                    · refine rl_if (fun c7 => ?_) (fun c7 => ?_)
                      · have dc7 := tl_le tn_2 i0 c7
                        refine rl_bnd (Q := fun (y z : DD) => Up mu 144 s12_2 s12_2r y z ∧ Ag mu y z 139 s12_1.toNatClampNeg) ?_ ?_
                        · refine rl_if (fun c8 => ?_) (fun c8 => ?_)
                          · have dc8 := tl_eq i0 tn_2 c8
                            exfalso
                            omega
                          · refine rl_bnd (Q := fun (y z : Int32 × DD) => y.1 = z.1 ∧ Up mu 144 s12_2 s12_2r y.2 z.2 ∧ Ag mu y.2 z.2 139 s12_1.toNatClampNeg) ?_ ?_
                            · refine rl_if (fun c9 => ?_) (fun c9 => ?_)
                              · have dc9 := tl_eq i0 tn_5 c9
                                exfalso
                                omega
                              · refine rl_rd wP138_13_s12_2 (fun x27 => ?_)
                                refine rl_bnd (Q := fun (y z : Int32) => y = z) ?_ ?_
                                · refine rl_if (fun c10 => ?_) (fun c10 => ?_)
                                  · have dc10 := tl_le (rfl : TI x27 x27.toInt) tn_0 c10
                                    refine rl_dr (cx_U ts12_2) oy1 (fun gb34 => ?_)
                                    refine rl_chk (chkl (cx_U ts12_2) gb34) (fun k11 => ?_)
                                    refine rl_rd (wq_use wS_s12_2 is12_1 (s5_1.toInt) (s12_1.toInt - (a1 + s5_1.toInt * 16)) (by omega) (by omega) (by omega) (by omega) (by (try dsimp only) <;> omega)) (fun x35 => ?_)
                                    refine rl_ltA (fun x36 => ?_)
                                    exact rl_some rfl
                                  · have dc10 := tl_nle (rfl : TI x27 x27.toInt) tn_0 c10
                                    refine rl_dr (cx_U ts12_2) oy1 (fun gb37 => ?_)
                                    refine rl_chk (chkl (cx_U ts12_2) gb37) (fun k12 => ?_)
                                    refine rl_rd (wq_use wS_s12_2 is12_1 (s5_1.toInt) (s12_1.toInt - (a1 + s5_1.toInt * 16)) (by omega) (by omega) (by omega) (by omega) (by (try dsimp only) <;> omega)) (fun x38 => ?_)
                                    refine rl_ltA (fun x39 => ?_)
                                    refine rl_rd wP138_13_s12_2 (fun x40 => ?_)
                                    refine rl_ltA (fun x41 => ?_)
                                    refine rl_ltA (fun x42 => ?_)
                                    refine rl_ltA (fun x43 => ?_)
                                    refine rl_rd wP138_13_s12_2 (fun x44 => ?_)
                                    refine rl_ltA (fun x45 => ?_)
                                    exact rl_some rfl
                                · rintro y28 y28r ey28
                                  obtain rfl : y28 = y28r := ey28
                                  refine rl_ltA (fun x29 => ?_)
                                  refine rl_bnd (r_clip ts12_2) ?_
                                  rintro ⟨y30_1, y30_2⟩ ⟨y30_1r, y30_2r⟩ ⟨uy30_1', ey30_2⟩
                                  have uy30_1 : Up mu 144 s12_2 s12_2r y30_1 y30_1r := uy30_1'
                                  have ty30_1 := cx_up ts12_2 uy30_1
                                  have wS_y30_1 := wq_up uy30_1 wS_s12_2
                                  have wP138_10_y30_1 := ag_up uy30_1 wP138_10_s12_2
                                  have wP138_12_y30_1 := ag_up uy30_1 wP138_12_s12_2
                                  have wP138_13_y30_1 := ag_up uy30_1 wP138_13_s12_2
                                  have wG_y30_1 := wq_up uy30_1 wG_s12_2
                                  have wK_y30_1 := wg_up uy30_1 vK_s12_2
                                  obtain rfl : y30_2 = y30_2r := ey30_2
                                  refine rl_dr (cx_U ty30_1) (rx_c (a := 138) (k := 0) (b := 139) ts12_2 (Or.inr (Or.inl rfl)) rfl (by decide)) (fun gb31 => ?_)
                                  refine rl_chk (chkl (cx_U ty30_1) gb31) (fun k13 => ?_)
                                  refine rl_w (κ := 144) (cx_U ty30_1) (by decide) (fun M32 M32r uM32 AM32 nM32 => ?_)
                                  have tM32 := cx_up ty30_1 uM32
                                  have wS_M32 := wq_up uM32 wS_y30_1
                                  have wP138_10_M32 := ag_up uM32 wP138_10_y30_1
                                  have wP138_12_M32 := ag_up uM32 wP138_12_y30_1
                                  have wP138_13_M32 := ag_up uM32 wP138_13_y30_1
                                  have wG_M32 := wq_up uM32 wG_y30_1
                                  have wK_M32 := wg_up uM32 wK_y30_1
                                  exact rl_some ⟨rfl, (up_tr uy30_1 uM32), (ag_up (up_0 mu (κ := 144) _ _) AM32)⟩
                            · rintro ⟨y25_1, y25_2⟩ ⟨y25_1r, y25_2r⟩ ⟨ey25_1, uy25_2, aw0_y25_2'⟩
                              obtain rfl : y25_1 = y25_1r := ey25_1
                              have uy25_2 : Up mu 144 s12_2 s12_2r y25_2 y25_2r := uy25_2
                              have ty25_2 := cx_up ts12_2 uy25_2
                              have wS_y25_2 := wq_up uy25_2 wS_s12_2
                              have wP138_10_y25_2 := ag_up uy25_2 wP138_10_s12_2
                              have wP138_12_y25_2 := ag_up uy25_2 wP138_12_s12_2
                              have wP138_13_y25_2 := ag_up uy25_2 wP138_13_s12_2
                              have wG_y25_2 := wq_up uy25_2 wG_s12_2
                              have wK_y25_2 := wg_up uy25_2 vK_s12_2
                              have aw0_y25_2 : Ag mu y25_2 y25_2r 139 s12_1.toNatClampNeg := aw0_y25_2'
                              exact rl_some ⟨uy25_2, (ag_up (up_0 mu (κ := 144) _ _) aw0_y25_2)⟩
                        · rintro y23 y23r ⟨uy23, aw0_y23'⟩
                          have uy23 : Up mu 144 s12_2 s12_2r y23 y23r := uy23
                          have ty23 := cx_up ts12_2 uy23
                          have wS_y23 := wq_up uy23 wS_s12_2
                          have wP138_10_y23 := ag_up uy23 wP138_10_s12_2
                          have wP138_12_y23 := ag_up uy23 wP138_12_s12_2
                          have wP138_13_y23 := ag_up uy23 wP138_13_s12_2
                          have wG_y23 := wq_up uy23 wG_s12_2
                          have wK_y23 := wg_up uy23 vK_s12_2
                          have aw0_y23 : Ag mu y23 y23r 139 s12_1.toNatClampNeg := aw0_y23'
                          exact rl_some ⟨uy23, (ag_up (up_0 mu (κ := 144) _ _) aw0_y23)⟩
                      · have dc7 := tl_nle tn_2 i0 c7
                        exfalso
                        omega
                    · rintro y20 y20r ⟨uy20, aw0_y20'⟩
                      have uy20 : Up mu 144 s12_2 s12_2r y20 y20r := uy20
                      have ty20 := cx_up ts12_2 uy20
                      have wS_y20 := wq_up uy20 wS_s12_2
                      have wP138_10_y20 := ag_up uy20 wP138_10_s12_2
                      have wP138_12_y20 := ag_up uy20 wP138_12_s12_2
                      have wP138_13_y20 := ag_up uy20 wP138_13_s12_2
                      have wG_y20 := wq_up uy20 wG_s12_2
                      have wK_y20 := wg_up uy20 vK_s12_2
                      have aw0_y20 : Ag mu y20 y20r 139 s12_1.toNatClampNeg := aw0_y20'
                      refine rl_ltI (av_add is12_1 tn_1 (by omega) (by omega)) (fun x21 ix21 => ?_)
                      exact rl_inl ⟨rfl, (ti_bd ix21 (by omega) (by omega)), (up_tr us12_2 uy20), (wg_ext wK_y20 is12_1 (ag_up (up_0 mu (κ := 144) _ _) aw0_y20) (by (try dsimp only) <;> omega) (by have q : _ = _ := ix21; (try dsimp only) <;> omega))⟩
                · exact ⟨rfl, (ti_bd ix10 (by omega) (by omega)), (up_0 mu (κ := 144) _ _), (wg_0 (by have q : _ = _ := ix10; (try dsimp only) <;> omega))⟩
                · rintro ⟨y11_1, y11_2⟩ ⟨y11_1r, y11_2r⟩ ⟨ey11_1, ly11_1, uy11_2, vK_y11_2⟩
                  obtain rfl : y11_1 = y11_1r := ey11_1
                  have ly11_1 : x10.toInt ≤ y11_1.toInt ∧ y11_1.toInt ≤ (a1 + s5_1.toInt * 16 + a3) := ly11_1
                  have iy11_1 : TI y11_1 y11_1.toInt := rfl
                  have uy11_2 : Up mu 144 s5_2 s5_2r y11_2 y11_2r := uy11_2
                  have ty11_2 := cx_up ts5_2 uy11_2
                  have wS_y11_2 := wq_up uy11_2 wS_s5_2
                  have wP138_10_y11_2 := ag_up uy11_2 wP138_10_s5_2
                  have wP138_12_y11_2 := ag_up uy11_2 wP138_12_s5_2
                  have wP138_13_y11_2 := ag_up uy11_2 wP138_13_s5_2
                  have wG_y11_2 := wq_up uy11_2 vG_s5_2
                  have vK_y11_2 : WG mu y11_2 y11_2r 139 (0) (a3) (fun j => a1 + s5_1.toInt * 16 + j) := vK_y11_2
                  refine rl_ltI (av_add is5_1 tn_1 (by omega) (by omega)) (fun x14 ix14 => ?_)
                  exact rl_inl ⟨rfl, (ti_bd ix14 (by omega) (by omega)), (up_tr us5_2 uy11_2), (by exact wq_ext wG_y11_2 vK_y11_2 (Int.le_refl _) (fun j h1 h2 => by (try dsimp only) <;> omega) (by have q2 : _ = _ := ix14; (try dsimp only) <;> omega))⟩
            · exact ⟨rfl, (ti_bd tn_0 (by omega) (by omega)), (up_0 mu (κ := 144) _ _), (wq_0 (by have q : _ = _ := tn_0; (try dsimp only) <;> omega))⟩
            · rintro ⟨y4_1, y4_2⟩ ⟨y4_1r, y4_2r⟩ ⟨ey4_1, ly4_1, uy4_2, vG_y4_2⟩
              obtain rfl : y4_1 = y4_1r := ey4_1
              have ly4_1 : 0 ≤ y4_1.toInt ∧ y4_1.toInt ≤ p3.toInt := ly4_1
              have iy4_1 : TI y4_1 y4_1.toInt := rfl
              have uy4_2 : Up mu 144 M N y4_2 y4_2r := uy4_2
              have ty4_2 := cx_up t uy4_2
              have wS_y4_2 := wq_up uy4_2 hS
              have wP138_10_y4_2 := ag_up uy4_2 h10
              have wP138_12_y4_2 := ag_up uy4_2 h12
              have wP138_13_y4_2 := ag_up uy4_2 h13
              have vG_y4_2 : WQ mu y4_2 y4_2r 139 (a3) (a3) (fun r x => a1 + r * 16 + x) := vG_y4_2
              exact rl_some ⟨uy4_2, vG_y4_2⟩
  · rcases h3 with rfl | rfl
    · have hF := hF (by decide)
      have hS := hS (by decide)
      have h9 := h9 (by decide)
      have h11 := h11 (by decide)
      have h10 := h10 (by decide)
      have h12 := h12 (by decide)
      have h13 := h13 (by decide)
      refine rl_bnd (Q := fun (y z : Option Nat) => (y = some 140 ∧ z = some (mu 140))) ?_ ?_
      · refine rl_if (fun c1 => ?_) (fun c1 => ?_)
        · have dc1 := tl_eq i0 tn_1 c1
          exfalso
          omega
        · refine rl_bnd (Q := fun (y z : Option Nat) => (y = some 140 ∧ z = some (mu 140))) ?_ ?_
          · refine rl_if (fun c2 => ?_) (fun c2 => ?_)
            · have dc2 := tl_eq i0 tn_4 c2
              exfalso
              omega
            · exact rl_some (rx_c (a := 138) (k := 1) (b := 140) t (Or.inr (Or.inl rfl)) rfl (by decide))
          · rintro y90 y90r oy90
            exact rl_some oy90
      · rintro y1 y1r oy1
        refine rl_bnd (Q := fun (y z : Int32) => y = z) ?_ ?_
        · refine rl_if (fun c3 => ?_) (fun c3 => ?_)
          · have dc3 := tl_eq i0 tn_4 c3
            exfalso
            omega
          · refine rl_rd h9 (fun x87 => ?_)
            exact rl_some rfl
        · rintro y2 y2r ey2
          obtain rfl : y2 = y2r := ey2
          refine rl_bnd (Q := fun (y z : Int32) => y = z) ?_ ?_
          · refine rl_if (fun c4 => ?_) (fun c4 => ?_)
            · have dc4 := tl_eq i0 tn_4 c4
              exfalso
              omega
            · refine rl_rd h11 (fun x84 => ?_)
              exact rl_some rfl
          · rintro y3 y3r ey3
            obtain rfl : y3 = y3r := ey3
            have kp3 : p3.toInt = _ := i3
            refine rl_bnd (Q := fun (y z : Int32 × DD) => y.1 = z.1 ∧ (0 ≤ y.1.toInt ∧ y.1.toInt ≤ p3.toInt) ∧ Up mu 144 M N y.2 z.2 ∧ WQ mu y.2 z.2 139 (a3) (a3) (fun r x => a1 + r * 8 + x)) (rl_itr (fun (y z : Int32 × DD) => y.1 = z.1 ∧ (0 ≤ y.1.toInt ∧ y.1.toInt ≤ p3.toInt) ∧ Up mu 144 M N y.2 z.2 ∧ WQ mu y.2 z.2 139 (y.1.toInt) (a3) (fun r x => a1 + r * 8 + x)) _ ?_ _ _ _ ?_) ?_
            · rintro ⟨s5_1, s5_2⟩ ⟨s5_1r, s5_2r⟩ ⟨es5_1, ls5_1, us5_2, vG_s5_2⟩
              obtain rfl : s5_1 = s5_1r := es5_1
              have ls5_1 : 0 ≤ s5_1.toInt ∧ s5_1.toInt ≤ p3.toInt := ls5_1
              have is5_1 : TI s5_1 s5_1.toInt := rfl
              have us5_2 : Up mu 144 M N s5_2 s5_2r := us5_2
              have ts5_2 := cx_up t us5_2
              have wF_s5_2 := wq_up us5_2 hF
              have wS_s5_2 := wq_up us5_2 hS
              have wP138_9_s5_2 := ag_up us5_2 h9
              have wP138_11_s5_2 := ag_up us5_2 h11
              have wP138_10_s5_2 := ag_up us5_2 h10
              have wP138_12_s5_2 := ag_up us5_2 h12
              have wP138_13_s5_2 := ag_up us5_2 h13
              have vG_s5_2 : WQ mu s5_2 s5_2r 139 (s5_1.toInt) (a3) (fun r x => a1 + r * 8 + x) := vG_s5_2
              refine rl_if (fun c5 => ?_) (fun c5 => ?_)
              · have dc5 := tl_le i3 is5_1 c5
                exact rl_inr ⟨rfl, (ti_bd is5_1 (by omega) (by omega)), us5_2, (wq_sub vG_s5_2 (by omega))⟩
              · have dc5 := tl_nle i3 is5_1 c5
                refine rl_ltI (av_mul is5_1 i2 (by omega) (by omega)) (fun x9 ix9 => ?_)
                refine rl_ltI (av_add i1 ix9 (by omega) (by omega)) (fun x10 ix10 => ?_)
                have k0x10 : x10.toInt = _ := ix10
                refine rl_bnd (Q := fun (y z : Int32 × DD) => y.1 = z.1 ∧ (x10.toInt ≤ y.1.toInt ∧ y.1.toInt ≤ (a1 + s5_1.toInt * 8 + a3)) ∧ Up mu 144 s5_2 s5_2r y.2 z.2 ∧ WG mu y.2 z.2 139 (0) (a3) (fun j => a1 + s5_1.toInt * 8 + j)) (rl_itr (fun (y z : Int32 × DD) => y.1 = z.1 ∧ (x10.toInt ≤ y.1.toInt ∧ y.1.toInt ≤ (a1 + s5_1.toInt * 8 + a3)) ∧ Up mu 144 s5_2 s5_2r y.2 z.2 ∧ WG mu y.2 z.2 139 (0) (y.1.toInt - (a1 + s5_1.toInt * 8)) (fun j => a1 + s5_1.toInt * 8 + j)) _ ?_ _ _ _ ?_) ?_
                · rintro ⟨s12_1, s12_2⟩ ⟨s12_1r, s12_2r⟩ ⟨es12_1, ls12_1, us12_2, vK_s12_2⟩
                  obtain rfl : s12_1 = s12_1r := es12_1
                  have ls12_1 : x10.toInt ≤ s12_1.toInt ∧ s12_1.toInt ≤ (a1 + s5_1.toInt * 8 + a3) := ls12_1
                  have is12_1 : TI s12_1 s12_1.toInt := rfl
                  have us12_2 : Up mu 144 s5_2 s5_2r s12_2 s12_2r := us12_2
                  have ts12_2 := cx_up ts5_2 us12_2
                  have wF_s12_2 := wq_up us12_2 wF_s5_2
                  have wS_s12_2 := wq_up us12_2 wS_s5_2
                  have wP138_9_s12_2 := ag_up us12_2 wP138_9_s5_2
                  have wP138_11_s12_2 := ag_up us12_2 wP138_11_s5_2
                  have wP138_10_s12_2 := ag_up us12_2 wP138_10_s5_2
                  have wP138_12_s12_2 := ag_up us12_2 wP138_12_s5_2
                  have wP138_13_s12_2 := ag_up us12_2 wP138_13_s5_2
                  have wG_s12_2 := wq_up us12_2 vG_s5_2
                  have vK_s12_2 : WG mu s12_2 s12_2r 139 (0) (s12_1.toInt - (a1 + s5_1.toInt * 8)) (fun j => a1 + s5_1.toInt * 8 + j) := vK_s12_2
                  refine rl_ltI (av_mul is5_1 i2 (by omega) (by omega)) (fun x16 ix16 => ?_)
                  refine rl_ltI (av_add i1 ix16 (by omega) (by omega)) (fun x17 ix17 => ?_)
                  refine rl_ltI (av_add ix17 i3 (by omega) (by omega)) (fun x18 ix18 => ?_)
                  refine rl_if (fun c6 => ?_) (fun c6 => ?_)
                  · have dc6 := tl_le ix18 is12_1 c6
                    exact rl_inr ⟨rfl, (ti_bd is12_1 (by omega) (by omega)), us12_2, (wg_sub vK_s12_2 (by omega) (by omega))⟩
                  · have dc6 := tl_nle ix18 is12_1 c6
                    refine rl_bnd (Q := fun (y z : DD) => Up mu 144 s12_2 s12_2r y z ∧ Ag mu y z 139 s12_1.toNatClampNeg) ?_ ?_
                    · refine rl_if (fun c7 => ?_) (fun c7 => ?_)
                      · have dc7 := tl_le tn_2 i0 c7
                        refine rl_bnd (Q := fun (y z : DD) => Up mu 144 s12_2 s12_2r y z ∧ Ag mu y z 139 s12_1.toNatClampNeg) ?_ ?_
                        · refine rl_if (fun c8 => ?_) (fun c8 => ?_)
                          · have dc8 := tl_eq i0 tn_2 c8
                            exfalso
                            omega
                          · refine rl_bnd (Q := fun (y z : Int32 × DD) => y.1 = z.1 ∧ Up mu 144 s12_2 s12_2r y.2 z.2 ∧ Ag mu y.2 z.2 139 s12_1.toNatClampNeg) ?_ ?_
                            · refine rl_if (fun c9 => ?_) (fun c9 => ?_)
                              · have dc9 := tl_eq i0 tn_5 c9
                                refine rl_dr (cx_U ts12_2) (rx_c (a := 138) (k := 1) (b := 140) ts12_2 (Or.inr (Or.inl rfl)) rfl (by decide)) (fun gb46 => ?_)
                                refine rl_chk (chkl (cx_U ts12_2) gb46) (fun k10 => ?_)
                                refine rl_rd (wq_use wF_s12_2 is12_1 (s5_1.toInt) (s12_1.toInt - (a1 + s5_1.toInt * 8)) (by omega) (by omega) (by omega) (by omega) (by (try dsimp only) <;> omega)) (fun x47 => ?_)
                                refine rl_rd wP138_9_s12_2 (fun x48 => ?_)
                                refine rl_ltA (fun x49 => ?_)
                                refine rl_dr (cx_U ts12_2) (rx_c (a := 138) (k := 2) (b := 141) ts12_2 (Or.inr (Or.inl rfl)) rfl (by decide)) (fun gb50 => ?_)
                                refine rl_chk (chkl (cx_U ts12_2) gb50) (fun k11 => ?_)
                                refine rl_rd (wq_use wS_s12_2 is12_1 (s5_1.toInt) (s12_1.toInt - (a1 + s5_1.toInt * 8)) (by omega) (by omega) (by omega) (by omega) (by (try dsimp only) <;> omega)) (fun x51 => ?_)
                                refine rl_rd wP138_10_s12_2 (fun x52 => ?_)
                                refine rl_ltA (fun x53 => ?_)
                                refine rl_ltA (fun x54 => ?_)
                                refine rl_rd wP138_13_s12_2 (fun x55 => ?_)
                                refine rl_ltA (fun x56 => ?_)
                                refine rl_ltA (fun x57 => ?_)
                                refine rl_rd wP138_13_s12_2 (fun x58 => ?_)
                                refine rl_ltA (fun x59 => ?_)
                                refine rl_ltA (fun x60 => ?_)
                                refine rl_rd wP138_11_s12_2 (fun x61 => ?_)
                                refine rl_rd wP138_12_s12_2 (fun x62 => ?_)
                                refine rl_ltA (fun x63 => ?_)
                                refine rl_ltA (fun x64 => ?_)
                                refine rl_ltA (fun x65 => ?_)
                                refine rl_ltA (fun x66 => ?_)
                                refine rl_bnd (r_clip ts12_2) ?_
                                rintro ⟨y67_1, y67_2⟩ ⟨y67_1r, y67_2r⟩ ⟨uy67_1', ey67_2⟩
                                have uy67_1 : Up mu 144 s12_2 s12_2r y67_1 y67_1r := uy67_1'
                                have ty67_1 := cx_up ts12_2 uy67_1
                                have wF_y67_1 := wq_up uy67_1 wF_s12_2
                                have wS_y67_1 := wq_up uy67_1 wS_s12_2
                                have wP138_9_y67_1 := ag_up uy67_1 wP138_9_s12_2
                                have wP138_11_y67_1 := ag_up uy67_1 wP138_11_s12_2
                                have wP138_10_y67_1 := ag_up uy67_1 wP138_10_s12_2
                                have wP138_12_y67_1 := ag_up uy67_1 wP138_12_s12_2
                                have wP138_13_y67_1 := ag_up uy67_1 wP138_13_s12_2
                                have wG_y67_1 := wq_up uy67_1 wG_s12_2
                                have wK_y67_1 := wg_up uy67_1 vK_s12_2
                                obtain rfl : y67_2 = y67_2r := ey67_2
                                refine rl_dr (cx_U ty67_1) (rx_c (a := 138) (k := 0) (b := 139) ts12_2 (Or.inr (Or.inl rfl)) rfl (by decide)) (fun gb68 => ?_)
                                refine rl_chk (chkl (cx_U ty67_1) gb68) (fun k12 => ?_)
                                refine rl_w (κ := 144) (cx_U ty67_1) (by decide) (fun M69 M69r uM69 AM69 nM69 => ?_)
                                have tM69 := cx_up ty67_1 uM69
                                have wF_M69 := wq_up uM69 wF_y67_1
                                have wS_M69 := wq_up uM69 wS_y67_1
                                have wP138_9_M69 := ag_up uM69 wP138_9_y67_1
                                have wP138_11_M69 := ag_up uM69 wP138_11_y67_1
                                have wP138_10_M69 := ag_up uM69 wP138_10_y67_1
                                have wP138_12_M69 := ag_up uM69 wP138_12_y67_1
                                have wP138_13_M69 := ag_up uM69 wP138_13_y67_1
                                have wG_M69 := wq_up uM69 wG_y67_1
                                have wK_M69 := wg_up uM69 wK_y67_1
                                exact rl_some ⟨rfl, (up_tr uy67_1 uM69), (ag_up (up_0 mu (κ := 144) _ _) AM69)⟩
                              · have dc9 := tl_ne i0 tn_5 c9
                                exfalso
                                omega
                            · rintro ⟨y25_1, y25_2⟩ ⟨y25_1r, y25_2r⟩ ⟨ey25_1, uy25_2, aw0_y25_2'⟩
                              obtain rfl : y25_1 = y25_1r := ey25_1
                              have uy25_2 : Up mu 144 s12_2 s12_2r y25_2 y25_2r := uy25_2
                              have ty25_2 := cx_up ts12_2 uy25_2
                              have wF_y25_2 := wq_up uy25_2 wF_s12_2
                              have wS_y25_2 := wq_up uy25_2 wS_s12_2
                              have wP138_9_y25_2 := ag_up uy25_2 wP138_9_s12_2
                              have wP138_11_y25_2 := ag_up uy25_2 wP138_11_s12_2
                              have wP138_10_y25_2 := ag_up uy25_2 wP138_10_s12_2
                              have wP138_12_y25_2 := ag_up uy25_2 wP138_12_s12_2
                              have wP138_13_y25_2 := ag_up uy25_2 wP138_13_s12_2
                              have wG_y25_2 := wq_up uy25_2 wG_s12_2
                              have wK_y25_2 := wg_up uy25_2 vK_s12_2
                              have aw0_y25_2 : Ag mu y25_2 y25_2r 139 s12_1.toNatClampNeg := aw0_y25_2'
                              exact rl_some ⟨uy25_2, (ag_up (up_0 mu (κ := 144) _ _) aw0_y25_2)⟩
                        · rintro y23 y23r ⟨uy23, aw0_y23'⟩
                          have uy23 : Up mu 144 s12_2 s12_2r y23 y23r := uy23
                          have ty23 := cx_up ts12_2 uy23
                          have wF_y23 := wq_up uy23 wF_s12_2
                          have wS_y23 := wq_up uy23 wS_s12_2
                          have wP138_9_y23 := ag_up uy23 wP138_9_s12_2
                          have wP138_11_y23 := ag_up uy23 wP138_11_s12_2
                          have wP138_10_y23 := ag_up uy23 wP138_10_s12_2
                          have wP138_12_y23 := ag_up uy23 wP138_12_s12_2
                          have wP138_13_y23 := ag_up uy23 wP138_13_s12_2
                          have wG_y23 := wq_up uy23 wG_s12_2
                          have wK_y23 := wg_up uy23 vK_s12_2
                          have aw0_y23 : Ag mu y23 y23r 139 s12_1.toNatClampNeg := aw0_y23'
                          exact rl_some ⟨uy23, (ag_up (up_0 mu (κ := 144) _ _) aw0_y23)⟩
                      · have dc7 := tl_nle tn_2 i0 c7
                        exfalso
                        omega
                    · rintro y20 y20r ⟨uy20, aw0_y20'⟩
                      have uy20 : Up mu 144 s12_2 s12_2r y20 y20r := uy20
                      have ty20 := cx_up ts12_2 uy20
                      have wF_y20 := wq_up uy20 wF_s12_2
                      have wS_y20 := wq_up uy20 wS_s12_2
                      have wP138_9_y20 := ag_up uy20 wP138_9_s12_2
                      have wP138_11_y20 := ag_up uy20 wP138_11_s12_2
                      have wP138_10_y20 := ag_up uy20 wP138_10_s12_2
                      have wP138_12_y20 := ag_up uy20 wP138_12_s12_2
                      have wP138_13_y20 := ag_up uy20 wP138_13_s12_2
                      have wG_y20 := wq_up uy20 wG_s12_2
                      have wK_y20 := wg_up uy20 vK_s12_2
                      have aw0_y20 : Ag mu y20 y20r 139 s12_1.toNatClampNeg := aw0_y20'
                      refine rl_ltI (av_add is12_1 tn_1 (by omega) (by omega)) (fun x21 ix21 => ?_)
                      exact rl_inl ⟨rfl, (ti_bd ix21 (by omega) (by omega)), (up_tr us12_2 uy20), (wg_ext wK_y20 is12_1 (ag_up (up_0 mu (κ := 144) _ _) aw0_y20) (by (try dsimp only) <;> omega) (by have q : _ = _ := ix21; (try dsimp only) <;> omega))⟩
                · exact ⟨rfl, (ti_bd ix10 (by omega) (by omega)), (up_0 mu (κ := 144) _ _), (wg_0 (by have q : _ = _ := ix10; (try dsimp only) <;> omega))⟩
                · rintro ⟨y11_1, y11_2⟩ ⟨y11_1r, y11_2r⟩ ⟨ey11_1, ly11_1, uy11_2, vK_y11_2⟩
                  obtain rfl : y11_1 = y11_1r := ey11_1
                  have ly11_1 : x10.toInt ≤ y11_1.toInt ∧ y11_1.toInt ≤ (a1 + s5_1.toInt * 8 + a3) := ly11_1
                  have iy11_1 : TI y11_1 y11_1.toInt := rfl
                  have uy11_2 : Up mu 144 s5_2 s5_2r y11_2 y11_2r := uy11_2
                  have ty11_2 := cx_up ts5_2 uy11_2
                  have wF_y11_2 := wq_up uy11_2 wF_s5_2
                  have wS_y11_2 := wq_up uy11_2 wS_s5_2
                  have wP138_9_y11_2 := ag_up uy11_2 wP138_9_s5_2
                  have wP138_11_y11_2 := ag_up uy11_2 wP138_11_s5_2
                  have wP138_10_y11_2 := ag_up uy11_2 wP138_10_s5_2
                  have wP138_12_y11_2 := ag_up uy11_2 wP138_12_s5_2
                  have wP138_13_y11_2 := ag_up uy11_2 wP138_13_s5_2
                  have wG_y11_2 := wq_up uy11_2 vG_s5_2
                  have vK_y11_2 : WG mu y11_2 y11_2r 139 (0) (a3) (fun j => a1 + s5_1.toInt * 8 + j) := vK_y11_2
                  refine rl_ltI (av_add is5_1 tn_1 (by omega) (by omega)) (fun x14 ix14 => ?_)
                  exact rl_inl ⟨rfl, (ti_bd ix14 (by omega) (by omega)), (up_tr us5_2 uy11_2), (by exact wq_ext wG_y11_2 vK_y11_2 (Int.le_refl _) (fun j h1 h2 => by (try dsimp only) <;> omega) (by have q2 : _ = _ := ix14; (try dsimp only) <;> omega))⟩
            · exact ⟨rfl, (ti_bd tn_0 (by omega) (by omega)), (up_0 mu (κ := 144) _ _), (wq_0 (by have q : _ = _ := tn_0; (try dsimp only) <;> omega))⟩
            · rintro ⟨y4_1, y4_2⟩ ⟨y4_1r, y4_2r⟩ ⟨ey4_1, ly4_1, uy4_2, vG_y4_2⟩
              obtain rfl : y4_1 = y4_1r := ey4_1
              have ly4_1 : 0 ≤ y4_1.toInt ∧ y4_1.toInt ≤ p3.toInt := ly4_1
              have iy4_1 : TI y4_1 y4_1.toInt := rfl
              have uy4_2 : Up mu 144 M N y4_2 y4_2r := uy4_2
              have ty4_2 := cx_up t uy4_2
              have wF_y4_2 := wq_up uy4_2 hF
              have wS_y4_2 := wq_up uy4_2 hS
              have wP138_9_y4_2 := ag_up uy4_2 h9
              have wP138_11_y4_2 := ag_up uy4_2 h11
              have wP138_10_y4_2 := ag_up uy4_2 h10
              have wP138_12_y4_2 := ag_up uy4_2 h12
              have wP138_13_y4_2 := ag_up uy4_2 h13
              have vG_y4_2 : WQ mu y4_2 y4_2r 139 (a3) (a3) (fun r x => a1 + r * 8 + x) := vG_y4_2
              exact rl_some ⟨uy4_2, vG_y4_2⟩
    · have hF := hF (by decide)
      have hS := hS (by decide)
      have h9 := h9 (by decide)
      have h11 := h11 (by decide)
      have h10 := h10 (by decide)
      have h12 := h12 (by decide)
      have h13 := h13 (by decide)
      refine rl_bnd (Q := fun (y z : Option Nat) => (y = some 140 ∧ z = some (mu 140))) ?_ ?_
      · refine rl_if (fun c1 => ?_) (fun c1 => ?_)
        · have dc1 := tl_eq i0 tn_1 c1
          exfalso
          omega
        · refine rl_bnd (Q := fun (y z : Option Nat) => (y = some 140 ∧ z = some (mu 140))) ?_ ?_
          · refine rl_if (fun c2 => ?_) (fun c2 => ?_)
            · have dc2 := tl_eq i0 tn_4 c2
              exfalso
              omega
            · exact rl_some (rx_c (a := 138) (k := 1) (b := 140) t (Or.inr (Or.inl rfl)) rfl (by decide))
          · rintro y90 y90r oy90
            exact rl_some oy90
      · rintro y1 y1r oy1
        refine rl_bnd (Q := fun (y z : Int32) => y = z) ?_ ?_
        · refine rl_if (fun c3 => ?_) (fun c3 => ?_)
          · have dc3 := tl_eq i0 tn_4 c3
            exfalso
            omega
          · refine rl_rd h9 (fun x87 => ?_)
            exact rl_some rfl
        · rintro y2 y2r ey2
          obtain rfl : y2 = y2r := ey2
          refine rl_bnd (Q := fun (y z : Int32) => y = z) ?_ ?_
          · refine rl_if (fun c4 => ?_) (fun c4 => ?_)
            · have dc4 := tl_eq i0 tn_4 c4
              exfalso
              omega
            · refine rl_rd h11 (fun x84 => ?_)
              exact rl_some rfl
          · rintro y3 y3r ey3
            obtain rfl : y3 = y3r := ey3
            have kp3 : p3.toInt = _ := i3
            refine rl_bnd (Q := fun (y z : Int32 × DD) => y.1 = z.1 ∧ (0 ≤ y.1.toInt ∧ y.1.toInt ≤ p3.toInt) ∧ Up mu 144 M N y.2 z.2 ∧ WQ mu y.2 z.2 139 (a3) (a3) (fun r x => a1 + r * 16 + x)) (rl_itr (fun (y z : Int32 × DD) => y.1 = z.1 ∧ (0 ≤ y.1.toInt ∧ y.1.toInt ≤ p3.toInt) ∧ Up mu 144 M N y.2 z.2 ∧ WQ mu y.2 z.2 139 (y.1.toInt) (a3) (fun r x => a1 + r * 16 + x)) _ ?_ _ _ _ ?_) ?_
            · rintro ⟨s5_1, s5_2⟩ ⟨s5_1r, s5_2r⟩ ⟨es5_1, ls5_1, us5_2, vG_s5_2⟩
              obtain rfl : s5_1 = s5_1r := es5_1
              have ls5_1 : 0 ≤ s5_1.toInt ∧ s5_1.toInt ≤ p3.toInt := ls5_1
              have is5_1 : TI s5_1 s5_1.toInt := rfl
              have us5_2 : Up mu 144 M N s5_2 s5_2r := us5_2
              have ts5_2 := cx_up t us5_2
              have wF_s5_2 := wq_up us5_2 hF
              have wS_s5_2 := wq_up us5_2 hS
              have wP138_9_s5_2 := ag_up us5_2 h9
              have wP138_11_s5_2 := ag_up us5_2 h11
              have wP138_10_s5_2 := ag_up us5_2 h10
              have wP138_12_s5_2 := ag_up us5_2 h12
              have wP138_13_s5_2 := ag_up us5_2 h13
              have vG_s5_2 : WQ mu s5_2 s5_2r 139 (s5_1.toInt) (a3) (fun r x => a1 + r * 16 + x) := vG_s5_2
              refine rl_if (fun c5 => ?_) (fun c5 => ?_)
              · have dc5 := tl_le i3 is5_1 c5
                exact rl_inr ⟨rfl, (ti_bd is5_1 (by omega) (by omega)), us5_2, (wq_sub vG_s5_2 (by omega))⟩
              · have dc5 := tl_nle i3 is5_1 c5
                refine rl_ltI (av_mul is5_1 i2 (by omega) (by omega)) (fun x9 ix9 => ?_)
                refine rl_ltI (av_add i1 ix9 (by omega) (by omega)) (fun x10 ix10 => ?_)
                have k0x10 : x10.toInt = _ := ix10
                refine rl_bnd (Q := fun (y z : Int32 × DD) => y.1 = z.1 ∧ (x10.toInt ≤ y.1.toInt ∧ y.1.toInt ≤ (a1 + s5_1.toInt * 16 + a3)) ∧ Up mu 144 s5_2 s5_2r y.2 z.2 ∧ WG mu y.2 z.2 139 (0) (a3) (fun j => a1 + s5_1.toInt * 16 + j)) (rl_itr (fun (y z : Int32 × DD) => y.1 = z.1 ∧ (x10.toInt ≤ y.1.toInt ∧ y.1.toInt ≤ (a1 + s5_1.toInt * 16 + a3)) ∧ Up mu 144 s5_2 s5_2r y.2 z.2 ∧ WG mu y.2 z.2 139 (0) (y.1.toInt - (a1 + s5_1.toInt * 16)) (fun j => a1 + s5_1.toInt * 16 + j)) _ ?_ _ _ _ ?_) ?_
                · rintro ⟨s12_1, s12_2⟩ ⟨s12_1r, s12_2r⟩ ⟨es12_1, ls12_1, us12_2, vK_s12_2⟩
                  obtain rfl : s12_1 = s12_1r := es12_1
                  have ls12_1 : x10.toInt ≤ s12_1.toInt ∧ s12_1.toInt ≤ (a1 + s5_1.toInt * 16 + a3) := ls12_1
                  have is12_1 : TI s12_1 s12_1.toInt := rfl
                  have us12_2 : Up mu 144 s5_2 s5_2r s12_2 s12_2r := us12_2
                  have ts12_2 := cx_up ts5_2 us12_2
                  have wF_s12_2 := wq_up us12_2 wF_s5_2
                  have wS_s12_2 := wq_up us12_2 wS_s5_2
                  have wP138_9_s12_2 := ag_up us12_2 wP138_9_s5_2
                  have wP138_11_s12_2 := ag_up us12_2 wP138_11_s5_2
                  have wP138_10_s12_2 := ag_up us12_2 wP138_10_s5_2
                  have wP138_12_s12_2 := ag_up us12_2 wP138_12_s5_2
                  have wP138_13_s12_2 := ag_up us12_2 wP138_13_s5_2
                  have wG_s12_2 := wq_up us12_2 vG_s5_2
                  have vK_s12_2 : WG mu s12_2 s12_2r 139 (0) (s12_1.toInt - (a1 + s5_1.toInt * 16)) (fun j => a1 + s5_1.toInt * 16 + j) := vK_s12_2
                  refine rl_ltI (av_mul is5_1 i2 (by omega) (by omega)) (fun x16 ix16 => ?_)
                  refine rl_ltI (av_add i1 ix16 (by omega) (by omega)) (fun x17 ix17 => ?_)
                  refine rl_ltI (av_add ix17 i3 (by omega) (by omega)) (fun x18 ix18 => ?_)
                  refine rl_if (fun c6 => ?_) (fun c6 => ?_)
                  · have dc6 := tl_le ix18 is12_1 c6
                    exact rl_inr ⟨rfl, (ti_bd is12_1 (by omega) (by omega)), us12_2, (wg_sub vK_s12_2 (by omega) (by omega))⟩
                  · have dc6 := tl_nle ix18 is12_1 c6
                    refine rl_bnd (Q := fun (y z : DD) => Up mu 144 s12_2 s12_2r y z ∧ Ag mu y z 139 s12_1.toNatClampNeg) ?_ ?_
                    · refine rl_if (fun c7 => ?_) (fun c7 => ?_)
                      · have dc7 := tl_le tn_2 i0 c7
                        refine rl_bnd (Q := fun (y z : DD) => Up mu 144 s12_2 s12_2r y z ∧ Ag mu y z 139 s12_1.toNatClampNeg) ?_ ?_
                        · refine rl_if (fun c8 => ?_) (fun c8 => ?_)
                          · have dc8 := tl_eq i0 tn_2 c8
                            exfalso
                            omega
                          · refine rl_bnd (Q := fun (y z : Int32 × DD) => y.1 = z.1 ∧ Up mu 144 s12_2 s12_2r y.2 z.2 ∧ Ag mu y.2 z.2 139 s12_1.toNatClampNeg) ?_ ?_
                            · refine rl_if (fun c9 => ?_) (fun c9 => ?_)
                              · have dc9 := tl_eq i0 tn_5 c9
                                refine rl_dr (cx_U ts12_2) (rx_c (a := 138) (k := 1) (b := 140) ts12_2 (Or.inr (Or.inl rfl)) rfl (by decide)) (fun gb46 => ?_)
                                refine rl_chk (chkl (cx_U ts12_2) gb46) (fun k10 => ?_)
                                refine rl_rd (wq_use wF_s12_2 is12_1 (s5_1.toInt) (s12_1.toInt - (a1 + s5_1.toInt * 16)) (by omega) (by omega) (by omega) (by omega) (by (try dsimp only) <;> omega)) (fun x47 => ?_)
                                refine rl_rd wP138_9_s12_2 (fun x48 => ?_)
                                refine rl_ltA (fun x49 => ?_)
                                refine rl_dr (cx_U ts12_2) (rx_c (a := 138) (k := 2) (b := 141) ts12_2 (Or.inr (Or.inl rfl)) rfl (by decide)) (fun gb50 => ?_)
                                refine rl_chk (chkl (cx_U ts12_2) gb50) (fun k11 => ?_)
                                refine rl_rd (wq_use wS_s12_2 is12_1 (s5_1.toInt) (s12_1.toInt - (a1 + s5_1.toInt * 16)) (by omega) (by omega) (by omega) (by omega) (by (try dsimp only) <;> omega)) (fun x51 => ?_)
                                refine rl_rd wP138_10_s12_2 (fun x52 => ?_)
                                refine rl_ltA (fun x53 => ?_)
                                refine rl_ltA (fun x54 => ?_)
                                refine rl_rd wP138_13_s12_2 (fun x55 => ?_)
                                refine rl_ltA (fun x56 => ?_)
                                refine rl_ltA (fun x57 => ?_)
                                refine rl_rd wP138_13_s12_2 (fun x58 => ?_)
                                refine rl_ltA (fun x59 => ?_)
                                refine rl_ltA (fun x60 => ?_)
                                refine rl_rd wP138_11_s12_2 (fun x61 => ?_)
                                refine rl_rd wP138_12_s12_2 (fun x62 => ?_)
                                refine rl_ltA (fun x63 => ?_)
                                refine rl_ltA (fun x64 => ?_)
                                refine rl_ltA (fun x65 => ?_)
                                refine rl_ltA (fun x66 => ?_)
                                refine rl_bnd (r_clip ts12_2) ?_
                                rintro ⟨y67_1, y67_2⟩ ⟨y67_1r, y67_2r⟩ ⟨uy67_1', ey67_2⟩
                                have uy67_1 : Up mu 144 s12_2 s12_2r y67_1 y67_1r := uy67_1'
                                have ty67_1 := cx_up ts12_2 uy67_1
                                have wF_y67_1 := wq_up uy67_1 wF_s12_2
                                have wS_y67_1 := wq_up uy67_1 wS_s12_2
                                have wP138_9_y67_1 := ag_up uy67_1 wP138_9_s12_2
                                have wP138_11_y67_1 := ag_up uy67_1 wP138_11_s12_2
                                have wP138_10_y67_1 := ag_up uy67_1 wP138_10_s12_2
                                have wP138_12_y67_1 := ag_up uy67_1 wP138_12_s12_2
                                have wP138_13_y67_1 := ag_up uy67_1 wP138_13_s12_2
                                have wG_y67_1 := wq_up uy67_1 wG_s12_2
                                have wK_y67_1 := wg_up uy67_1 vK_s12_2
                                obtain rfl : y67_2 = y67_2r := ey67_2
                                refine rl_dr (cx_U ty67_1) (rx_c (a := 138) (k := 0) (b := 139) ts12_2 (Or.inr (Or.inl rfl)) rfl (by decide)) (fun gb68 => ?_)
                                refine rl_chk (chkl (cx_U ty67_1) gb68) (fun k12 => ?_)
                                refine rl_w (κ := 144) (cx_U ty67_1) (by decide) (fun M69 M69r uM69 AM69 nM69 => ?_)
                                have tM69 := cx_up ty67_1 uM69
                                have wF_M69 := wq_up uM69 wF_y67_1
                                have wS_M69 := wq_up uM69 wS_y67_1
                                have wP138_9_M69 := ag_up uM69 wP138_9_y67_1
                                have wP138_11_M69 := ag_up uM69 wP138_11_y67_1
                                have wP138_10_M69 := ag_up uM69 wP138_10_y67_1
                                have wP138_12_M69 := ag_up uM69 wP138_12_y67_1
                                have wP138_13_M69 := ag_up uM69 wP138_13_y67_1
                                have wG_M69 := wq_up uM69 wG_y67_1
                                have wK_M69 := wg_up uM69 wK_y67_1
                                exact rl_some ⟨rfl, (up_tr uy67_1 uM69), (ag_up (up_0 mu (κ := 144) _ _) AM69)⟩
                              · have dc9 := tl_ne i0 tn_5 c9
                                exfalso
                                omega
                            · rintro ⟨y25_1, y25_2⟩ ⟨y25_1r, y25_2r⟩ ⟨ey25_1, uy25_2, aw0_y25_2'⟩
                              obtain rfl : y25_1 = y25_1r := ey25_1
                              have uy25_2 : Up mu 144 s12_2 s12_2r y25_2 y25_2r := uy25_2
                              have ty25_2 := cx_up ts12_2 uy25_2
                              have wF_y25_2 := wq_up uy25_2 wF_s12_2
                              have wS_y25_2 := wq_up uy25_2 wS_s12_2
                              have wP138_9_y25_2 := ag_up uy25_2 wP138_9_s12_2
                              have wP138_11_y25_2 := ag_up uy25_2 wP138_11_s12_2
                              have wP138_10_y25_2 := ag_up uy25_2 wP138_10_s12_2
                              have wP138_12_y25_2 := ag_up uy25_2 wP138_12_s12_2
                              have wP138_13_y25_2 := ag_up uy25_2 wP138_13_s12_2
                              have wG_y25_2 := wq_up uy25_2 wG_s12_2
                              have wK_y25_2 := wg_up uy25_2 vK_s12_2
                              have aw0_y25_2 : Ag mu y25_2 y25_2r 139 s12_1.toNatClampNeg := aw0_y25_2'
                              exact rl_some ⟨uy25_2, (ag_up (up_0 mu (κ := 144) _ _) aw0_y25_2)⟩
                        · rintro y23 y23r ⟨uy23, aw0_y23'⟩
                          have uy23 : Up mu 144 s12_2 s12_2r y23 y23r := uy23
                          have ty23 := cx_up ts12_2 uy23
                          have wF_y23 := wq_up uy23 wF_s12_2
                          have wS_y23 := wq_up uy23 wS_s12_2
                          have wP138_9_y23 := ag_up uy23 wP138_9_s12_2
                          have wP138_11_y23 := ag_up uy23 wP138_11_s12_2
                          have wP138_10_y23 := ag_up uy23 wP138_10_s12_2
                          have wP138_12_y23 := ag_up uy23 wP138_12_s12_2
                          have wP138_13_y23 := ag_up uy23 wP138_13_s12_2
                          have wG_y23 := wq_up uy23 wG_s12_2
                          have wK_y23 := wg_up uy23 vK_s12_2
                          have aw0_y23 : Ag mu y23 y23r 139 s12_1.toNatClampNeg := aw0_y23'
                          exact rl_some ⟨uy23, (ag_up (up_0 mu (κ := 144) _ _) aw0_y23)⟩
                      · have dc7 := tl_nle tn_2 i0 c7
                        exfalso
                        omega
                    · rintro y20 y20r ⟨uy20, aw0_y20'⟩
                      have uy20 : Up mu 144 s12_2 s12_2r y20 y20r := uy20
                      have ty20 := cx_up ts12_2 uy20
                      have wF_y20 := wq_up uy20 wF_s12_2
                      have wS_y20 := wq_up uy20 wS_s12_2
                      have wP138_9_y20 := ag_up uy20 wP138_9_s12_2
                      have wP138_11_y20 := ag_up uy20 wP138_11_s12_2
                      have wP138_10_y20 := ag_up uy20 wP138_10_s12_2
                      have wP138_12_y20 := ag_up uy20 wP138_12_s12_2
                      have wP138_13_y20 := ag_up uy20 wP138_13_s12_2
                      have wG_y20 := wq_up uy20 wG_s12_2
                      have wK_y20 := wg_up uy20 vK_s12_2
                      have aw0_y20 : Ag mu y20 y20r 139 s12_1.toNatClampNeg := aw0_y20'
                      refine rl_ltI (av_add is12_1 tn_1 (by omega) (by omega)) (fun x21 ix21 => ?_)
                      exact rl_inl ⟨rfl, (ti_bd ix21 (by omega) (by omega)), (up_tr us12_2 uy20), (wg_ext wK_y20 is12_1 (ag_up (up_0 mu (κ := 144) _ _) aw0_y20) (by (try dsimp only) <;> omega) (by have q : _ = _ := ix21; (try dsimp only) <;> omega))⟩
                · exact ⟨rfl, (ti_bd ix10 (by omega) (by omega)), (up_0 mu (κ := 144) _ _), (wg_0 (by have q : _ = _ := ix10; (try dsimp only) <;> omega))⟩
                · rintro ⟨y11_1, y11_2⟩ ⟨y11_1r, y11_2r⟩ ⟨ey11_1, ly11_1, uy11_2, vK_y11_2⟩
                  obtain rfl : y11_1 = y11_1r := ey11_1
                  have ly11_1 : x10.toInt ≤ y11_1.toInt ∧ y11_1.toInt ≤ (a1 + s5_1.toInt * 16 + a3) := ly11_1
                  have iy11_1 : TI y11_1 y11_1.toInt := rfl
                  have uy11_2 : Up mu 144 s5_2 s5_2r y11_2 y11_2r := uy11_2
                  have ty11_2 := cx_up ts5_2 uy11_2
                  have wF_y11_2 := wq_up uy11_2 wF_s5_2
                  have wS_y11_2 := wq_up uy11_2 wS_s5_2
                  have wP138_9_y11_2 := ag_up uy11_2 wP138_9_s5_2
                  have wP138_11_y11_2 := ag_up uy11_2 wP138_11_s5_2
                  have wP138_10_y11_2 := ag_up uy11_2 wP138_10_s5_2
                  have wP138_12_y11_2 := ag_up uy11_2 wP138_12_s5_2
                  have wP138_13_y11_2 := ag_up uy11_2 wP138_13_s5_2
                  have wG_y11_2 := wq_up uy11_2 vG_s5_2
                  have vK_y11_2 : WG mu y11_2 y11_2r 139 (0) (a3) (fun j => a1 + s5_1.toInt * 16 + j) := vK_y11_2
                  refine rl_ltI (av_add is5_1 tn_1 (by omega) (by omega)) (fun x14 ix14 => ?_)
                  exact rl_inl ⟨rfl, (ti_bd ix14 (by omega) (by omega)), (up_tr us5_2 uy11_2), (by exact wq_ext wG_y11_2 vK_y11_2 (Int.le_refl _) (fun j h1 h2 => by (try dsimp only) <;> omega) (by have q2 : _ = _ := ix14; (try dsimp only) <;> omega))⟩
            · exact ⟨rfl, (ti_bd tn_0 (by omega) (by omega)), (up_0 mu (κ := 144) _ _), (wq_0 (by have q : _ = _ := tn_0; (try dsimp only) <;> omega))⟩
            · rintro ⟨y4_1, y4_2⟩ ⟨y4_1r, y4_2r⟩ ⟨ey4_1, ly4_1, uy4_2, vG_y4_2⟩
              obtain rfl : y4_1 = y4_1r := ey4_1
              have ly4_1 : 0 ≤ y4_1.toInt ∧ y4_1.toInt ≤ p3.toInt := ly4_1
              have iy4_1 : TI y4_1 y4_1.toInt := rfl
              have uy4_2 : Up mu 144 M N y4_2 y4_2r := uy4_2
              have ty4_2 := cx_up t uy4_2
              have wF_y4_2 := wq_up uy4_2 hF
              have wS_y4_2 := wq_up uy4_2 hS
              have wP138_9_y4_2 := ag_up uy4_2 h9
              have wP138_11_y4_2 := ag_up uy4_2 h11
              have wP138_10_y4_2 := ag_up uy4_2 h10
              have wP138_12_y4_2 := ag_up uy4_2 h12
              have wP138_13_y4_2 := ag_up uy4_2 h13
              have vG_y4_2 : WQ mu y4_2 y4_2r 139 (a3) (a3) (fun r x => a1 + r * 16 + x) := vG_y4_2
              exact rl_some ⟨uy4_2, vG_y4_2⟩
