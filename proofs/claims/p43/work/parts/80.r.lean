/-! two runs in lockstep, printed out of the functions' trees -/
theorem r_fillWindow {mu : Nat → Nat} {G H : GG} {M N : DD} {p : Nat} {L : List Nat} (t : CX mu G H M N p L) {p0 p0r : Option Nat} {q0 : Nat} (e0 : p0 = some q0 ∧ p0r = some (mu q0)) (hq0 : q0 ∈ L) {p1 : Int32} {p2 : Int32} {p3 : Int32} {a3 : Int} (i3 : TI p3 a3) (h0 : 0 ≤ a3) (h1 : a3 ≤ 21) : LKS (FX6_fillWindow G M 138 p0 p1 p2 p3) (FX6_fillWindow H N (mu 138) p0r p1 p2 p3) (fun y z => Up mu 144 M N y z ∧ WQ mu y z 142 a3 a3 (fun r x => r * 21 + x)) := by
  unfold FX6_fillWindow
  obtain ⟨rfl, rfl⟩ := e0
  refine rl_dr (cx_U t) ⟨rfl, rfl⟩ (fun gb1 => ?_)
  refine rl_dr (cx_U t) (rx_4 t hq0) (fun gb2 => ?_)
  refine rl_chk (chkl (cx_U t) gb2) (fun k1 => ?_)
  refine rl_rd (cx_q (j := 0) (k := 1) t hq0 rfl) (fun x3 => ?_)
  refine rl_ltA (fun x4 => ?_)
  refine rl_rd (cx_q (j := 0) (k := 2) t hq0 rfl) (fun x5 => ?_)
  refine rl_ltA (fun x6 => ?_)
  have kp3 : p3.toInt = _ := i3
  refine rl_bnd (Q := fun (y z : Int32 × DD) => y.1 = z.1 ∧ (0 ≤ y.1.toInt ∧ y.1.toInt ≤ p3.toInt) ∧ Up mu 144 M N y.2 z.2 ∧ WQ mu y.2 z.2 142 (a3) (a3) (fun r x => r * 21 + x)) (rl_itr (fun (y z : Int32 × DD) => y.1 = z.1 ∧ (0 ≤ y.1.toInt ∧ y.1.toInt ≤ p3.toInt) ∧ Up mu 144 M N y.2 z.2 ∧ WQ mu y.2 z.2 142 (y.1.toInt) (a3) (fun r x => r * 21 + x)) _ ?_ _ _ _ ?_) ?_
  · rintro ⟨s8_1, s8_2⟩ ⟨s8_1r, s8_2r⟩ ⟨es8_1, ls8_1, us8_2, vW_s8_2⟩
    obtain rfl : s8_1 = s8_1r := es8_1
    have ls8_1 : 0 ≤ s8_1.toInt ∧ s8_1.toInt ≤ p3.toInt := ls8_1
    have is8_1 : TI s8_1 s8_1.toInt := rfl
    have us8_2 : Up mu 144 M N s8_2 s8_2r := us8_2
    have ts8_2 := cx_up t us8_2
    have vW_s8_2 : WQ mu s8_2 s8_2r 142 (s8_1.toInt) (a3) (fun r x => r * 21 + x) := vW_s8_2
    refine rl_if (fun c2 => ?_) (fun c2 => ?_)
    · have dc2 := tl_le i3 is8_1 c2
      exact rl_inr ⟨rfl, (ti_bd is8_1 (by omega) (by omega)), us8_2, (wq_sub vW_s8_2 (by omega))⟩
    · have dc2 := tl_nle i3 is8_1 c2
      refine rl_ltA (fun x12 => ?_)
      refine rl_bnd (Q := fun (y z : Int32) => y = z) ?_ ?_
      · refine rl_if (fun c3 => ?_) (fun c3 => ?_)
        · have dc3 := tl_le tn_0 (rfl : TI x12 x12.toInt) c3
          refine rl_bnd (Q := fun (y z : Int32) => y = z) ?_ ?_
          · refine rl_if (fun c4 => ?_) (fun c4 => ?_)
            · have dc4 := tl_lt (rfl : TI x12 x12.toInt) (rfl : TI x6 x6.toInt) c4
              exact rl_some rfl
            · have dc4 := tl_nlt (rfl : TI x12 x12.toInt) (rfl : TI x6 x6.toInt) c4
              refine rl_ltA (fun x38 => ?_)
              exact rl_some rfl
          · rintro y36 y36r ey36
            obtain rfl : y36 = y36r := ey36
            exact rl_some rfl
        · have dc3 := tl_nle tn_0 (rfl : TI x12 x12.toInt) c3
          exact rl_some rfl
      · rintro y13 y13r ey13
        obtain rfl : y13 = y13r := ey13
        refine rl_ltA (fun x14 => ?_)
        have kp3 : p3.toInt = _ := i3
        refine rl_bnd (Q := fun (y z : Int32 × DD) => y.1 = z.1 ∧ (0 ≤ y.1.toInt ∧ y.1.toInt ≤ p3.toInt) ∧ Up mu 144 s8_2 s8_2r y.2 z.2 ∧ WG mu y.2 z.2 142 (0) (a3) (fun j => s8_1.toInt * 21 + j)) (rl_itr (fun (y z : Int32 × DD) => y.1 = z.1 ∧ (0 ≤ y.1.toInt ∧ y.1.toInt ≤ p3.toInt) ∧ Up mu 144 s8_2 s8_2r y.2 z.2 ∧ WG mu y.2 z.2 142 (0) (y.1.toInt) (fun j => s8_1.toInt * 21 + j)) _ ?_ _ _ _ ?_) ?_
        · rintro ⟨s16_1, s16_2⟩ ⟨s16_1r, s16_2r⟩ ⟨es16_1, ls16_1, us16_2, vK_s16_2⟩
          obtain rfl : s16_1 = s16_1r := es16_1
          have ls16_1 : 0 ≤ s16_1.toInt ∧ s16_1.toInt ≤ p3.toInt := ls16_1
          have is16_1 : TI s16_1 s16_1.toInt := rfl
          have us16_2 : Up mu 144 s8_2 s8_2r s16_2 s16_2r := us16_2
          have ts16_2 := cx_up ts8_2 us16_2
          have wW_s16_2 := wq_up us16_2 vW_s8_2
          have vK_s16_2 : WG mu s16_2 s16_2r 142 (0) (s16_1.toInt) (fun j => s8_1.toInt * 21 + j) := vK_s16_2
          refine rl_if (fun c5 => ?_) (fun c5 => ?_)
          · have dc5 := tl_le i3 is16_1 c5
            exact rl_inr ⟨rfl, (ti_bd is16_1 (by omega) (by omega)), us16_2, (wg_sub vK_s16_2 (by omega) (by omega))⟩
          · have dc5 := tl_nle i3 is16_1 c5
            refine rl_ltA (fun x21 => ?_)
            refine rl_ltI (av_mul is8_1 tn_21 (by omega) (by omega)) (fun x22 ix22 => ?_)
            refine rl_ltI (av_add ix22 is16_1 (by omega) (by omega)) (fun x23 ix23 => ?_)
            refine rl_bnd (Q := fun (y z : Int32) => y = z) ?_ ?_
            · refine rl_if (fun c6 => ?_) (fun c6 => ?_)
              · have dc6 := tl_le tn_0 (rfl : TI x21 x21.toInt) c6
                refine rl_bnd (Q := fun (y z : Int32) => y = z) ?_ ?_
                · refine rl_if (fun c7 => ?_) (fun c7 => ?_)
                  · have dc7 := tl_lt (rfl : TI x21 x21.toInt) (rfl : TI x4 x4.toInt) c7
                    exact rl_some rfl
                  · have dc7 := tl_nlt (rfl : TI x21 x21.toInt) (rfl : TI x4 x4.toInt) c7
                    refine rl_ltA (fun x34 => ?_)
                    exact rl_some rfl
                · rintro y32 y32r ey32
                  obtain rfl : y32 = y32r := ey32
                  exact rl_some rfl
              · have dc6 := tl_nle tn_0 (rfl : TI x21 x21.toInt) c6
                exact rl_some rfl
            · rintro y24 y24r ey24
              obtain rfl : y24 = y24r := ey24
              refine rl_ltA (fun x25 => ?_)
              refine rl_dr (cx_U ts16_2) (rx_d0 t hq0) (fun gb26 => ?_)
              refine rl_chk (chkl (cx_U ts16_2) gb26) (fun k8 => ?_)
              refine rl_rd (cx_pl ts16_2 hq0 (by omega : 9 = 9 ∨ 9 = 10 ∨ 9 = 11) _) (fun x27 => ?_)
              refine rl_dr (cx_U ts16_2) (rx_c (a := 138) (k := 3) (b := 142) ts16_2 (Or.inr (Or.inl rfl)) rfl (by decide)) (fun gb28 => ?_)
              refine rl_chk (chkl (cx_U ts16_2) gb28) (fun k9 => ?_)
              refine rl_w (κ := 144) (cx_U ts16_2) (by decide) (fun M29 M29r uM29 AM29 nM29 => ?_)
              have tM29 := cx_up ts16_2 uM29
              have wW_M29 := wq_up uM29 wW_s16_2
              have wK_M29 := wg_up uM29 vK_s16_2
              refine rl_ltI (av_add is16_1 tn_1 (by omega) (by omega)) (fun x30 ix30 => ?_)
              exact rl_inl ⟨rfl, (ti_bd ix30 (by omega) (by omega)), (up_tr us16_2 uM29), (wg_ext wK_M29 ix23 (ag_up (up_0 mu (κ := 144) _ _) AM29) (by (try dsimp only) <;> omega) (by have q : _ = _ := ix30; (try dsimp only) <;> omega))⟩
        · exact ⟨rfl, (ti_bd tn_0 (by omega) (by omega)), (up_0 mu (κ := 144) _ _), (wg_0 (by have q : _ = _ := tn_0; (try dsimp only) <;> omega))⟩
        · rintro ⟨y15_1, y15_2⟩ ⟨y15_1r, y15_2r⟩ ⟨ey15_1, ly15_1, uy15_2, vK_y15_2⟩
          obtain rfl : y15_1 = y15_1r := ey15_1
          have ly15_1 : 0 ≤ y15_1.toInt ∧ y15_1.toInt ≤ p3.toInt := ly15_1
          have iy15_1 : TI y15_1 y15_1.toInt := rfl
          have uy15_2 : Up mu 144 s8_2 s8_2r y15_2 y15_2r := uy15_2
          have ty15_2 := cx_up ts8_2 uy15_2
          have wW_y15_2 := wq_up uy15_2 vW_s8_2
          have vK_y15_2 : WG mu y15_2 y15_2r 142 (0) (a3) (fun j => s8_1.toInt * 21 + j) := vK_y15_2
          refine rl_ltI (av_add is8_1 tn_1 (by omega) (by omega)) (fun x18 ix18 => ?_)
          exact rl_inl ⟨rfl, (ti_bd ix18 (by omega) (by omega)), (up_tr us8_2 uy15_2), (by exact wq_ext wW_y15_2 vK_y15_2 (Int.le_refl _) (fun j h1 h2 => by (try dsimp only) <;> omega) (by have q2 : _ = _ := ix18; (try dsimp only) <;> omega))⟩
  · exact ⟨rfl, (ti_bd tn_0 (by omega) (by omega)), (up_0 mu (κ := 144) _ _), (wq_0 (by have q : _ = _ := tn_0; (try dsimp only) <;> omega))⟩
  · rintro ⟨y7_1, y7_2⟩ ⟨y7_1r, y7_2r⟩ ⟨ey7_1, ly7_1, uy7_2, vW_y7_2⟩
    obtain rfl : y7_1 = y7_1r := ey7_1
    have ly7_1 : 0 ≤ y7_1.toInt ∧ y7_1.toInt ≤ p3.toInt := ly7_1
    have iy7_1 : TI y7_1 y7_1.toInt := rfl
    have uy7_2 : Up mu 144 M N y7_2 y7_2r := uy7_2
    have ty7_2 := cx_up t uy7_2
    have vW_y7_2 : WQ mu y7_2 y7_2r 142 (a3) (a3) (fun r x => r * 21 + x) := vW_y7_2
    exact rl_some ⟨uy7_2, vW_y7_2⟩
theorem r_tapRows {mu : Nat → Nat} {G H : GG} {M N : DD} {p : Nat} {L : List Nat} (t : CX mu G H M N p L) {p0 : Int32} {a0 : Int} (i0 : TI p0 a0) {p1 : Int32} {a1 : Int} (i1 : TI p1 a1) {p2 p2r : Option Nat} {c2 : Nat} (e2 : p2 = some c2 ∧ p2r = some (mu c2)) (hc2 : c2 = 140 ∨ c2 = 141) {p3 : Int32} {a3 : Int} (i3 : TI p3 a3) {p4 : Int32} (h0 : a0 = 4 ∨ a0 = 8 ∨ a0 = 16) (h1 : 0 ≤ a1) (h2 : a1 ≤ 3) (h3 : 0 ≤ a3) (h4 : a3 ≤ 383) (hW : WQ mu M N 142 (a0 + 5) (a0 + 5) (fun r x => r * 21 + x)) (hT : p4.toInt ≠ 0 → WG mu M N c2 0 (a0 * a0) (fun j => a3 + j / a0 * 16 + j % a0)) : LKS (FX6_tapRows G M 138 p0 p1 p2 p3 p4) (FX6_tapRows H N (mu 138) p0 p1 p2r p3 p4) (fun y z => Up mu 144 M N y z ∧ WG mu y z c2 0 (a0 * a0) (fun j => a3 + j / a0 * 16 + j % a0)) := by
  unfold FX6_tapRows
  obtain ⟨rfl, rfl⟩ := e2
  rcases h0 with rfl | rfl | rfl
  · refine rl_bnd (Q := fun (y z : Int32 × DD) => y.1 = z.1 ∧ (0 ≤ y.1.toInt ∧ y.1.toInt ≤ (4 * 4)) ∧ Up mu 144 M N y.2 z.2 ∧ WG mu y.2 z.2 c2 (0) (4 * 4) (fun j => a3 + j / 4 * 16 + j % 4)) (rl_itr (fun (y z : Int32 × DD) => y.1 = z.1 ∧ (0 ≤ y.1.toInt ∧ y.1.toInt ≤ (4 * 4)) ∧ Up mu 144 M N y.2 z.2 ∧ WG mu y.2 z.2 c2 (0) (y.1.toInt) (fun j => a3 + j / 4 * 16 + j % 4)) _ ?_ _ _ _ ?_) ?_
    · rintro ⟨s2_1, s2_2⟩ ⟨s2_1r, s2_2r⟩ ⟨es2_1, ls2_1, us2_2, vG_s2_2⟩
      obtain rfl : s2_1 = s2_1r := es2_1
      have ls2_1 : 0 ≤ s2_1.toInt ∧ s2_1.toInt ≤ (4 * 4) := ls2_1
      have is2_1 : TI s2_1 s2_1.toInt := rfl
      have us2_2 : Up mu 144 M N s2_2 s2_2r := us2_2
      have ts2_2 := cx_up t us2_2
      have wW_s2_2 := wq_up us2_2 hW
      have wT_s2_2 := fun h => wg_up us2_2 (hT h)
      have vG_s2_2 : WG mu s2_2 s2_2r c2 (0) (s2_1.toInt) (fun j => a3 + j / 4 * 16 + j % 4) := vG_s2_2
      refine rl_ltI (av_mul i0 i0 (by omega) (by omega)) (fun x5 ix5 => ?_)
      refine rl_if (fun c1 => ?_) (fun c1 => ?_)
      · have dc1 := tl_le ix5 is2_1 c1
        exact rl_inr ⟨rfl, (ti_bd is2_1 (by omega) (by omega)), us2_2, (wg_sub vG_s2_2 (by omega) (by omega))⟩
      · have dc1 := tl_nle ix5 is2_1 c1
        refine rl_chk (fun h => h) (fun k2 => ?_)
        refine rl_ltI (av_div is2_1 i0 (by omega) (by omega)) (fun x7 ix7 => ?_)
        refine rl_ltI (av_add ix7 i1 (by omega) (by omega)) (fun x8 ix8 => ?_)
        refine rl_ltI (av_mul ix8 tn_21 (by omega) (by omega)) (fun x9 ix9 => ?_)
        refine rl_chk (fun h => h) (fun k3 => ?_)
        refine rl_ltI (av_mod is2_1 i0 (by omega) (by omega)) (fun x10 ix10 => ?_)
        refine rl_ltI (av_add ix9 ix10 (by omega) (by omega)) (fun x11 ix11 => ?_)
        refine rl_dr (cx_U ts2_2) (rx_c (a := 138) (k := 3) (b := 142) t (Or.inr (Or.inl rfl)) rfl (by decide)) (fun gb12 => ?_)
        refine rl_chk (chkl (cx_U ts2_2) gb12) (fun k4 => ?_)
        refine rl_rd (wq_use wW_s2_2 ix11 (s2_1.toInt / 4 + a1) (s2_1.toInt % 4 + 0) (by omega) (by omega) (by omega) (by omega) (by (try dsimp only) <;> omega)) (fun x13 => ?_)
        refine rl_ltI (av_add ix11 tn_1 (by omega) (by omega)) (fun x14 ix14 => ?_)
        refine rl_chk (chkl (cx_U ts2_2) gb12) (fun k5 => ?_)
        refine rl_rd (wq_use wW_s2_2 ix14 (s2_1.toInt / 4 + a1) (s2_1.toInt % 4 + 1) (by omega) (by omega) (by omega) (by omega) (by (try dsimp only) <;> omega)) (fun x15 => ?_)
        refine rl_ltA (fun x16 => ?_)
        refine rl_ltA (fun x17 => ?_)
        refine rl_ltI (av_add ix11 tn_2 (by omega) (by omega)) (fun x18 ix18 => ?_)
        refine rl_chk (chkl (cx_U ts2_2) gb12) (fun k6 => ?_)
        refine rl_rd (wq_use wW_s2_2 ix18 (s2_1.toInt / 4 + a1) (s2_1.toInt % 4 + 2) (by omega) (by omega) (by omega) (by omega) (by (try dsimp only) <;> omega)) (fun x19 => ?_)
        refine rl_ltA (fun x20 => ?_)
        refine rl_ltA (fun x21 => ?_)
        refine rl_ltI (av_add ix11 tn_3 (by omega) (by omega)) (fun x22 ix22 => ?_)
        refine rl_chk (chkl (cx_U ts2_2) gb12) (fun k7 => ?_)
        refine rl_rd (wq_use wW_s2_2 ix22 (s2_1.toInt / 4 + a1) (s2_1.toInt % 4 + 3) (by omega) (by omega) (by omega) (by omega) (by (try dsimp only) <;> omega)) (fun x23 => ?_)
        refine rl_ltA (fun x24 => ?_)
        refine rl_ltA (fun x25 => ?_)
        refine rl_ltI (av_add ix11 tn_4 (by omega) (by omega)) (fun x26 ix26 => ?_)
        refine rl_chk (chkl (cx_U ts2_2) gb12) (fun k8 => ?_)
        refine rl_rd (wq_use wW_s2_2 ix26 (s2_1.toInt / 4 + a1) (s2_1.toInt % 4 + 4) (by omega) (by omega) (by omega) (by omega) (by (try dsimp only) <;> omega)) (fun x27 => ?_)
        refine rl_ltA (fun x28 => ?_)
        refine rl_ltA (fun x29 => ?_)
        refine rl_ltI (av_add ix11 tn_5 (by omega) (by omega)) (fun x30 ix30 => ?_)
        refine rl_chk (chkl (cx_U ts2_2) gb12) (fun k9 => ?_)
        refine rl_rd (wq_use wW_s2_2 ix30 (s2_1.toInt / 4 + a1) (s2_1.toInt % 4 + 5) (by omega) (by omega) (by omega) (by omega) (by (try dsimp only) <;> omega)) (fun x31 => ?_)
        refine rl_ltA (fun x32 => ?_)
        refine rl_ltA (fun x33 => ?_)
        refine rl_ltA (fun x34 => ?_)
        refine rl_bnd (Q := fun (y z : Int32) => y = z ∧ (0 ≤ y.toInt ∧ y.toInt ≤ 255)) ?_ ?_
        · refine rl_if (fun c10 => ?_) (fun c10 => ?_)
          · have dc10 := tl_le tn_0 (rfl : TI x34 x34.toInt) c10
            refine rl_bnd (Q := fun (y z : Int32) => y = z ∧ (0 ≤ y.toInt ∧ y.toInt ≤ 255)) ?_ ?_
            · refine rl_if (fun c11 => ?_) (fun c11 => ?_)
              · have dc11 := tl_le (rfl : TI x34 x34.toInt) tn_255 c11
                exact rl_some ⟨rfl, (ti_bd (rfl : TI x34 x34.toInt) (by omega) (by omega))⟩
              · have dc11 := tl_nle (rfl : TI x34 x34.toInt) tn_255 c11
                exact rl_some ⟨rfl, (ti_bd tn_255 (by omega) (by omega))⟩
            · rintro y52 y52r ⟨ey52, ly52⟩
              obtain rfl : y52 = y52r := ey52
              have ly52 : 0 ≤ y52.toInt ∧ y52.toInt ≤ 255 := ly52
              have iy52 : TI y52 y52.toInt := rfl
              exact rl_some ⟨rfl, (ti_bd iy52 (by omega) (by omega))⟩
          · have dc10 := tl_nle tn_0 (rfl : TI x34 x34.toInt) c10
            exact rl_some ⟨rfl, (ti_bd tn_0 (by omega) (by omega))⟩
        · rintro y35 y35r ⟨ey35, ly35⟩
          obtain rfl : y35 = y35r := ey35
          have ly35 : 0 ≤ y35.toInt ∧ y35.toInt ≤ 255 := ly35
          have iy35 : TI y35 y35.toInt := rfl
          refine rl_chk (fun h => h) (fun k12 => ?_)
          refine rl_ltI (av_div is2_1 i0 (by omega) (by omega)) (fun x36 ix36 => ?_)
          refine rl_ltI (av_mul ix36 tn_16 (by omega) (by omega)) (fun x37 ix37 => ?_)
          refine rl_ltI (av_add i3 ix37 (by omega) (by omega)) (fun x38 ix38 => ?_)
          refine rl_chk (fun h => h) (fun k13 => ?_)
          refine rl_ltI (av_mod is2_1 i0 (by omega) (by omega)) (fun x39 ix39 => ?_)
          refine rl_ltI (av_add ix38 ix39 (by omega) (by omega)) (fun x40 ix40 => ?_)
          refine rl_bnd (Q := fun (y z : Int32) => y = z) ?_ ?_
          · refine rl_if (fun c14 => ?_) (fun c14 => ?_)
            · have dc14 := tl_eq (rfl : TI p4 p4.toInt) tn_0 c14
              exact rl_some rfl
            · have dc14 := tl_ne (rfl : TI p4 p4.toInt) tn_0 c14
              refine rl_dr (cx_U ts2_2) ⟨rfl, rfl⟩ (fun gb46 => ?_)
              refine rl_chk (chkl (cx_U ts2_2) gb46) (fun k15 => ?_)
              refine rl_rd (wg_use (wT_s2_2 (by omega)) ix40 (s2_1.toInt) (by omega) (by omega) (by (try dsimp only) <;> omega)) (fun x47 => ?_)
              refine rl_ltA (fun x48 => ?_)
              refine rl_ltA (fun x49 => ?_)
              refine rl_ltA (fun x50 => ?_)
              exact rl_some rfl
          · rintro y41 y41r ey41
            obtain rfl : y41 = y41r := ey41
            refine rl_dr (cx_U ts2_2) ⟨rfl, rfl⟩ (fun gb42 => ?_)
            refine rl_chk (chkl (cx_U ts2_2) gb42) (fun k16 => ?_)
            refine rl_w (κ := 144) (cx_U ts2_2) (by rcases hc2 with h | h <;> omega) (fun M43 M43r uM43 AM43 nM43 => ?_)
            have tM43 := cx_up ts2_2 uM43
            have wW_M43 := wq_up uM43 wW_s2_2
            have wT_M43 := fun h => wg_up uM43 (wT_s2_2 h)
            have wG_M43 := wg_up uM43 vG_s2_2
            refine rl_ltI (av_add is2_1 tn_1 (by omega) (by omega)) (fun x44 ix44 => ?_)
            exact rl_inl ⟨rfl, (ti_bd ix44 (by omega) (by omega)), (up_tr us2_2 uM43), (wg_ext wG_M43 ix40 (ag_up (up_0 mu (κ := 144) _ _) AM43) (by (try dsimp only) <;> omega) (by have q : _ = _ := ix44; (try dsimp only) <;> omega))⟩
    · exact ⟨rfl, (ti_bd tn_0 (by omega) (by omega)), (up_0 mu (κ := 144) _ _), (wg_0 (by have q : _ = _ := tn_0; (try dsimp only) <;> omega))⟩
    · rintro ⟨y1_1, y1_2⟩ ⟨y1_1r, y1_2r⟩ ⟨ey1_1, ly1_1, uy1_2, vG_y1_2⟩
      obtain rfl : y1_1 = y1_1r := ey1_1
      have ly1_1 : 0 ≤ y1_1.toInt ∧ y1_1.toInt ≤ (4 * 4) := ly1_1
      have iy1_1 : TI y1_1 y1_1.toInt := rfl
      have uy1_2 : Up mu 144 M N y1_2 y1_2r := uy1_2
      have ty1_2 := cx_up t uy1_2
      have wW_y1_2 := wq_up uy1_2 hW
      have wT_y1_2 := fun h => wg_up uy1_2 (hT h)
      have vG_y1_2 : WG mu y1_2 y1_2r c2 (0) (4 * 4) (fun j => a3 + j / 4 * 16 + j % 4) := vG_y1_2
      exact rl_some ⟨uy1_2, vG_y1_2⟩
  · refine rl_bnd (Q := fun (y z : Int32 × DD) => y.1 = z.1 ∧ (0 ≤ y.1.toInt ∧ y.1.toInt ≤ (8 * 8)) ∧ Up mu 144 M N y.2 z.2 ∧ WG mu y.2 z.2 c2 (0) (8 * 8) (fun j => a3 + j / 8 * 16 + j % 8)) (rl_itr (fun (y z : Int32 × DD) => y.1 = z.1 ∧ (0 ≤ y.1.toInt ∧ y.1.toInt ≤ (8 * 8)) ∧ Up mu 144 M N y.2 z.2 ∧ WG mu y.2 z.2 c2 (0) (y.1.toInt) (fun j => a3 + j / 8 * 16 + j % 8)) _ ?_ _ _ _ ?_) ?_
    · rintro ⟨s2_1, s2_2⟩ ⟨s2_1r, s2_2r⟩ ⟨es2_1, ls2_1, us2_2, vG_s2_2⟩
      obtain rfl : s2_1 = s2_1r := es2_1
      have ls2_1 : 0 ≤ s2_1.toInt ∧ s2_1.toInt ≤ (8 * 8) := ls2_1
      have is2_1 : TI s2_1 s2_1.toInt := rfl
      have us2_2 : Up mu 144 M N s2_2 s2_2r := us2_2
      have ts2_2 := cx_up t us2_2
      have wW_s2_2 := wq_up us2_2 hW
      have wT_s2_2 := fun h => wg_up us2_2 (hT h)
      have vG_s2_2 : WG mu s2_2 s2_2r c2 (0) (s2_1.toInt) (fun j => a3 + j / 8 * 16 + j % 8) := vG_s2_2
      refine rl_ltI (av_mul i0 i0 (by omega) (by omega)) (fun x5 ix5 => ?_)
      refine rl_if (fun c1 => ?_) (fun c1 => ?_)
      · have dc1 := tl_le ix5 is2_1 c1
        exact rl_inr ⟨rfl, (ti_bd is2_1 (by omega) (by omega)), us2_2, (wg_sub vG_s2_2 (by omega) (by omega))⟩
      · have dc1 := tl_nle ix5 is2_1 c1
        refine rl_chk (fun h => h) (fun k2 => ?_)
        refine rl_ltI (av_div is2_1 i0 (by omega) (by omega)) (fun x7 ix7 => ?_)
        refine rl_ltI (av_add ix7 i1 (by omega) (by omega)) (fun x8 ix8 => ?_)
        refine rl_ltI (av_mul ix8 tn_21 (by omega) (by omega)) (fun x9 ix9 => ?_)
        refine rl_chk (fun h => h) (fun k3 => ?_)
        refine rl_ltI (av_mod is2_1 i0 (by omega) (by omega)) (fun x10 ix10 => ?_)
        refine rl_ltI (av_add ix9 ix10 (by omega) (by omega)) (fun x11 ix11 => ?_)
        refine rl_dr (cx_U ts2_2) (rx_c (a := 138) (k := 3) (b := 142) t (Or.inr (Or.inl rfl)) rfl (by decide)) (fun gb12 => ?_)
        refine rl_chk (chkl (cx_U ts2_2) gb12) (fun k4 => ?_)
        refine rl_rd (wq_use wW_s2_2 ix11 (s2_1.toInt / 8 + a1) (s2_1.toInt % 8 + 0) (by omega) (by omega) (by omega) (by omega) (by (try dsimp only) <;> omega)) (fun x13 => ?_)
        refine rl_ltI (av_add ix11 tn_1 (by omega) (by omega)) (fun x14 ix14 => ?_)
        refine rl_chk (chkl (cx_U ts2_2) gb12) (fun k5 => ?_)
        refine rl_rd (wq_use wW_s2_2 ix14 (s2_1.toInt / 8 + a1) (s2_1.toInt % 8 + 1) (by omega) (by omega) (by omega) (by omega) (by (try dsimp only) <;> omega)) (fun x15 => ?_)
        refine rl_ltA (fun x16 => ?_)
        refine rl_ltA (fun x17 => ?_)
        refine rl_ltI (av_add ix11 tn_2 (by omega) (by omega)) (fun x18 ix18 => ?_)
        refine rl_chk (chkl (cx_U ts2_2) gb12) (fun k6 => ?_)
        refine rl_rd (wq_use wW_s2_2 ix18 (s2_1.toInt / 8 + a1) (s2_1.toInt % 8 + 2) (by omega) (by omega) (by omega) (by omega) (by (try dsimp only) <;> omega)) (fun x19 => ?_)
        refine rl_ltA (fun x20 => ?_)
        refine rl_ltA (fun x21 => ?_)
        refine rl_ltI (av_add ix11 tn_3 (by omega) (by omega)) (fun x22 ix22 => ?_)
        refine rl_chk (chkl (cx_U ts2_2) gb12) (fun k7 => ?_)
        refine rl_rd (wq_use wW_s2_2 ix22 (s2_1.toInt / 8 + a1) (s2_1.toInt % 8 + 3) (by omega) (by omega) (by omega) (by omega) (by (try dsimp only) <;> omega)) (fun x23 => ?_)
        refine rl_ltA (fun x24 => ?_)
        refine rl_ltA (fun x25 => ?_)
        refine rl_ltI (av_add ix11 tn_4 (by omega) (by omega)) (fun x26 ix26 => ?_)
        refine rl_chk (chkl (cx_U ts2_2) gb12) (fun k8 => ?_)
        refine rl_rd (wq_use wW_s2_2 ix26 (s2_1.toInt / 8 + a1) (s2_1.toInt % 8 + 4) (by omega) (by omega) (by omega) (by omega) (by (try dsimp only) <;> omega)) (fun x27 => ?_)
        refine rl_ltA (fun x28 => ?_)
        refine rl_ltA (fun x29 => ?_)
        refine rl_ltI (av_add ix11 tn_5 (by omega) (by omega)) (fun x30 ix30 => ?_)
        refine rl_chk (chkl (cx_U ts2_2) gb12) (fun k9 => ?_)
        refine rl_rd (wq_use wW_s2_2 ix30 (s2_1.toInt / 8 + a1) (s2_1.toInt % 8 + 5) (by omega) (by omega) (by omega) (by omega) (by (try dsimp only) <;> omega)) (fun x31 => ?_)
        refine rl_ltA (fun x32 => ?_)
        refine rl_ltA (fun x33 => ?_)
        refine rl_ltA (fun x34 => ?_)
        refine rl_bnd (Q := fun (y z : Int32) => y = z ∧ (0 ≤ y.toInt ∧ y.toInt ≤ 255)) ?_ ?_
        · refine rl_if (fun c10 => ?_) (fun c10 => ?_)
          · have dc10 := tl_le tn_0 (rfl : TI x34 x34.toInt) c10
            refine rl_bnd (Q := fun (y z : Int32) => y = z ∧ (0 ≤ y.toInt ∧ y.toInt ≤ 255)) ?_ ?_
            · refine rl_if (fun c11 => ?_) (fun c11 => ?_)
              · have dc11 := tl_le (rfl : TI x34 x34.toInt) tn_255 c11
                exact rl_some ⟨rfl, (ti_bd (rfl : TI x34 x34.toInt) (by omega) (by omega))⟩
              · have dc11 := tl_nle (rfl : TI x34 x34.toInt) tn_255 c11
                exact rl_some ⟨rfl, (ti_bd tn_255 (by omega) (by omega))⟩
            · rintro y52 y52r ⟨ey52, ly52⟩
              obtain rfl : y52 = y52r := ey52
              have ly52 : 0 ≤ y52.toInt ∧ y52.toInt ≤ 255 := ly52
              have iy52 : TI y52 y52.toInt := rfl
              exact rl_some ⟨rfl, (ti_bd iy52 (by omega) (by omega))⟩
          · have dc10 := tl_nle tn_0 (rfl : TI x34 x34.toInt) c10
            exact rl_some ⟨rfl, (ti_bd tn_0 (by omega) (by omega))⟩
        · rintro y35 y35r ⟨ey35, ly35⟩
          obtain rfl : y35 = y35r := ey35
          have ly35 : 0 ≤ y35.toInt ∧ y35.toInt ≤ 255 := ly35
          have iy35 : TI y35 y35.toInt := rfl
          refine rl_chk (fun h => h) (fun k12 => ?_)
          refine rl_ltI (av_div is2_1 i0 (by omega) (by omega)) (fun x36 ix36 => ?_)
          refine rl_ltI (av_mul ix36 tn_16 (by omega) (by omega)) (fun x37 ix37 => ?_)
          refine rl_ltI (av_add i3 ix37 (by omega) (by omega)) (fun x38 ix38 => ?_)
          refine rl_chk (fun h => h) (fun k13 => ?_)
          refine rl_ltI (av_mod is2_1 i0 (by omega) (by omega)) (fun x39 ix39 => ?_)
          refine rl_ltI (av_add ix38 ix39 (by omega) (by omega)) (fun x40 ix40 => ?_)
          refine rl_bnd (Q := fun (y z : Int32) => y = z) ?_ ?_
          · refine rl_if (fun c14 => ?_) (fun c14 => ?_)
            · have dc14 := tl_eq (rfl : TI p4 p4.toInt) tn_0 c14
              exact rl_some rfl
            · have dc14 := tl_ne (rfl : TI p4 p4.toInt) tn_0 c14
              refine rl_dr (cx_U ts2_2) ⟨rfl, rfl⟩ (fun gb46 => ?_)
              refine rl_chk (chkl (cx_U ts2_2) gb46) (fun k15 => ?_)
              refine rl_rd (wg_use (wT_s2_2 (by omega)) ix40 (s2_1.toInt) (by omega) (by omega) (by (try dsimp only) <;> omega)) (fun x47 => ?_)
              refine rl_ltA (fun x48 => ?_)
              refine rl_ltA (fun x49 => ?_)
              refine rl_ltA (fun x50 => ?_)
              exact rl_some rfl
          · rintro y41 y41r ey41
            obtain rfl : y41 = y41r := ey41
            refine rl_dr (cx_U ts2_2) ⟨rfl, rfl⟩ (fun gb42 => ?_)
            refine rl_chk (chkl (cx_U ts2_2) gb42) (fun k16 => ?_)
            refine rl_w (κ := 144) (cx_U ts2_2) (by rcases hc2 with h | h <;> omega) (fun M43 M43r uM43 AM43 nM43 => ?_)
            have tM43 := cx_up ts2_2 uM43
            have wW_M43 := wq_up uM43 wW_s2_2
            have wT_M43 := fun h => wg_up uM43 (wT_s2_2 h)
            have wG_M43 := wg_up uM43 vG_s2_2
            refine rl_ltI (av_add is2_1 tn_1 (by omega) (by omega)) (fun x44 ix44 => ?_)
            exact rl_inl ⟨rfl, (ti_bd ix44 (by omega) (by omega)), (up_tr us2_2 uM43), (wg_ext wG_M43 ix40 (ag_up (up_0 mu (κ := 144) _ _) AM43) (by (try dsimp only) <;> omega) (by have q : _ = _ := ix44; (try dsimp only) <;> omega))⟩
    · exact ⟨rfl, (ti_bd tn_0 (by omega) (by omega)), (up_0 mu (κ := 144) _ _), (wg_0 (by have q : _ = _ := tn_0; (try dsimp only) <;> omega))⟩
    · rintro ⟨y1_1, y1_2⟩ ⟨y1_1r, y1_2r⟩ ⟨ey1_1, ly1_1, uy1_2, vG_y1_2⟩
      obtain rfl : y1_1 = y1_1r := ey1_1
      have ly1_1 : 0 ≤ y1_1.toInt ∧ y1_1.toInt ≤ (8 * 8) := ly1_1
      have iy1_1 : TI y1_1 y1_1.toInt := rfl
      have uy1_2 : Up mu 144 M N y1_2 y1_2r := uy1_2
      have ty1_2 := cx_up t uy1_2
      have wW_y1_2 := wq_up uy1_2 hW
      have wT_y1_2 := fun h => wg_up uy1_2 (hT h)
      have vG_y1_2 : WG mu y1_2 y1_2r c2 (0) (8 * 8) (fun j => a3 + j / 8 * 16 + j % 8) := vG_y1_2
      exact rl_some ⟨uy1_2, vG_y1_2⟩
  · refine rl_bnd (Q := fun (y z : Int32 × DD) => y.1 = z.1 ∧ (0 ≤ y.1.toInt ∧ y.1.toInt ≤ (16 * 16)) ∧ Up mu 144 M N y.2 z.2 ∧ WG mu y.2 z.2 c2 (0) (16 * 16) (fun j => a3 + j / 16 * 16 + j % 16)) (rl_itr (fun (y z : Int32 × DD) => y.1 = z.1 ∧ (0 ≤ y.1.toInt ∧ y.1.toInt ≤ (16 * 16)) ∧ Up mu 144 M N y.2 z.2 ∧ WG mu y.2 z.2 c2 (0) (y.1.toInt) (fun j => a3 + j / 16 * 16 + j % 16)) _ ?_ _ _ _ ?_) ?_
    · rintro ⟨s2_1, s2_2⟩ ⟨s2_1r, s2_2r⟩ ⟨es2_1, ls2_1, us2_2, vG_s2_2⟩
      obtain rfl : s2_1 = s2_1r := es2_1
      have ls2_1 : 0 ≤ s2_1.toInt ∧ s2_1.toInt ≤ (16 * 16) := ls2_1
      have is2_1 : TI s2_1 s2_1.toInt := rfl
      have us2_2 : Up mu 144 M N s2_2 s2_2r := us2_2
      have ts2_2 := cx_up t us2_2
      have wW_s2_2 := wq_up us2_2 hW
      have wT_s2_2 := fun h => wg_up us2_2 (hT h)
      have vG_s2_2 : WG mu s2_2 s2_2r c2 (0) (s2_1.toInt) (fun j => a3 + j / 16 * 16 + j % 16) := vG_s2_2
      refine rl_ltI (av_mul i0 i0 (by omega) (by omega)) (fun x5 ix5 => ?_)
      refine rl_if (fun c1 => ?_) (fun c1 => ?_)
      · have dc1 := tl_le ix5 is2_1 c1
        exact rl_inr ⟨rfl, (ti_bd is2_1 (by omega) (by omega)), us2_2, (wg_sub vG_s2_2 (by omega) (by omega))⟩
      · have dc1 := tl_nle ix5 is2_1 c1
        refine rl_chk (fun h => h) (fun k2 => ?_)
        refine rl_ltI (av_div is2_1 i0 (by omega) (by omega)) (fun x7 ix7 => ?_)
        refine rl_ltI (av_add ix7 i1 (by omega) (by omega)) (fun x8 ix8 => ?_)
        refine rl_ltI (av_mul ix8 tn_21 (by omega) (by omega)) (fun x9 ix9 => ?_)
        refine rl_chk (fun h => h) (fun k3 => ?_)
        refine rl_ltI (av_mod is2_1 i0 (by omega) (by omega)) (fun x10 ix10 => ?_)
        refine rl_ltI (av_add ix9 ix10 (by omega) (by omega)) (fun x11 ix11 => ?_)
        refine rl_dr (cx_U ts2_2) (rx_c (a := 138) (k := 3) (b := 142) t (Or.inr (Or.inl rfl)) rfl (by decide)) (fun gb12 => ?_)
        refine rl_chk (chkl (cx_U ts2_2) gb12) (fun k4 => ?_)
        refine rl_rd (wq_use wW_s2_2 ix11 (s2_1.toInt / 16 + a1) (s2_1.toInt % 16 + 0) (by omega) (by omega) (by omega) (by omega) (by (try dsimp only) <;> omega)) (fun x13 => ?_)
        refine rl_ltI (av_add ix11 tn_1 (by omega) (by omega)) (fun x14 ix14 => ?_)
        refine rl_chk (chkl (cx_U ts2_2) gb12) (fun k5 => ?_)
        refine rl_rd (wq_use wW_s2_2 ix14 (s2_1.toInt / 16 + a1) (s2_1.toInt % 16 + 1) (by omega) (by omega) (by omega) (by omega) (by (try dsimp only) <;> omega)) (fun x15 => ?_)
        refine rl_ltA (fun x16 => ?_)
        refine rl_ltA (fun x17 => ?_)
        refine rl_ltI (av_add ix11 tn_2 (by omega) (by omega)) (fun x18 ix18 => ?_)
        refine rl_chk (chkl (cx_U ts2_2) gb12) (fun k6 => ?_)
        refine rl_rd (wq_use wW_s2_2 ix18 (s2_1.toInt / 16 + a1) (s2_1.toInt % 16 + 2) (by omega) (by omega) (by omega) (by omega) (by (try dsimp only) <;> omega)) (fun x19 => ?_)
        refine rl_ltA (fun x20 => ?_)
        refine rl_ltA (fun x21 => ?_)
        refine rl_ltI (av_add ix11 tn_3 (by omega) (by omega)) (fun x22 ix22 => ?_)
        refine rl_chk (chkl (cx_U ts2_2) gb12) (fun k7 => ?_)
        refine rl_rd (wq_use wW_s2_2 ix22 (s2_1.toInt / 16 + a1) (s2_1.toInt % 16 + 3) (by omega) (by omega) (by omega) (by omega) (by (try dsimp only) <;> omega)) (fun x23 => ?_)
        refine rl_ltA (fun x24 => ?_)
        refine rl_ltA (fun x25 => ?_)
        refine rl_ltI (av_add ix11 tn_4 (by omega) (by omega)) (fun x26 ix26 => ?_)
        refine rl_chk (chkl (cx_U ts2_2) gb12) (fun k8 => ?_)
        refine rl_rd (wq_use wW_s2_2 ix26 (s2_1.toInt / 16 + a1) (s2_1.toInt % 16 + 4) (by omega) (by omega) (by omega) (by omega) (by (try dsimp only) <;> omega)) (fun x27 => ?_)
        refine rl_ltA (fun x28 => ?_)
        refine rl_ltA (fun x29 => ?_)
        refine rl_ltI (av_add ix11 tn_5 (by omega) (by omega)) (fun x30 ix30 => ?_)
        refine rl_chk (chkl (cx_U ts2_2) gb12) (fun k9 => ?_)
        refine rl_rd (wq_use wW_s2_2 ix30 (s2_1.toInt / 16 + a1) (s2_1.toInt % 16 + 5) (by omega) (by omega) (by omega) (by omega) (by (try dsimp only) <;> omega)) (fun x31 => ?_)
        refine rl_ltA (fun x32 => ?_)
        refine rl_ltA (fun x33 => ?_)
        refine rl_ltA (fun x34 => ?_)
        refine rl_bnd (Q := fun (y z : Int32) => y = z ∧ (0 ≤ y.toInt ∧ y.toInt ≤ 255)) ?_ ?_
        · refine rl_if (fun c10 => ?_) (fun c10 => ?_)
          · have dc10 := tl_le tn_0 (rfl : TI x34 x34.toInt) c10
            refine rl_bnd (Q := fun (y z : Int32) => y = z ∧ (0 ≤ y.toInt ∧ y.toInt ≤ 255)) ?_ ?_
            · refine rl_if (fun c11 => ?_) (fun c11 => ?_)
              · have dc11 := tl_le (rfl : TI x34 x34.toInt) tn_255 c11
                exact rl_some ⟨rfl, (ti_bd (rfl : TI x34 x34.toInt) (by omega) (by omega))⟩
              · have dc11 := tl_nle (rfl : TI x34 x34.toInt) tn_255 c11
                exact rl_some ⟨rfl, (ti_bd tn_255 (by omega) (by omega))⟩
            · rintro y52 y52r ⟨ey52, ly52⟩
              obtain rfl : y52 = y52r := ey52
              have ly52 : 0 ≤ y52.toInt ∧ y52.toInt ≤ 255 := ly52
              have iy52 : TI y52 y52.toInt := rfl
              exact rl_some ⟨rfl, (ti_bd iy52 (by omega) (by omega))⟩
          · have dc10 := tl_nle tn_0 (rfl : TI x34 x34.toInt) c10
            exact rl_some ⟨rfl, (ti_bd tn_0 (by omega) (by omega))⟩
        · rintro y35 y35r ⟨ey35, ly35⟩
          obtain rfl : y35 = y35r := ey35
          have ly35 : 0 ≤ y35.toInt ∧ y35.toInt ≤ 255 := ly35
          have iy35 : TI y35 y35.toInt := rfl
          refine rl_chk (fun h => h) (fun k12 => ?_)
          refine rl_ltI (av_div is2_1 i0 (by omega) (by omega)) (fun x36 ix36 => ?_)
          refine rl_ltI (av_mul ix36 tn_16 (by omega) (by omega)) (fun x37 ix37 => ?_)
          refine rl_ltI (av_add i3 ix37 (by omega) (by omega)) (fun x38 ix38 => ?_)
          refine rl_chk (fun h => h) (fun k13 => ?_)
          refine rl_ltI (av_mod is2_1 i0 (by omega) (by omega)) (fun x39 ix39 => ?_)
          refine rl_ltI (av_add ix38 ix39 (by omega) (by omega)) (fun x40 ix40 => ?_)
          refine rl_bnd (Q := fun (y z : Int32) => y = z) ?_ ?_
          · refine rl_if (fun c14 => ?_) (fun c14 => ?_)
            · have dc14 := tl_eq (rfl : TI p4 p4.toInt) tn_0 c14
              exact rl_some rfl
            · have dc14 := tl_ne (rfl : TI p4 p4.toInt) tn_0 c14
              refine rl_dr (cx_U ts2_2) ⟨rfl, rfl⟩ (fun gb46 => ?_)
              refine rl_chk (chkl (cx_U ts2_2) gb46) (fun k15 => ?_)
              refine rl_rd (wg_use (wT_s2_2 (by omega)) ix40 (s2_1.toInt) (by omega) (by omega) (by (try dsimp only) <;> omega)) (fun x47 => ?_)
              refine rl_ltA (fun x48 => ?_)
              refine rl_ltA (fun x49 => ?_)
              refine rl_ltA (fun x50 => ?_)
              exact rl_some rfl
          · rintro y41 y41r ey41
            obtain rfl : y41 = y41r := ey41
            refine rl_dr (cx_U ts2_2) ⟨rfl, rfl⟩ (fun gb42 => ?_)
            refine rl_chk (chkl (cx_U ts2_2) gb42) (fun k16 => ?_)
            refine rl_w (κ := 144) (cx_U ts2_2) (by rcases hc2 with h | h <;> omega) (fun M43 M43r uM43 AM43 nM43 => ?_)
            have tM43 := cx_up ts2_2 uM43
            have wW_M43 := wq_up uM43 wW_s2_2
            have wT_M43 := fun h => wg_up uM43 (wT_s2_2 h)
            have wG_M43 := wg_up uM43 vG_s2_2
            refine rl_ltI (av_add is2_1 tn_1 (by omega) (by omega)) (fun x44 ix44 => ?_)
            exact rl_inl ⟨rfl, (ti_bd ix44 (by omega) (by omega)), (up_tr us2_2 uM43), (wg_ext wG_M43 ix40 (ag_up (up_0 mu (κ := 144) _ _) AM43) (by (try dsimp only) <;> omega) (by have q : _ = _ := ix44; (try dsimp only) <;> omega))⟩
    · exact ⟨rfl, (ti_bd tn_0 (by omega) (by omega)), (up_0 mu (κ := 144) _ _), (wg_0 (by have q : _ = _ := tn_0; (try dsimp only) <;> omega))⟩
    · rintro ⟨y1_1, y1_2⟩ ⟨y1_1r, y1_2r⟩ ⟨ey1_1, ly1_1, uy1_2, vG_y1_2⟩
      obtain rfl : y1_1 = y1_1r := ey1_1
      have ly1_1 : 0 ≤ y1_1.toInt ∧ y1_1.toInt ≤ (16 * 16) := ly1_1
      have iy1_1 : TI y1_1 y1_1.toInt := rfl
      have uy1_2 : Up mu 144 M N y1_2 y1_2r := uy1_2
      have ty1_2 := cx_up t uy1_2
      have wW_y1_2 := wq_up uy1_2 hW
      have wT_y1_2 := fun h => wg_up uy1_2 (hT h)
      have vG_y1_2 : WG mu y1_2 y1_2r c2 (0) (16 * 16) (fun j => a3 + j / 16 * 16 + j % 16) := vG_y1_2
      exact rl_some ⟨uy1_2, vG_y1_2⟩
theorem r_tapColumns {mu : Nat → Nat} {G H : GG} {M N : DD} {p : Nat} {L : List Nat} (t : CX mu G H M N p L) {p0 : Int32} {a0 : Int} (i0 : TI p0 a0) {p1 : Int32} {a1 : Int} (i1 : TI p1 a1) {p2 p2r : Option Nat} {c2 : Nat} (e2 : p2 = some c2 ∧ p2r = some (mu c2)) (hc2 : c2 = 140 ∨ c2 = 141) {p3 : Int32} {a3 : Int} (i3 : TI p3 a3) {p4 : Int32} (h0 : a0 = 4 ∨ a0 = 8 ∨ a0 = 16) (h1 : 0 ≤ a1) (h2 : a1 ≤ 3) (h3 : 0 ≤ a3) (h4 : a3 ≤ 383) (hW : WQ mu M N 142 (a0 + 5) (a0 + 5) (fun r x => r * 21 + x)) (hT : p4.toInt ≠ 0 → WG mu M N c2 0 (a0 * a0) (fun j => a3 + j / a0 * 16 + j % a0)) : LKS (FX6_tapColumns G M 138 p0 p1 p2 p3 p4) (FX6_tapColumns H N (mu 138) p0 p1 p2r p3 p4) (fun y z => Up mu 144 M N y z ∧ WG mu y z c2 0 (a0 * a0) (fun j => a3 + j / a0 * 16 + j % a0)) := by
  unfold FX6_tapColumns
  obtain ⟨rfl, rfl⟩ := e2
  rcases h0 with rfl | rfl | rfl
  · refine rl_bnd (Q := fun (y z : Int32 × DD) => y.1 = z.1 ∧ (0 ≤ y.1.toInt ∧ y.1.toInt ≤ (4 * 4)) ∧ Up mu 144 M N y.2 z.2 ∧ WG mu y.2 z.2 c2 (0) (4 * 4) (fun j => a3 + j / 4 * 16 + j % 4)) (rl_itr (fun (y z : Int32 × DD) => y.1 = z.1 ∧ (0 ≤ y.1.toInt ∧ y.1.toInt ≤ (4 * 4)) ∧ Up mu 144 M N y.2 z.2 ∧ WG mu y.2 z.2 c2 (0) (y.1.toInt) (fun j => a3 + j / 4 * 16 + j % 4)) _ ?_ _ _ _ ?_) ?_
    · rintro ⟨s2_1, s2_2⟩ ⟨s2_1r, s2_2r⟩ ⟨es2_1, ls2_1, us2_2, vG_s2_2⟩
      obtain rfl : s2_1 = s2_1r := es2_1
      have ls2_1 : 0 ≤ s2_1.toInt ∧ s2_1.toInt ≤ (4 * 4) := ls2_1
      have is2_1 : TI s2_1 s2_1.toInt := rfl
      have us2_2 : Up mu 144 M N s2_2 s2_2r := us2_2
      have ts2_2 := cx_up t us2_2
      have wW_s2_2 := wq_up us2_2 hW
      have wT_s2_2 := fun h => wg_up us2_2 (hT h)
      have vG_s2_2 : WG mu s2_2 s2_2r c2 (0) (s2_1.toInt) (fun j => a3 + j / 4 * 16 + j % 4) := vG_s2_2
      refine rl_ltI (av_mul i0 i0 (by omega) (by omega)) (fun x5 ix5 => ?_)
      refine rl_if (fun c1 => ?_) (fun c1 => ?_)
      · have dc1 := tl_le ix5 is2_1 c1
        exact rl_inr ⟨rfl, (ti_bd is2_1 (by omega) (by omega)), us2_2, (wg_sub vG_s2_2 (by omega) (by omega))⟩
      · have dc1 := tl_nle ix5 is2_1 c1
        refine rl_chk (fun h => h) (fun k2 => ?_)
        refine rl_ltI (av_div is2_1 i0 (by omega) (by omega)) (fun x7 ix7 => ?_)
        refine rl_ltI (av_mul ix7 tn_21 (by omega) (by omega)) (fun x8 ix8 => ?_)
        refine rl_chk (fun h => h) (fun k3 => ?_)
        refine rl_ltI (av_mod is2_1 i0 (by omega) (by omega)) (fun x9 ix9 => ?_)
        refine rl_ltI (av_add ix8 ix9 (by omega) (by omega)) (fun x10 ix10 => ?_)
        refine rl_ltI (av_add ix10 i1 (by omega) (by omega)) (fun x11 ix11 => ?_)
        refine rl_dr (cx_U ts2_2) (rx_c (a := 138) (k := 3) (b := 142) t (Or.inr (Or.inl rfl)) rfl (by decide)) (fun gb12 => ?_)
        refine rl_chk (chkl (cx_U ts2_2) gb12) (fun k4 => ?_)
        refine rl_rd (wq_use wW_s2_2 ix11 (s2_1.toInt / 4 + 0) (s2_1.toInt % 4 + a1) (by omega) (by omega) (by omega) (by omega) (by (try dsimp only) <;> omega)) (fun x13 => ?_)
        refine rl_ltI (av_add ix11 tn_21 (by omega) (by omega)) (fun x14 ix14 => ?_)
        refine rl_chk (chkl (cx_U ts2_2) gb12) (fun k5 => ?_)
        refine rl_rd (wq_use wW_s2_2 ix14 (s2_1.toInt / 4 + 1) (s2_1.toInt % 4 + a1) (by omega) (by omega) (by omega) (by omega) (by (try dsimp only) <;> omega)) (fun x15 => ?_)
        refine rl_ltA (fun x16 => ?_)
        refine rl_ltA (fun x17 => ?_)
        refine rl_ltI (av_add ix11 tn_42 (by omega) (by omega)) (fun x18 ix18 => ?_)
        refine rl_chk (chkl (cx_U ts2_2) gb12) (fun k6 => ?_)
        refine rl_rd (wq_use wW_s2_2 ix18 (s2_1.toInt / 4 + 2) (s2_1.toInt % 4 + a1) (by omega) (by omega) (by omega) (by omega) (by (try dsimp only) <;> omega)) (fun x19 => ?_)
        refine rl_ltA (fun x20 => ?_)
        refine rl_ltA (fun x21 => ?_)
        refine rl_ltI (av_add ix11 tn_63 (by omega) (by omega)) (fun x22 ix22 => ?_)
        refine rl_chk (chkl (cx_U ts2_2) gb12) (fun k7 => ?_)
        refine rl_rd (wq_use wW_s2_2 ix22 (s2_1.toInt / 4 + 3) (s2_1.toInt % 4 + a1) (by omega) (by omega) (by omega) (by omega) (by (try dsimp only) <;> omega)) (fun x23 => ?_)
        refine rl_ltA (fun x24 => ?_)
        refine rl_ltA (fun x25 => ?_)
        refine rl_ltI (av_add ix11 tn_84 (by omega) (by omega)) (fun x26 ix26 => ?_)
        refine rl_chk (chkl (cx_U ts2_2) gb12) (fun k8 => ?_)
        refine rl_rd (wq_use wW_s2_2 ix26 (s2_1.toInt / 4 + 4) (s2_1.toInt % 4 + a1) (by omega) (by omega) (by omega) (by omega) (by (try dsimp only) <;> omega)) (fun x27 => ?_)
        refine rl_ltA (fun x28 => ?_)
        refine rl_ltA (fun x29 => ?_)
        refine rl_ltI (av_add ix11 tn_105 (by omega) (by omega)) (fun x30 ix30 => ?_)
        refine rl_chk (chkl (cx_U ts2_2) gb12) (fun k9 => ?_)
        refine rl_rd (wq_use wW_s2_2 ix30 (s2_1.toInt / 4 + 5) (s2_1.toInt % 4 + a1) (by omega) (by omega) (by omega) (by omega) (by (try dsimp only) <;> omega)) (fun x31 => ?_)
        refine rl_ltA (fun x32 => ?_)
        refine rl_ltA (fun x33 => ?_)
        refine rl_ltA (fun x34 => ?_)
        refine rl_bnd (Q := fun (y z : Int32) => y = z ∧ (0 ≤ y.toInt ∧ y.toInt ≤ 255)) ?_ ?_
        · refine rl_if (fun c10 => ?_) (fun c10 => ?_)
          · have dc10 := tl_le tn_0 (rfl : TI x34 x34.toInt) c10
            refine rl_bnd (Q := fun (y z : Int32) => y = z ∧ (0 ≤ y.toInt ∧ y.toInt ≤ 255)) ?_ ?_
            · refine rl_if (fun c11 => ?_) (fun c11 => ?_)
              · have dc11 := tl_le (rfl : TI x34 x34.toInt) tn_255 c11
                exact rl_some ⟨rfl, (ti_bd (rfl : TI x34 x34.toInt) (by omega) (by omega))⟩
              · have dc11 := tl_nle (rfl : TI x34 x34.toInt) tn_255 c11
                exact rl_some ⟨rfl, (ti_bd tn_255 (by omega) (by omega))⟩
            · rintro y52 y52r ⟨ey52, ly52⟩
              obtain rfl : y52 = y52r := ey52
              have ly52 : 0 ≤ y52.toInt ∧ y52.toInt ≤ 255 := ly52
              have iy52 : TI y52 y52.toInt := rfl
              exact rl_some ⟨rfl, (ti_bd iy52 (by omega) (by omega))⟩
          · have dc10 := tl_nle tn_0 (rfl : TI x34 x34.toInt) c10
            exact rl_some ⟨rfl, (ti_bd tn_0 (by omega) (by omega))⟩
        · rintro y35 y35r ⟨ey35, ly35⟩
          obtain rfl : y35 = y35r := ey35
          have ly35 : 0 ≤ y35.toInt ∧ y35.toInt ≤ 255 := ly35
          have iy35 : TI y35 y35.toInt := rfl
          refine rl_chk (fun h => h) (fun k12 => ?_)
          refine rl_ltI (av_div is2_1 i0 (by omega) (by omega)) (fun x36 ix36 => ?_)
          refine rl_ltI (av_mul ix36 tn_16 (by omega) (by omega)) (fun x37 ix37 => ?_)
          refine rl_ltI (av_add i3 ix37 (by omega) (by omega)) (fun x38 ix38 => ?_)
          refine rl_chk (fun h => h) (fun k13 => ?_)
          refine rl_ltI (av_mod is2_1 i0 (by omega) (by omega)) (fun x39 ix39 => ?_)
          refine rl_ltI (av_add ix38 ix39 (by omega) (by omega)) (fun x40 ix40 => ?_)
          refine rl_bnd (Q := fun (y z : Int32) => y = z) ?_ ?_
          · refine rl_if (fun c14 => ?_) (fun c14 => ?_)
            · have dc14 := tl_eq (rfl : TI p4 p4.toInt) tn_0 c14
              exact rl_some rfl
            · have dc14 := tl_ne (rfl : TI p4 p4.toInt) tn_0 c14
              refine rl_dr (cx_U ts2_2) ⟨rfl, rfl⟩ (fun gb46 => ?_)
              refine rl_chk (chkl (cx_U ts2_2) gb46) (fun k15 => ?_)
              refine rl_rd (wg_use (wT_s2_2 (by omega)) ix40 (s2_1.toInt) (by omega) (by omega) (by (try dsimp only) <;> omega)) (fun x47 => ?_)
              refine rl_ltA (fun x48 => ?_)
              refine rl_ltA (fun x49 => ?_)
              refine rl_ltA (fun x50 => ?_)
              exact rl_some rfl
          · rintro y41 y41r ey41
            obtain rfl : y41 = y41r := ey41
            refine rl_dr (cx_U ts2_2) ⟨rfl, rfl⟩ (fun gb42 => ?_)
            refine rl_chk (chkl (cx_U ts2_2) gb42) (fun k16 => ?_)
            refine rl_w (κ := 144) (cx_U ts2_2) (by rcases hc2 with h | h <;> omega) (fun M43 M43r uM43 AM43 nM43 => ?_)
            have tM43 := cx_up ts2_2 uM43
            have wW_M43 := wq_up uM43 wW_s2_2
            have wT_M43 := fun h => wg_up uM43 (wT_s2_2 h)
            have wG_M43 := wg_up uM43 vG_s2_2
            refine rl_ltI (av_add is2_1 tn_1 (by omega) (by omega)) (fun x44 ix44 => ?_)
            exact rl_inl ⟨rfl, (ti_bd ix44 (by omega) (by omega)), (up_tr us2_2 uM43), (wg_ext wG_M43 ix40 (ag_up (up_0 mu (κ := 144) _ _) AM43) (by (try dsimp only) <;> omega) (by have q : _ = _ := ix44; (try dsimp only) <;> omega))⟩
    · exact ⟨rfl, (ti_bd tn_0 (by omega) (by omega)), (up_0 mu (κ := 144) _ _), (wg_0 (by have q : _ = _ := tn_0; (try dsimp only) <;> omega))⟩
    · rintro ⟨y1_1, y1_2⟩ ⟨y1_1r, y1_2r⟩ ⟨ey1_1, ly1_1, uy1_2, vG_y1_2⟩
      obtain rfl : y1_1 = y1_1r := ey1_1
      have ly1_1 : 0 ≤ y1_1.toInt ∧ y1_1.toInt ≤ (4 * 4) := ly1_1
      have iy1_1 : TI y1_1 y1_1.toInt := rfl
      have uy1_2 : Up mu 144 M N y1_2 y1_2r := uy1_2
      have ty1_2 := cx_up t uy1_2
      have wW_y1_2 := wq_up uy1_2 hW
      have wT_y1_2 := fun h => wg_up uy1_2 (hT h)
      have vG_y1_2 : WG mu y1_2 y1_2r c2 (0) (4 * 4) (fun j => a3 + j / 4 * 16 + j % 4) := vG_y1_2
      exact rl_some ⟨uy1_2, vG_y1_2⟩
  · refine rl_bnd (Q := fun (y z : Int32 × DD) => y.1 = z.1 ∧ (0 ≤ y.1.toInt ∧ y.1.toInt ≤ (8 * 8)) ∧ Up mu 144 M N y.2 z.2 ∧ WG mu y.2 z.2 c2 (0) (8 * 8) (fun j => a3 + j / 8 * 16 + j % 8)) (rl_itr (fun (y z : Int32 × DD) => y.1 = z.1 ∧ (0 ≤ y.1.toInt ∧ y.1.toInt ≤ (8 * 8)) ∧ Up mu 144 M N y.2 z.2 ∧ WG mu y.2 z.2 c2 (0) (y.1.toInt) (fun j => a3 + j / 8 * 16 + j % 8)) _ ?_ _ _ _ ?_) ?_
    · rintro ⟨s2_1, s2_2⟩ ⟨s2_1r, s2_2r⟩ ⟨es2_1, ls2_1, us2_2, vG_s2_2⟩
      obtain rfl : s2_1 = s2_1r := es2_1
      have ls2_1 : 0 ≤ s2_1.toInt ∧ s2_1.toInt ≤ (8 * 8) := ls2_1
      have is2_1 : TI s2_1 s2_1.toInt := rfl
      have us2_2 : Up mu 144 M N s2_2 s2_2r := us2_2
      have ts2_2 := cx_up t us2_2
      have wW_s2_2 := wq_up us2_2 hW
      have wT_s2_2 := fun h => wg_up us2_2 (hT h)
      have vG_s2_2 : WG mu s2_2 s2_2r c2 (0) (s2_1.toInt) (fun j => a3 + j / 8 * 16 + j % 8) := vG_s2_2
      refine rl_ltI (av_mul i0 i0 (by omega) (by omega)) (fun x5 ix5 => ?_)
      refine rl_if (fun c1 => ?_) (fun c1 => ?_)
      · have dc1 := tl_le ix5 is2_1 c1
        exact rl_inr ⟨rfl, (ti_bd is2_1 (by omega) (by omega)), us2_2, (wg_sub vG_s2_2 (by omega) (by omega))⟩
      · have dc1 := tl_nle ix5 is2_1 c1
        refine rl_chk (fun h => h) (fun k2 => ?_)
        refine rl_ltI (av_div is2_1 i0 (by omega) (by omega)) (fun x7 ix7 => ?_)
        refine rl_ltI (av_mul ix7 tn_21 (by omega) (by omega)) (fun x8 ix8 => ?_)
        refine rl_chk (fun h => h) (fun k3 => ?_)
        refine rl_ltI (av_mod is2_1 i0 (by omega) (by omega)) (fun x9 ix9 => ?_)
        refine rl_ltI (av_add ix8 ix9 (by omega) (by omega)) (fun x10 ix10 => ?_)
        refine rl_ltI (av_add ix10 i1 (by omega) (by omega)) (fun x11 ix11 => ?_)
        refine rl_dr (cx_U ts2_2) (rx_c (a := 138) (k := 3) (b := 142) t (Or.inr (Or.inl rfl)) rfl (by decide)) (fun gb12 => ?_)
        refine rl_chk (chkl (cx_U ts2_2) gb12) (fun k4 => ?_)
        refine rl_rd (wq_use wW_s2_2 ix11 (s2_1.toInt / 8 + 0) (s2_1.toInt % 8 + a1) (by omega) (by omega) (by omega) (by omega) (by (try dsimp only) <;> omega)) (fun x13 => ?_)
        refine rl_ltI (av_add ix11 tn_21 (by omega) (by omega)) (fun x14 ix14 => ?_)
        refine rl_chk (chkl (cx_U ts2_2) gb12) (fun k5 => ?_)
        refine rl_rd (wq_use wW_s2_2 ix14 (s2_1.toInt / 8 + 1) (s2_1.toInt % 8 + a1) (by omega) (by omega) (by omega) (by omega) (by (try dsimp only) <;> omega)) (fun x15 => ?_)
        refine rl_ltA (fun x16 => ?_)
        refine rl_ltA (fun x17 => ?_)
        refine rl_ltI (av_add ix11 tn_42 (by omega) (by omega)) (fun x18 ix18 => ?_)
        refine rl_chk (chkl (cx_U ts2_2) gb12) (fun k6 => ?_)
        refine rl_rd (wq_use wW_s2_2 ix18 (s2_1.toInt / 8 + 2) (s2_1.toInt % 8 + a1) (by omega) (by omega) (by omega) (by omega) (by (try dsimp only) <;> omega)) (fun x19 => ?_)
        refine rl_ltA (fun x20 => ?_)
        refine rl_ltA (fun x21 => ?_)
        refine rl_ltI (av_add ix11 tn_63 (by omega) (by omega)) (fun x22 ix22 => ?_)
        refine rl_chk (chkl (cx_U ts2_2) gb12) (fun k7 => ?_)
        refine rl_rd (wq_use wW_s2_2 ix22 (s2_1.toInt / 8 + 3) (s2_1.toInt % 8 + a1) (by omega) (by omega) (by omega) (by omega) (by (try dsimp only) <;> omega)) (fun x23 => ?_)
        refine rl_ltA (fun x24 => ?_)
        refine rl_ltA (fun x25 => ?_)
        refine rl_ltI (av_add ix11 tn_84 (by omega) (by omega)) (fun x26 ix26 => ?_)
        refine rl_chk (chkl (cx_U ts2_2) gb12) (fun k8 => ?_)
        refine rl_rd (wq_use wW_s2_2 ix26 (s2_1.toInt / 8 + 4) (s2_1.toInt % 8 + a1) (by omega) (by omega) (by omega) (by omega) (by (try dsimp only) <;> omega)) (fun x27 => ?_)
        refine rl_ltA (fun x28 => ?_)
        refine rl_ltA (fun x29 => ?_)
        refine rl_ltI (av_add ix11 tn_105 (by omega) (by omega)) (fun x30 ix30 => ?_)
        refine rl_chk (chkl (cx_U ts2_2) gb12) (fun k9 => ?_)
        refine rl_rd (wq_use wW_s2_2 ix30 (s2_1.toInt / 8 + 5) (s2_1.toInt % 8 + a1) (by omega) (by omega) (by omega) (by omega) (by (try dsimp only) <;> omega)) (fun x31 => ?_)
        refine rl_ltA (fun x32 => ?_)
        refine rl_ltA (fun x33 => ?_)
        refine rl_ltA (fun x34 => ?_)
        refine rl_bnd (Q := fun (y z : Int32) => y = z ∧ (0 ≤ y.toInt ∧ y.toInt ≤ 255)) ?_ ?_
        · refine rl_if (fun c10 => ?_) (fun c10 => ?_)
          · have dc10 := tl_le tn_0 (rfl : TI x34 x34.toInt) c10
            refine rl_bnd (Q := fun (y z : Int32) => y = z ∧ (0 ≤ y.toInt ∧ y.toInt ≤ 255)) ?_ ?_
            · refine rl_if (fun c11 => ?_) (fun c11 => ?_)
              · have dc11 := tl_le (rfl : TI x34 x34.toInt) tn_255 c11
                exact rl_some ⟨rfl, (ti_bd (rfl : TI x34 x34.toInt) (by omega) (by omega))⟩
              · have dc11 := tl_nle (rfl : TI x34 x34.toInt) tn_255 c11
                exact rl_some ⟨rfl, (ti_bd tn_255 (by omega) (by omega))⟩
            · rintro y52 y52r ⟨ey52, ly52⟩
              obtain rfl : y52 = y52r := ey52
              have ly52 : 0 ≤ y52.toInt ∧ y52.toInt ≤ 255 := ly52
              have iy52 : TI y52 y52.toInt := rfl
              exact rl_some ⟨rfl, (ti_bd iy52 (by omega) (by omega))⟩
          · have dc10 := tl_nle tn_0 (rfl : TI x34 x34.toInt) c10
            exact rl_some ⟨rfl, (ti_bd tn_0 (by omega) (by omega))⟩
        · rintro y35 y35r ⟨ey35, ly35⟩
          obtain rfl : y35 = y35r := ey35
          have ly35 : 0 ≤ y35.toInt ∧ y35.toInt ≤ 255 := ly35
          have iy35 : TI y35 y35.toInt := rfl
          refine rl_chk (fun h => h) (fun k12 => ?_)
          refine rl_ltI (av_div is2_1 i0 (by omega) (by omega)) (fun x36 ix36 => ?_)
          refine rl_ltI (av_mul ix36 tn_16 (by omega) (by omega)) (fun x37 ix37 => ?_)
          refine rl_ltI (av_add i3 ix37 (by omega) (by omega)) (fun x38 ix38 => ?_)
          refine rl_chk (fun h => h) (fun k13 => ?_)
          refine rl_ltI (av_mod is2_1 i0 (by omega) (by omega)) (fun x39 ix39 => ?_)
          refine rl_ltI (av_add ix38 ix39 (by omega) (by omega)) (fun x40 ix40 => ?_)
          refine rl_bnd (Q := fun (y z : Int32) => y = z) ?_ ?_
          · refine rl_if (fun c14 => ?_) (fun c14 => ?_)
            · have dc14 := tl_eq (rfl : TI p4 p4.toInt) tn_0 c14
              exact rl_some rfl
            · have dc14 := tl_ne (rfl : TI p4 p4.toInt) tn_0 c14
              refine rl_dr (cx_U ts2_2) ⟨rfl, rfl⟩ (fun gb46 => ?_)
              refine rl_chk (chkl (cx_U ts2_2) gb46) (fun k15 => ?_)
              refine rl_rd (wg_use (wT_s2_2 (by omega)) ix40 (s2_1.toInt) (by omega) (by omega) (by (try dsimp only) <;> omega)) (fun x47 => ?_)
              refine rl_ltA (fun x48 => ?_)
              refine rl_ltA (fun x49 => ?_)
              refine rl_ltA (fun x50 => ?_)
              exact rl_some rfl
          · rintro y41 y41r ey41
            obtain rfl : y41 = y41r := ey41
            refine rl_dr (cx_U ts2_2) ⟨rfl, rfl⟩ (fun gb42 => ?_)
            refine rl_chk (chkl (cx_U ts2_2) gb42) (fun k16 => ?_)
            refine rl_w (κ := 144) (cx_U ts2_2) (by rcases hc2 with h | h <;> omega) (fun M43 M43r uM43 AM43 nM43 => ?_)
            have tM43 := cx_up ts2_2 uM43
            have wW_M43 := wq_up uM43 wW_s2_2
            have wT_M43 := fun h => wg_up uM43 (wT_s2_2 h)
            have wG_M43 := wg_up uM43 vG_s2_2
            refine rl_ltI (av_add is2_1 tn_1 (by omega) (by omega)) (fun x44 ix44 => ?_)
            exact rl_inl ⟨rfl, (ti_bd ix44 (by omega) (by omega)), (up_tr us2_2 uM43), (wg_ext wG_M43 ix40 (ag_up (up_0 mu (κ := 144) _ _) AM43) (by (try dsimp only) <;> omega) (by have q : _ = _ := ix44; (try dsimp only) <;> omega))⟩
    · exact ⟨rfl, (ti_bd tn_0 (by omega) (by omega)), (up_0 mu (κ := 144) _ _), (wg_0 (by have q : _ = _ := tn_0; (try dsimp only) <;> omega))⟩
    · rintro ⟨y1_1, y1_2⟩ ⟨y1_1r, y1_2r⟩ ⟨ey1_1, ly1_1, uy1_2, vG_y1_2⟩
      obtain rfl : y1_1 = y1_1r := ey1_1
      have ly1_1 : 0 ≤ y1_1.toInt ∧ y1_1.toInt ≤ (8 * 8) := ly1_1
      have iy1_1 : TI y1_1 y1_1.toInt := rfl
      have uy1_2 : Up mu 144 M N y1_2 y1_2r := uy1_2
      have ty1_2 := cx_up t uy1_2
      have wW_y1_2 := wq_up uy1_2 hW
      have wT_y1_2 := fun h => wg_up uy1_2 (hT h)
      have vG_y1_2 : WG mu y1_2 y1_2r c2 (0) (8 * 8) (fun j => a3 + j / 8 * 16 + j % 8) := vG_y1_2
      exact rl_some ⟨uy1_2, vG_y1_2⟩
  · refine rl_bnd (Q := fun (y z : Int32 × DD) => y.1 = z.1 ∧ (0 ≤ y.1.toInt ∧ y.1.toInt ≤ (16 * 16)) ∧ Up mu 144 M N y.2 z.2 ∧ WG mu y.2 z.2 c2 (0) (16 * 16) (fun j => a3 + j / 16 * 16 + j % 16)) (rl_itr (fun (y z : Int32 × DD) => y.1 = z.1 ∧ (0 ≤ y.1.toInt ∧ y.1.toInt ≤ (16 * 16)) ∧ Up mu 144 M N y.2 z.2 ∧ WG mu y.2 z.2 c2 (0) (y.1.toInt) (fun j => a3 + j / 16 * 16 + j % 16)) _ ?_ _ _ _ ?_) ?_
    · rintro ⟨s2_1, s2_2⟩ ⟨s2_1r, s2_2r⟩ ⟨es2_1, ls2_1, us2_2, vG_s2_2⟩
      obtain rfl : s2_1 = s2_1r := es2_1
      have ls2_1 : 0 ≤ s2_1.toInt ∧ s2_1.toInt ≤ (16 * 16) := ls2_1
      have is2_1 : TI s2_1 s2_1.toInt := rfl
      have us2_2 : Up mu 144 M N s2_2 s2_2r := us2_2
      have ts2_2 := cx_up t us2_2
      have wW_s2_2 := wq_up us2_2 hW
      have wT_s2_2 := fun h => wg_up us2_2 (hT h)
      have vG_s2_2 : WG mu s2_2 s2_2r c2 (0) (s2_1.toInt) (fun j => a3 + j / 16 * 16 + j % 16) := vG_s2_2
      refine rl_ltI (av_mul i0 i0 (by omega) (by omega)) (fun x5 ix5 => ?_)
      refine rl_if (fun c1 => ?_) (fun c1 => ?_)
      · have dc1 := tl_le ix5 is2_1 c1
        exact rl_inr ⟨rfl, (ti_bd is2_1 (by omega) (by omega)), us2_2, (wg_sub vG_s2_2 (by omega) (by omega))⟩
      · have dc1 := tl_nle ix5 is2_1 c1
        refine rl_chk (fun h => h) (fun k2 => ?_)
        refine rl_ltI (av_div is2_1 i0 (by omega) (by omega)) (fun x7 ix7 => ?_)
        refine rl_ltI (av_mul ix7 tn_21 (by omega) (by omega)) (fun x8 ix8 => ?_)
        refine rl_chk (fun h => h) (fun k3 => ?_)
        refine rl_ltI (av_mod is2_1 i0 (by omega) (by omega)) (fun x9 ix9 => ?_)
        refine rl_ltI (av_add ix8 ix9 (by omega) (by omega)) (fun x10 ix10 => ?_)
        refine rl_ltI (av_add ix10 i1 (by omega) (by omega)) (fun x11 ix11 => ?_)
        refine rl_dr (cx_U ts2_2) (rx_c (a := 138) (k := 3) (b := 142) t (Or.inr (Or.inl rfl)) rfl (by decide)) (fun gb12 => ?_)
        refine rl_chk (chkl (cx_U ts2_2) gb12) (fun k4 => ?_)
        refine rl_rd (wq_use wW_s2_2 ix11 (s2_1.toInt / 16 + 0) (s2_1.toInt % 16 + a1) (by omega) (by omega) (by omega) (by omega) (by (try dsimp only) <;> omega)) (fun x13 => ?_)
        refine rl_ltI (av_add ix11 tn_21 (by omega) (by omega)) (fun x14 ix14 => ?_)
        refine rl_chk (chkl (cx_U ts2_2) gb12) (fun k5 => ?_)
        refine rl_rd (wq_use wW_s2_2 ix14 (s2_1.toInt / 16 + 1) (s2_1.toInt % 16 + a1) (by omega) (by omega) (by omega) (by omega) (by (try dsimp only) <;> omega)) (fun x15 => ?_)
        refine rl_ltA (fun x16 => ?_)
        refine rl_ltA (fun x17 => ?_)
        refine rl_ltI (av_add ix11 tn_42 (by omega) (by omega)) (fun x18 ix18 => ?_)
        refine rl_chk (chkl (cx_U ts2_2) gb12) (fun k6 => ?_)
        refine rl_rd (wq_use wW_s2_2 ix18 (s2_1.toInt / 16 + 2) (s2_1.toInt % 16 + a1) (by omega) (by omega) (by omega) (by omega) (by (try dsimp only) <;> omega)) (fun x19 => ?_)
        refine rl_ltA (fun x20 => ?_)
        refine rl_ltA (fun x21 => ?_)
        refine rl_ltI (av_add ix11 tn_63 (by omega) (by omega)) (fun x22 ix22 => ?_)
        refine rl_chk (chkl (cx_U ts2_2) gb12) (fun k7 => ?_)
        refine rl_rd (wq_use wW_s2_2 ix22 (s2_1.toInt / 16 + 3) (s2_1.toInt % 16 + a1) (by omega) (by omega) (by omega) (by omega) (by (try dsimp only) <;> omega)) (fun x23 => ?_)
        refine rl_ltA (fun x24 => ?_)
        refine rl_ltA (fun x25 => ?_)
        refine rl_ltI (av_add ix11 tn_84 (by omega) (by omega)) (fun x26 ix26 => ?_)
        refine rl_chk (chkl (cx_U ts2_2) gb12) (fun k8 => ?_)
        refine rl_rd (wq_use wW_s2_2 ix26 (s2_1.toInt / 16 + 4) (s2_1.toInt % 16 + a1) (by omega) (by omega) (by omega) (by omega) (by (try dsimp only) <;> omega)) (fun x27 => ?_)
        refine rl_ltA (fun x28 => ?_)
        refine rl_ltA (fun x29 => ?_)
        refine rl_ltI (av_add ix11 tn_105 (by omega) (by omega)) (fun x30 ix30 => ?_)
        refine rl_chk (chkl (cx_U ts2_2) gb12) (fun k9 => ?_)
        refine rl_rd (wq_use wW_s2_2 ix30 (s2_1.toInt / 16 + 5) (s2_1.toInt % 16 + a1) (by omega) (by omega) (by omega) (by omega) (by (try dsimp only) <;> omega)) (fun x31 => ?_)
        refine rl_ltA (fun x32 => ?_)
        refine rl_ltA (fun x33 => ?_)
        refine rl_ltA (fun x34 => ?_)
        refine rl_bnd (Q := fun (y z : Int32) => y = z ∧ (0 ≤ y.toInt ∧ y.toInt ≤ 255)) ?_ ?_
        · refine rl_if (fun c10 => ?_) (fun c10 => ?_)
          · have dc10 := tl_le tn_0 (rfl : TI x34 x34.toInt) c10
            refine rl_bnd (Q := fun (y z : Int32) => y = z ∧ (0 ≤ y.toInt ∧ y.toInt ≤ 255)) ?_ ?_
            · refine rl_if (fun c11 => ?_) (fun c11 => ?_)
              · have dc11 := tl_le (rfl : TI x34 x34.toInt) tn_255 c11
                exact rl_some ⟨rfl, (ti_bd (rfl : TI x34 x34.toInt) (by omega) (by omega))⟩
              · have dc11 := tl_nle (rfl : TI x34 x34.toInt) tn_255 c11
                exact rl_some ⟨rfl, (ti_bd tn_255 (by omega) (by omega))⟩
            · rintro y52 y52r ⟨ey52, ly52⟩
              obtain rfl : y52 = y52r := ey52
              have ly52 : 0 ≤ y52.toInt ∧ y52.toInt ≤ 255 := ly52
              have iy52 : TI y52 y52.toInt := rfl
              exact rl_some ⟨rfl, (ti_bd iy52 (by omega) (by omega))⟩
          · have dc10 := tl_nle tn_0 (rfl : TI x34 x34.toInt) c10
            exact rl_some ⟨rfl, (ti_bd tn_0 (by omega) (by omega))⟩
        · rintro y35 y35r ⟨ey35, ly35⟩
          obtain rfl : y35 = y35r := ey35
          have ly35 : 0 ≤ y35.toInt ∧ y35.toInt ≤ 255 := ly35
          have iy35 : TI y35 y35.toInt := rfl
          refine rl_chk (fun h => h) (fun k12 => ?_)
          refine rl_ltI (av_div is2_1 i0 (by omega) (by omega)) (fun x36 ix36 => ?_)
          refine rl_ltI (av_mul ix36 tn_16 (by omega) (by omega)) (fun x37 ix37 => ?_)
          refine rl_ltI (av_add i3 ix37 (by omega) (by omega)) (fun x38 ix38 => ?_)
          refine rl_chk (fun h => h) (fun k13 => ?_)
          refine rl_ltI (av_mod is2_1 i0 (by omega) (by omega)) (fun x39 ix39 => ?_)
          refine rl_ltI (av_add ix38 ix39 (by omega) (by omega)) (fun x40 ix40 => ?_)
          refine rl_bnd (Q := fun (y z : Int32) => y = z) ?_ ?_
          · refine rl_if (fun c14 => ?_) (fun c14 => ?_)
            · have dc14 := tl_eq (rfl : TI p4 p4.toInt) tn_0 c14
              exact rl_some rfl
            · have dc14 := tl_ne (rfl : TI p4 p4.toInt) tn_0 c14
              refine rl_dr (cx_U ts2_2) ⟨rfl, rfl⟩ (fun gb46 => ?_)
              refine rl_chk (chkl (cx_U ts2_2) gb46) (fun k15 => ?_)
              refine rl_rd (wg_use (wT_s2_2 (by omega)) ix40 (s2_1.toInt) (by omega) (by omega) (by (try dsimp only) <;> omega)) (fun x47 => ?_)
              refine rl_ltA (fun x48 => ?_)
              refine rl_ltA (fun x49 => ?_)
              refine rl_ltA (fun x50 => ?_)
              exact rl_some rfl
          · rintro y41 y41r ey41
            obtain rfl : y41 = y41r := ey41
            refine rl_dr (cx_U ts2_2) ⟨rfl, rfl⟩ (fun gb42 => ?_)
            refine rl_chk (chkl (cx_U ts2_2) gb42) (fun k16 => ?_)
            refine rl_w (κ := 144) (cx_U ts2_2) (by rcases hc2 with h | h <;> omega) (fun M43 M43r uM43 AM43 nM43 => ?_)
            have tM43 := cx_up ts2_2 uM43
            have wW_M43 := wq_up uM43 wW_s2_2
            have wT_M43 := fun h => wg_up uM43 (wT_s2_2 h)
            have wG_M43 := wg_up uM43 vG_s2_2
            refine rl_ltI (av_add is2_1 tn_1 (by omega) (by omega)) (fun x44 ix44 => ?_)
            exact rl_inl ⟨rfl, (ti_bd ix44 (by omega) (by omega)), (up_tr us2_2 uM43), (wg_ext wG_M43 ix40 (ag_up (up_0 mu (κ := 144) _ _) AM43) (by (try dsimp only) <;> omega) (by have q : _ = _ := ix44; (try dsimp only) <;> omega))⟩
    · exact ⟨rfl, (ti_bd tn_0 (by omega) (by omega)), (up_0 mu (κ := 144) _ _), (wg_0 (by have q : _ = _ := tn_0; (try dsimp only) <;> omega))⟩
    · rintro ⟨y1_1, y1_2⟩ ⟨y1_1r, y1_2r⟩ ⟨ey1_1, ly1_1, uy1_2, vG_y1_2⟩
      obtain rfl : y1_1 = y1_1r := ey1_1
      have ly1_1 : 0 ≤ y1_1.toInt ∧ y1_1.toInt ≤ (16 * 16) := ly1_1
      have iy1_1 : TI y1_1 y1_1.toInt := rfl
      have uy1_2 : Up mu 144 M N y1_2 y1_2r := uy1_2
      have ty1_2 := cx_up t uy1_2
      have wW_y1_2 := wq_up uy1_2 hW
      have wT_y1_2 := fun h => wg_up uy1_2 (hT h)
      have vG_y1_2 : WG mu y1_2 y1_2r c2 (0) (16 * 16) (fun j => a3 + j / 16 * 16 + j % 16) := vG_y1_2
      exact rl_some ⟨uy1_2, vG_y1_2⟩
theorem r_tapBoth {mu : Nat → Nat} {G H : GG} {M N : DD} {p : Nat} {L : List Nat} (t : CX mu G H M N p L) {p0 : Int32} {a0 : Int} (i0 : TI p0 a0) {p1 p1r : Option Nat} {c1 : Nat} (e1 : p1 = some c1 ∧ p1r = some (mu c1)) (hc1 : c1 = 140 ∨ c1 = 141) {p2 : Int32} {a2 : Int} (i2 : TI p2 a2) {p3 : Int32} (h0 : a0 = 4 ∨ a0 = 8 ∨ a0 = 16) (h1 : 0 ≤ a2) (h2 : a2 ≤ 383) (hW : WQ mu M N 142 (a0 + 5) (a0 + 5) (fun r x => r * 21 + x)) (hT : p3.toInt ≠ 0 → WG mu M N c1 0 (a0 * a0) (fun j => a2 + j / a0 * 16 + j % a0)) : LKS (FX6_tapBoth G M 138 p0 p1 p2 p3) (FX6_tapBoth H N (mu 138) p0 p1r p2 p3) (fun y z => Up mu 144 M N y z ∧ WG mu y z c1 0 (a0 * a0) (fun j => a2 + j / a0 * 16 + j % a0)) := by
  unfold FX6_tapBoth
  obtain ⟨rfl, rfl⟩ := e1
  rcases h0 with rfl | rfl | rfl
  · refine rl_bnd (Q := fun (y z : Int32 × DD) => y.1 = z.1 ∧ (0 ≤ y.1.toInt ∧ y.1.toInt ≤ (4 * (4 + 5))) ∧ Up mu 144 M N y.2 z.2 ∧ WG mu y.2 z.2 143 (0) (4 * (4 + 5)) (fun j => j / 4 * 16 + j % 4)) (rl_itr (fun (y z : Int32 × DD) => y.1 = z.1 ∧ (0 ≤ y.1.toInt ∧ y.1.toInt ≤ (4 * (4 + 5))) ∧ Up mu 144 M N y.2 z.2 ∧ WG mu y.2 z.2 143 (0) (y.1.toInt) (fun j => j / 4 * 16 + j % 4)) _ ?_ _ _ _ ?_) ?_
    · rintro ⟨s2_1, s2_2⟩ ⟨s2_1r, s2_2r⟩ ⟨es2_1, ls2_1, us2_2, vm_s2_2⟩
      obtain rfl : s2_1 = s2_1r := es2_1
      have ls2_1 : 0 ≤ s2_1.toInt ∧ s2_1.toInt ≤ (4 * (4 + 5)) := ls2_1
      have is2_1 : TI s2_1 s2_1.toInt := rfl
      have us2_2 : Up mu 144 M N s2_2 s2_2r := us2_2
      have ts2_2 := cx_up t us2_2
      have wW_s2_2 := wq_up us2_2 hW
      have wT_s2_2 := fun h => wg_up us2_2 (hT h)
      have vm_s2_2 : WG mu s2_2 s2_2r 143 (0) (s2_1.toInt) (fun j => j / 4 * 16 + j % 4) := vm_s2_2
      refine rl_ltI (av_add i0 tn_5 (by omega) (by omega)) (fun x54 ix54 => ?_)
      refine rl_ltI (av_mul i0 ix54 (by omega) (by omega)) (fun x55 ix55 => ?_)
      refine rl_if (fun c1 => ?_) (fun c1 => ?_)
      · have dc1 := tl_le ix55 is2_1 c1
        exact rl_inr ⟨rfl, (ti_bd is2_1 (by omega) (by omega)), us2_2, (wg_sub vm_s2_2 (by omega) (by omega))⟩
      · have dc1 := tl_nle ix55 is2_1 c1
        refine rl_chk (fun h => h) (fun k2 => ?_)
        refine rl_ltI (av_div is2_1 i0 (by omega) (by omega)) (fun x57 ix57 => ?_)
        refine rl_ltI (av_mul ix57 tn_21 (by omega) (by omega)) (fun x58 ix58 => ?_)
        refine rl_chk (fun h => h) (fun k3 => ?_)
        refine rl_ltI (av_mod is2_1 i0 (by omega) (by omega)) (fun x59 ix59 => ?_)
        refine rl_ltI (av_add ix58 ix59 (by omega) (by omega)) (fun x60 ix60 => ?_)
        refine rl_chk (fun h => h) (fun k4 => ?_)
        refine rl_ltI (av_div is2_1 i0 (by omega) (by omega)) (fun x61 ix61 => ?_)
        refine rl_ltI (av_mul ix61 tn_16 (by omega) (by omega)) (fun x62 ix62 => ?_)
        refine rl_chk (fun h => h) (fun k5 => ?_)
        refine rl_ltI (av_mod is2_1 i0 (by omega) (by omega)) (fun x63 ix63 => ?_)
        refine rl_ltI (av_add ix62 ix63 (by omega) (by omega)) (fun x64 ix64 => ?_)
        refine rl_dr (cx_U ts2_2) (rx_c (a := 138) (k := 3) (b := 142) t (Or.inr (Or.inl rfl)) rfl (by decide)) (fun gb65 => ?_)
        refine rl_chk (chkl (cx_U ts2_2) gb65) (fun k6 => ?_)
        refine rl_rd (wq_use wW_s2_2 ix60 (s2_1.toInt / 4) (s2_1.toInt % 4 + 0) (by omega) (by omega) (by omega) (by omega) (by (try dsimp only) <;> omega)) (fun x66 => ?_)
        refine rl_ltI (av_add ix60 tn_1 (by omega) (by omega)) (fun x67 ix67 => ?_)
        refine rl_chk (chkl (cx_U ts2_2) gb65) (fun k7 => ?_)
        refine rl_rd (wq_use wW_s2_2 ix67 (s2_1.toInt / 4) (s2_1.toInt % 4 + 1) (by omega) (by omega) (by omega) (by omega) (by (try dsimp only) <;> omega)) (fun x68 => ?_)
        refine rl_ltA (fun x69 => ?_)
        refine rl_ltA (fun x70 => ?_)
        refine rl_ltI (av_add ix60 tn_2 (by omega) (by omega)) (fun x71 ix71 => ?_)
        refine rl_chk (chkl (cx_U ts2_2) gb65) (fun k8 => ?_)
        refine rl_rd (wq_use wW_s2_2 ix71 (s2_1.toInt / 4) (s2_1.toInt % 4 + 2) (by omega) (by omega) (by omega) (by omega) (by (try dsimp only) <;> omega)) (fun x72 => ?_)
        refine rl_ltA (fun x73 => ?_)
        refine rl_ltA (fun x74 => ?_)
        refine rl_ltI (av_add ix60 tn_3 (by omega) (by omega)) (fun x75 ix75 => ?_)
        refine rl_chk (chkl (cx_U ts2_2) gb65) (fun k9 => ?_)
        refine rl_rd (wq_use wW_s2_2 ix75 (s2_1.toInt / 4) (s2_1.toInt % 4 + 3) (by omega) (by omega) (by omega) (by omega) (by (try dsimp only) <;> omega)) (fun x76 => ?_)
        refine rl_ltA (fun x77 => ?_)
        refine rl_ltA (fun x78 => ?_)
        refine rl_ltI (av_add ix60 tn_4 (by omega) (by omega)) (fun x79 ix79 => ?_)
        refine rl_chk (chkl (cx_U ts2_2) gb65) (fun k10 => ?_)
        refine rl_rd (wq_use wW_s2_2 ix79 (s2_1.toInt / 4) (s2_1.toInt % 4 + 4) (by omega) (by omega) (by omega) (by omega) (by (try dsimp only) <;> omega)) (fun x80 => ?_)
        refine rl_ltA (fun x81 => ?_)
        refine rl_ltA (fun x82 => ?_)
        refine rl_ltI (av_add ix60 tn_5 (by omega) (by omega)) (fun x83 ix83 => ?_)
        refine rl_chk (chkl (cx_U ts2_2) gb65) (fun k11 => ?_)
        refine rl_rd (wq_use wW_s2_2 ix83 (s2_1.toInt / 4) (s2_1.toInt % 4 + 5) (by omega) (by omega) (by omega) (by omega) (by (try dsimp only) <;> omega)) (fun x84 => ?_)
        refine rl_ltA (fun x85 => ?_)
        refine rl_dr (cx_U ts2_2) (rx_c (a := 138) (k := 4) (b := 143) ts2_2 (Or.inr (Or.inl rfl)) rfl (by decide)) (fun gb86 => ?_)
        refine rl_chk (chkl (cx_U ts2_2) gb86) (fun k12 => ?_)
        refine rl_w (κ := 144) (cx_U ts2_2) (by decide) (fun M87 M87r uM87 AM87 nM87 => ?_)
        have tM87 := cx_up ts2_2 uM87
        have wW_M87 := wq_up uM87 wW_s2_2
        have wT_M87 := fun h => wg_up uM87 (wT_s2_2 h)
        have wm_M87 := wg_up uM87 vm_s2_2
        refine rl_ltI (av_add is2_1 tn_1 (by omega) (by omega)) (fun x88 ix88 => ?_)
        exact rl_inl ⟨rfl, (ti_bd ix88 (by omega) (by omega)), (up_tr us2_2 uM87), (wg_ext wm_M87 ix64 (ag_up (up_0 mu (κ := 144) _ _) AM87) (by (try dsimp only) <;> omega) (by have q : _ = _ := ix88; (try dsimp only) <;> omega))⟩
    · exact ⟨rfl, (ti_bd tn_0 (by omega) (by omega)), (up_0 mu (κ := 144) _ _), (wg_0 (by have q : _ = _ := tn_0; (try dsimp only) <;> omega))⟩
    · rintro ⟨y1_1, y1_2⟩ ⟨y1_1r, y1_2r⟩ ⟨ey1_1, ly1_1, uy1_2, vm_y1_2⟩
      obtain rfl : y1_1 = y1_1r := ey1_1
      have ly1_1 : 0 ≤ y1_1.toInt ∧ y1_1.toInt ≤ (4 * (4 + 5)) := ly1_1
      have iy1_1 : TI y1_1 y1_1.toInt := rfl
      have uy1_2 : Up mu 144 M N y1_2 y1_2r := uy1_2
      have ty1_2 := cx_up t uy1_2
      have wW_y1_2 := wq_up uy1_2 hW
      have wT_y1_2 := fun h => wg_up uy1_2 (hT h)
      have vm_y1_2 : WG mu y1_2 y1_2r 143 (0) (4 * (4 + 5)) (fun j => j / 4 * 16 + j % 4) := vm_y1_2
      refine rl_bnd (Q := fun (y z : Int32 × DD) => y.1 = z.1 ∧ (0 ≤ y.1.toInt ∧ y.1.toInt ≤ (4 * 4)) ∧ Up mu 144 y1_2 y1_2r y.2 z.2 ∧ WG mu y.2 z.2 c1 (0) (4 * 4) (fun j => a2 + j / 4 * 16 + j % 4)) (rl_itr (fun (y z : Int32 × DD) => y.1 = z.1 ∧ (0 ≤ y.1.toInt ∧ y.1.toInt ≤ (4 * 4)) ∧ Up mu 144 y1_2 y1_2r y.2 z.2 ∧ WG mu y.2 z.2 c1 (0) (y.1.toInt) (fun j => a2 + j / 4 * 16 + j % 4)) _ ?_ _ _ _ ?_) ?_
      · rintro ⟨s5_1, s5_2⟩ ⟨s5_1r, s5_2r⟩ ⟨es5_1, ls5_1, us5_2, vG_s5_2⟩
        obtain rfl : s5_1 = s5_1r := es5_1
        have ls5_1 : 0 ≤ s5_1.toInt ∧ s5_1.toInt ≤ (4 * 4) := ls5_1
        have is5_1 : TI s5_1 s5_1.toInt := rfl
        have us5_2 : Up mu 144 y1_2 y1_2r s5_2 s5_2r := us5_2
        have ts5_2 := cx_up ty1_2 us5_2
        have wW_s5_2 := wq_up us5_2 wW_y1_2
        have wT_s5_2 := fun h => wg_up us5_2 (wT_y1_2 h)
        have wm_s5_2 := wg_up us5_2 vm_y1_2
        have vG_s5_2 : WG mu s5_2 s5_2r c1 (0) (s5_1.toInt) (fun j => a2 + j / 4 * 16 + j % 4) := vG_s5_2
        refine rl_ltI (av_mul i0 i0 (by omega) (by omega)) (fun x8 ix8 => ?_)
        refine rl_if (fun c13 => ?_) (fun c13 => ?_)
        · have dc13 := tl_le ix8 is5_1 c13
          exact rl_inr ⟨rfl, (ti_bd is5_1 (by omega) (by omega)), us5_2, (wg_sub vG_s5_2 (by omega) (by omega))⟩
        · have dc13 := tl_nle ix8 is5_1 c13
          refine rl_chk (fun h => h) (fun k14 => ?_)
          refine rl_ltI (av_div is5_1 i0 (by omega) (by omega)) (fun x10 ix10 => ?_)
          refine rl_ltI (av_mul ix10 tn_16 (by omega) (by omega)) (fun x11 ix11 => ?_)
          refine rl_chk (fun h => h) (fun k15 => ?_)
          refine rl_ltI (av_mod is5_1 i0 (by omega) (by omega)) (fun x12 ix12 => ?_)
          refine rl_ltI (av_add ix11 ix12 (by omega) (by omega)) (fun x13 ix13 => ?_)
          refine rl_dr (cx_U ts5_2) (rx_c (a := 138) (k := 4) (b := 143) ty1_2 (Or.inr (Or.inl rfl)) rfl (by decide)) (fun gb14 => ?_)
          refine rl_chk (chkl (cx_U ts5_2) gb14) (fun k16 => ?_)
          refine rl_rd (wg_use wm_s5_2 ix13 ((s5_1.toInt / 4 + 0) * 4 + s5_1.toInt % 4) (by omega) (by omega) (by (try dsimp only) <;> omega)) (fun x15 => ?_)
          refine rl_ltI (av_add ix13 tn_16 (by omega) (by omega)) (fun x16 ix16 => ?_)
          refine rl_chk (chkl (cx_U ts5_2) gb14) (fun k17 => ?_)
          refine rl_rd (wg_use wm_s5_2 ix16 ((s5_1.toInt / 4 + 1) * 4 + s5_1.toInt % 4) (by omega) (by omega) (by (try dsimp only) <;> omega)) (fun x17 => ?_)
          refine rl_ltA (fun x18 => ?_)
          refine rl_ltA (fun x19 => ?_)
          refine rl_ltI (av_add ix13 tn_32 (by omega) (by omega)) (fun x20 ix20 => ?_)
          refine rl_chk (chkl (cx_U ts5_2) gb14) (fun k18 => ?_)
          refine rl_rd (wg_use wm_s5_2 ix20 ((s5_1.toInt / 4 + 2) * 4 + s5_1.toInt % 4) (by omega) (by omega) (by (try dsimp only) <;> omega)) (fun x21 => ?_)
          refine rl_ltA (fun x22 => ?_)
          refine rl_ltA (fun x23 => ?_)
          refine rl_ltI (av_add ix13 tn_48 (by omega) (by omega)) (fun x24 ix24 => ?_)
          refine rl_chk (chkl (cx_U ts5_2) gb14) (fun k19 => ?_)
          refine rl_rd (wg_use wm_s5_2 ix24 ((s5_1.toInt / 4 + 3) * 4 + s5_1.toInt % 4) (by omega) (by omega) (by (try dsimp only) <;> omega)) (fun x25 => ?_)
          refine rl_ltA (fun x26 => ?_)
          refine rl_ltA (fun x27 => ?_)
          refine rl_ltI (av_add ix13 tn_64 (by omega) (by omega)) (fun x28 ix28 => ?_)
          refine rl_chk (chkl (cx_U ts5_2) gb14) (fun k20 => ?_)
          refine rl_rd (wg_use wm_s5_2 ix28 ((s5_1.toInt / 4 + 4) * 4 + s5_1.toInt % 4) (by omega) (by omega) (by (try dsimp only) <;> omega)) (fun x29 => ?_)
          refine rl_ltA (fun x30 => ?_)
          refine rl_ltA (fun x31 => ?_)
          refine rl_ltI (av_add ix13 tn_80 (by omega) (by omega)) (fun x32 ix32 => ?_)
          refine rl_chk (chkl (cx_U ts5_2) gb14) (fun k21 => ?_)
          refine rl_rd (wg_use wm_s5_2 ix32 ((s5_1.toInt / 4 + 5) * 4 + s5_1.toInt % 4) (by omega) (by omega) (by (try dsimp only) <;> omega)) (fun x33 => ?_)
          refine rl_ltA (fun x34 => ?_)
          refine rl_ltA (fun x35 => ?_)
          refine rl_ltA (fun x36 => ?_)
          refine rl_bnd (Q := fun (y z : Int32) => y = z ∧ (0 ≤ y.toInt ∧ y.toInt ≤ 255)) ?_ ?_
          · refine rl_if (fun c22 => ?_) (fun c22 => ?_)
            · have dc22 := tl_le tn_0 (rfl : TI x36 x36.toInt) c22
              refine rl_bnd (Q := fun (y z : Int32) => y = z ∧ (0 ≤ y.toInt ∧ y.toInt ≤ 255)) ?_ ?_
              · refine rl_if (fun c23 => ?_) (fun c23 => ?_)
                · have dc23 := tl_le (rfl : TI x36 x36.toInt) tn_255 c23
                  exact rl_some ⟨rfl, (ti_bd (rfl : TI x36 x36.toInt) (by omega) (by omega))⟩
                · have dc23 := tl_nle (rfl : TI x36 x36.toInt) tn_255 c23
                  exact rl_some ⟨rfl, (ti_bd tn_255 (by omega) (by omega))⟩
              · rintro y51 y51r ⟨ey51, ly51⟩
                obtain rfl : y51 = y51r := ey51
                have ly51 : 0 ≤ y51.toInt ∧ y51.toInt ≤ 255 := ly51
                have iy51 : TI y51 y51.toInt := rfl
                exact rl_some ⟨rfl, (ti_bd iy51 (by omega) (by omega))⟩
            · have dc22 := tl_nle tn_0 (rfl : TI x36 x36.toInt) c22
              exact rl_some ⟨rfl, (ti_bd tn_0 (by omega) (by omega))⟩
          · rintro y37 y37r ⟨ey37, ly37⟩
            obtain rfl : y37 = y37r := ey37
            have ly37 : 0 ≤ y37.toInt ∧ y37.toInt ≤ 255 := ly37
            have iy37 : TI y37 y37.toInt := rfl
            refine rl_ltI (av_add i2 ix13 (by omega) (by omega)) (fun x38 ix38 => ?_)
            refine rl_bnd (Q := fun (y z : Int32) => y = z) ?_ ?_
            · refine rl_if (fun c24 => ?_) (fun c24 => ?_)
              · have dc24 := tl_eq (rfl : TI p3 p3.toInt) tn_0 c24
                exact rl_some rfl
              · have dc24 := tl_ne (rfl : TI p3 p3.toInt) tn_0 c24
                refine rl_ltI (av_add i2 ix13 (by omega) (by omega)) (fun x44 ix44 => ?_)
                refine rl_dr (cx_U ts5_2) ⟨rfl, rfl⟩ (fun gb45 => ?_)
                refine rl_chk (chkl (cx_U ts5_2) gb45) (fun k25 => ?_)
                refine rl_rd (wg_use (wT_s5_2 (by omega)) ix44 (s5_1.toInt) (by omega) (by omega) (by (try dsimp only) <;> omega)) (fun x46 => ?_)
                refine rl_ltA (fun x47 => ?_)
                refine rl_ltA (fun x48 => ?_)
                refine rl_ltA (fun x49 => ?_)
                exact rl_some rfl
            · rintro y39 y39r ey39
              obtain rfl : y39 = y39r := ey39
              refine rl_dr (cx_U ts5_2) ⟨rfl, rfl⟩ (fun gb40 => ?_)
              refine rl_chk (chkl (cx_U ts5_2) gb40) (fun k26 => ?_)
              refine rl_w (κ := 144) (cx_U ts5_2) (by rcases hc1 with h | h <;> omega) (fun M41 M41r uM41 AM41 nM41 => ?_)
              have tM41 := cx_up ts5_2 uM41
              have wW_M41 := wq_up uM41 wW_s5_2
              have wT_M41 := fun h => wg_up uM41 (wT_s5_2 h)
              have wm_M41 := wg_up uM41 wm_s5_2
              have wG_M41 := wg_up uM41 vG_s5_2
              refine rl_ltI (av_add is5_1 tn_1 (by omega) (by omega)) (fun x42 ix42 => ?_)
              exact rl_inl ⟨rfl, (ti_bd ix42 (by omega) (by omega)), (up_tr us5_2 uM41), (wg_ext wG_M41 ix38 (ag_up (up_0 mu (κ := 144) _ _) AM41) (by (try dsimp only) <;> omega) (by have q : _ = _ := ix42; (try dsimp only) <;> omega))⟩
      · exact ⟨rfl, (ti_bd tn_0 (by omega) (by omega)), (up_0 mu (κ := 144) _ _), (wg_0 (by have q : _ = _ := tn_0; (try dsimp only) <;> omega))⟩
      · rintro ⟨y4_1, y4_2⟩ ⟨y4_1r, y4_2r⟩ ⟨ey4_1, ly4_1, uy4_2, vG_y4_2⟩
        obtain rfl : y4_1 = y4_1r := ey4_1
        have ly4_1 : 0 ≤ y4_1.toInt ∧ y4_1.toInt ≤ (4 * 4) := ly4_1
        have iy4_1 : TI y4_1 y4_1.toInt := rfl
        have uy4_2 : Up mu 144 y1_2 y1_2r y4_2 y4_2r := uy4_2
        have ty4_2 := cx_up ty1_2 uy4_2
        have wW_y4_2 := wq_up uy4_2 wW_y1_2
        have wT_y4_2 := fun h => wg_up uy4_2 (wT_y1_2 h)
        have wm_y4_2 := wg_up uy4_2 vm_y1_2
        have vG_y4_2 : WG mu y4_2 y4_2r c1 (0) (4 * 4) (fun j => a2 + j / 4 * 16 + j % 4) := vG_y4_2
        exact rl_some ⟨(up_tr uy1_2 uy4_2), vG_y4_2⟩
  · refine rl_bnd (Q := fun (y z : Int32 × DD) => y.1 = z.1 ∧ (0 ≤ y.1.toInt ∧ y.1.toInt ≤ (8 * (8 + 5))) ∧ Up mu 144 M N y.2 z.2 ∧ WG mu y.2 z.2 143 (0) (8 * (8 + 5)) (fun j => j / 8 * 16 + j % 8)) (rl_itr (fun (y z : Int32 × DD) => y.1 = z.1 ∧ (0 ≤ y.1.toInt ∧ y.1.toInt ≤ (8 * (8 + 5))) ∧ Up mu 144 M N y.2 z.2 ∧ WG mu y.2 z.2 143 (0) (y.1.toInt) (fun j => j / 8 * 16 + j % 8)) _ ?_ _ _ _ ?_) ?_
    · rintro ⟨s2_1, s2_2⟩ ⟨s2_1r, s2_2r⟩ ⟨es2_1, ls2_1, us2_2, vm_s2_2⟩
      obtain rfl : s2_1 = s2_1r := es2_1
      have ls2_1 : 0 ≤ s2_1.toInt ∧ s2_1.toInt ≤ (8 * (8 + 5)) := ls2_1
      have is2_1 : TI s2_1 s2_1.toInt := rfl
      have us2_2 : Up mu 144 M N s2_2 s2_2r := us2_2
      have ts2_2 := cx_up t us2_2
      have wW_s2_2 := wq_up us2_2 hW
      have wT_s2_2 := fun h => wg_up us2_2 (hT h)
      have vm_s2_2 : WG mu s2_2 s2_2r 143 (0) (s2_1.toInt) (fun j => j / 8 * 16 + j % 8) := vm_s2_2
      refine rl_ltI (av_add i0 tn_5 (by omega) (by omega)) (fun x54 ix54 => ?_)
      refine rl_ltI (av_mul i0 ix54 (by omega) (by omega)) (fun x55 ix55 => ?_)
      refine rl_if (fun c1 => ?_) (fun c1 => ?_)
      · have dc1 := tl_le ix55 is2_1 c1
        exact rl_inr ⟨rfl, (ti_bd is2_1 (by omega) (by omega)), us2_2, (wg_sub vm_s2_2 (by omega) (by omega))⟩
      · have dc1 := tl_nle ix55 is2_1 c1
        refine rl_chk (fun h => h) (fun k2 => ?_)
        refine rl_ltI (av_div is2_1 i0 (by omega) (by omega)) (fun x57 ix57 => ?_)
        refine rl_ltI (av_mul ix57 tn_21 (by omega) (by omega)) (fun x58 ix58 => ?_)
        refine rl_chk (fun h => h) (fun k3 => ?_)
        refine rl_ltI (av_mod is2_1 i0 (by omega) (by omega)) (fun x59 ix59 => ?_)
        refine rl_ltI (av_add ix58 ix59 (by omega) (by omega)) (fun x60 ix60 => ?_)
        refine rl_chk (fun h => h) (fun k4 => ?_)
        refine rl_ltI (av_div is2_1 i0 (by omega) (by omega)) (fun x61 ix61 => ?_)
        refine rl_ltI (av_mul ix61 tn_16 (by omega) (by omega)) (fun x62 ix62 => ?_)
        refine rl_chk (fun h => h) (fun k5 => ?_)
        refine rl_ltI (av_mod is2_1 i0 (by omega) (by omega)) (fun x63 ix63 => ?_)
        refine rl_ltI (av_add ix62 ix63 (by omega) (by omega)) (fun x64 ix64 => ?_)
        refine rl_dr (cx_U ts2_2) (rx_c (a := 138) (k := 3) (b := 142) t (Or.inr (Or.inl rfl)) rfl (by decide)) (fun gb65 => ?_)
        refine rl_chk (chkl (cx_U ts2_2) gb65) (fun k6 => ?_)
        refine rl_rd (wq_use wW_s2_2 ix60 (s2_1.toInt / 8) (s2_1.toInt % 8 + 0) (by omega) (by omega) (by omega) (by omega) (by (try dsimp only) <;> omega)) (fun x66 => ?_)
        refine rl_ltI (av_add ix60 tn_1 (by omega) (by omega)) (fun x67 ix67 => ?_)
        refine rl_chk (chkl (cx_U ts2_2) gb65) (fun k7 => ?_)
        refine rl_rd (wq_use wW_s2_2 ix67 (s2_1.toInt / 8) (s2_1.toInt % 8 + 1) (by omega) (by omega) (by omega) (by omega) (by (try dsimp only) <;> omega)) (fun x68 => ?_)
        refine rl_ltA (fun x69 => ?_)
        refine rl_ltA (fun x70 => ?_)
        refine rl_ltI (av_add ix60 tn_2 (by omega) (by omega)) (fun x71 ix71 => ?_)
        refine rl_chk (chkl (cx_U ts2_2) gb65) (fun k8 => ?_)
        refine rl_rd (wq_use wW_s2_2 ix71 (s2_1.toInt / 8) (s2_1.toInt % 8 + 2) (by omega) (by omega) (by omega) (by omega) (by (try dsimp only) <;> omega)) (fun x72 => ?_)
        refine rl_ltA (fun x73 => ?_)
        refine rl_ltA (fun x74 => ?_)
        refine rl_ltI (av_add ix60 tn_3 (by omega) (by omega)) (fun x75 ix75 => ?_)
        refine rl_chk (chkl (cx_U ts2_2) gb65) (fun k9 => ?_)
        refine rl_rd (wq_use wW_s2_2 ix75 (s2_1.toInt / 8) (s2_1.toInt % 8 + 3) (by omega) (by omega) (by omega) (by omega) (by (try dsimp only) <;> omega)) (fun x76 => ?_)
        refine rl_ltA (fun x77 => ?_)
        refine rl_ltA (fun x78 => ?_)
        refine rl_ltI (av_add ix60 tn_4 (by omega) (by omega)) (fun x79 ix79 => ?_)
        refine rl_chk (chkl (cx_U ts2_2) gb65) (fun k10 => ?_)
        refine rl_rd (wq_use wW_s2_2 ix79 (s2_1.toInt / 8) (s2_1.toInt % 8 + 4) (by omega) (by omega) (by omega) (by omega) (by (try dsimp only) <;> omega)) (fun x80 => ?_)
        refine rl_ltA (fun x81 => ?_)
        refine rl_ltA (fun x82 => ?_)
        refine rl_ltI (av_add ix60 tn_5 (by omega) (by omega)) (fun x83 ix83 => ?_)
        refine rl_chk (chkl (cx_U ts2_2) gb65) (fun k11 => ?_)
        refine rl_rd (wq_use wW_s2_2 ix83 (s2_1.toInt / 8) (s2_1.toInt % 8 + 5) (by omega) (by omega) (by omega) (by omega) (by (try dsimp only) <;> omega)) (fun x84 => ?_)
        refine rl_ltA (fun x85 => ?_)
        refine rl_dr (cx_U ts2_2) (rx_c (a := 138) (k := 4) (b := 143) ts2_2 (Or.inr (Or.inl rfl)) rfl (by decide)) (fun gb86 => ?_)
        refine rl_chk (chkl (cx_U ts2_2) gb86) (fun k12 => ?_)
        refine rl_w (κ := 144) (cx_U ts2_2) (by decide) (fun M87 M87r uM87 AM87 nM87 => ?_)
        have tM87 := cx_up ts2_2 uM87
        have wW_M87 := wq_up uM87 wW_s2_2
        have wT_M87 := fun h => wg_up uM87 (wT_s2_2 h)
        have wm_M87 := wg_up uM87 vm_s2_2
        refine rl_ltI (av_add is2_1 tn_1 (by omega) (by omega)) (fun x88 ix88 => ?_)
        exact rl_inl ⟨rfl, (ti_bd ix88 (by omega) (by omega)), (up_tr us2_2 uM87), (wg_ext wm_M87 ix64 (ag_up (up_0 mu (κ := 144) _ _) AM87) (by (try dsimp only) <;> omega) (by have q : _ = _ := ix88; (try dsimp only) <;> omega))⟩
    · exact ⟨rfl, (ti_bd tn_0 (by omega) (by omega)), (up_0 mu (κ := 144) _ _), (wg_0 (by have q : _ = _ := tn_0; (try dsimp only) <;> omega))⟩
    · rintro ⟨y1_1, y1_2⟩ ⟨y1_1r, y1_2r⟩ ⟨ey1_1, ly1_1, uy1_2, vm_y1_2⟩
      obtain rfl : y1_1 = y1_1r := ey1_1
      have ly1_1 : 0 ≤ y1_1.toInt ∧ y1_1.toInt ≤ (8 * (8 + 5)) := ly1_1
      have iy1_1 : TI y1_1 y1_1.toInt := rfl
      have uy1_2 : Up mu 144 M N y1_2 y1_2r := uy1_2
      have ty1_2 := cx_up t uy1_2
      have wW_y1_2 := wq_up uy1_2 hW
      have wT_y1_2 := fun h => wg_up uy1_2 (hT h)
      have vm_y1_2 : WG mu y1_2 y1_2r 143 (0) (8 * (8 + 5)) (fun j => j / 8 * 16 + j % 8) := vm_y1_2
      refine rl_bnd (Q := fun (y z : Int32 × DD) => y.1 = z.1 ∧ (0 ≤ y.1.toInt ∧ y.1.toInt ≤ (8 * 8)) ∧ Up mu 144 y1_2 y1_2r y.2 z.2 ∧ WG mu y.2 z.2 c1 (0) (8 * 8) (fun j => a2 + j / 8 * 16 + j % 8)) (rl_itr (fun (y z : Int32 × DD) => y.1 = z.1 ∧ (0 ≤ y.1.toInt ∧ y.1.toInt ≤ (8 * 8)) ∧ Up mu 144 y1_2 y1_2r y.2 z.2 ∧ WG mu y.2 z.2 c1 (0) (y.1.toInt) (fun j => a2 + j / 8 * 16 + j % 8)) _ ?_ _ _ _ ?_) ?_
      · rintro ⟨s5_1, s5_2⟩ ⟨s5_1r, s5_2r⟩ ⟨es5_1, ls5_1, us5_2, vG_s5_2⟩
        obtain rfl : s5_1 = s5_1r := es5_1
        have ls5_1 : 0 ≤ s5_1.toInt ∧ s5_1.toInt ≤ (8 * 8) := ls5_1
        have is5_1 : TI s5_1 s5_1.toInt := rfl
        have us5_2 : Up mu 144 y1_2 y1_2r s5_2 s5_2r := us5_2
        have ts5_2 := cx_up ty1_2 us5_2
        have wW_s5_2 := wq_up us5_2 wW_y1_2
        have wT_s5_2 := fun h => wg_up us5_2 (wT_y1_2 h)
        have wm_s5_2 := wg_up us5_2 vm_y1_2
        have vG_s5_2 : WG mu s5_2 s5_2r c1 (0) (s5_1.toInt) (fun j => a2 + j / 8 * 16 + j % 8) := vG_s5_2
        refine rl_ltI (av_mul i0 i0 (by omega) (by omega)) (fun x8 ix8 => ?_)
        refine rl_if (fun c13 => ?_) (fun c13 => ?_)
        · have dc13 := tl_le ix8 is5_1 c13
          exact rl_inr ⟨rfl, (ti_bd is5_1 (by omega) (by omega)), us5_2, (wg_sub vG_s5_2 (by omega) (by omega))⟩
        · have dc13 := tl_nle ix8 is5_1 c13
          refine rl_chk (fun h => h) (fun k14 => ?_)
          refine rl_ltI (av_div is5_1 i0 (by omega) (by omega)) (fun x10 ix10 => ?_)
          refine rl_ltI (av_mul ix10 tn_16 (by omega) (by omega)) (fun x11 ix11 => ?_)
          refine rl_chk (fun h => h) (fun k15 => ?_)
          refine rl_ltI (av_mod is5_1 i0 (by omega) (by omega)) (fun x12 ix12 => ?_)
          refine rl_ltI (av_add ix11 ix12 (by omega) (by omega)) (fun x13 ix13 => ?_)
          refine rl_dr (cx_U ts5_2) (rx_c (a := 138) (k := 4) (b := 143) ty1_2 (Or.inr (Or.inl rfl)) rfl (by decide)) (fun gb14 => ?_)
          refine rl_chk (chkl (cx_U ts5_2) gb14) (fun k16 => ?_)
          refine rl_rd (wg_use wm_s5_2 ix13 ((s5_1.toInt / 8 + 0) * 8 + s5_1.toInt % 8) (by omega) (by omega) (by (try dsimp only) <;> omega)) (fun x15 => ?_)
          refine rl_ltI (av_add ix13 tn_16 (by omega) (by omega)) (fun x16 ix16 => ?_)
          refine rl_chk (chkl (cx_U ts5_2) gb14) (fun k17 => ?_)
          refine rl_rd (wg_use wm_s5_2 ix16 ((s5_1.toInt / 8 + 1) * 8 + s5_1.toInt % 8) (by omega) (by omega) (by (try dsimp only) <;> omega)) (fun x17 => ?_)
          refine rl_ltA (fun x18 => ?_)
          refine rl_ltA (fun x19 => ?_)
          refine rl_ltI (av_add ix13 tn_32 (by omega) (by omega)) (fun x20 ix20 => ?_)
          refine rl_chk (chkl (cx_U ts5_2) gb14) (fun k18 => ?_)
          refine rl_rd (wg_use wm_s5_2 ix20 ((s5_1.toInt / 8 + 2) * 8 + s5_1.toInt % 8) (by omega) (by omega) (by (try dsimp only) <;> omega)) (fun x21 => ?_)
          refine rl_ltA (fun x22 => ?_)
          refine rl_ltA (fun x23 => ?_)
          refine rl_ltI (av_add ix13 tn_48 (by omega) (by omega)) (fun x24 ix24 => ?_)
          refine rl_chk (chkl (cx_U ts5_2) gb14) (fun k19 => ?_)
          refine rl_rd (wg_use wm_s5_2 ix24 ((s5_1.toInt / 8 + 3) * 8 + s5_1.toInt % 8) (by omega) (by omega) (by (try dsimp only) <;> omega)) (fun x25 => ?_)
          refine rl_ltA (fun x26 => ?_)
          refine rl_ltA (fun x27 => ?_)
          refine rl_ltI (av_add ix13 tn_64 (by omega) (by omega)) (fun x28 ix28 => ?_)
          refine rl_chk (chkl (cx_U ts5_2) gb14) (fun k20 => ?_)
          refine rl_rd (wg_use wm_s5_2 ix28 ((s5_1.toInt / 8 + 4) * 8 + s5_1.toInt % 8) (by omega) (by omega) (by (try dsimp only) <;> omega)) (fun x29 => ?_)
          refine rl_ltA (fun x30 => ?_)
          refine rl_ltA (fun x31 => ?_)
          refine rl_ltI (av_add ix13 tn_80 (by omega) (by omega)) (fun x32 ix32 => ?_)
          refine rl_chk (chkl (cx_U ts5_2) gb14) (fun k21 => ?_)
          refine rl_rd (wg_use wm_s5_2 ix32 ((s5_1.toInt / 8 + 5) * 8 + s5_1.toInt % 8) (by omega) (by omega) (by (try dsimp only) <;> omega)) (fun x33 => ?_)
          refine rl_ltA (fun x34 => ?_)
          refine rl_ltA (fun x35 => ?_)
          refine rl_ltA (fun x36 => ?_)
          refine rl_bnd (Q := fun (y z : Int32) => y = z ∧ (0 ≤ y.toInt ∧ y.toInt ≤ 255)) ?_ ?_
          · refine rl_if (fun c22 => ?_) (fun c22 => ?_)
            · have dc22 := tl_le tn_0 (rfl : TI x36 x36.toInt) c22
              refine rl_bnd (Q := fun (y z : Int32) => y = z ∧ (0 ≤ y.toInt ∧ y.toInt ≤ 255)) ?_ ?_
              · refine rl_if (fun c23 => ?_) (fun c23 => ?_)
                · have dc23 := tl_le (rfl : TI x36 x36.toInt) tn_255 c23
                  exact rl_some ⟨rfl, (ti_bd (rfl : TI x36 x36.toInt) (by omega) (by omega))⟩
                · have dc23 := tl_nle (rfl : TI x36 x36.toInt) tn_255 c23
                  exact rl_some ⟨rfl, (ti_bd tn_255 (by omega) (by omega))⟩
              · rintro y51 y51r ⟨ey51, ly51⟩
                obtain rfl : y51 = y51r := ey51
                have ly51 : 0 ≤ y51.toInt ∧ y51.toInt ≤ 255 := ly51
                have iy51 : TI y51 y51.toInt := rfl
                exact rl_some ⟨rfl, (ti_bd iy51 (by omega) (by omega))⟩
            · have dc22 := tl_nle tn_0 (rfl : TI x36 x36.toInt) c22
              exact rl_some ⟨rfl, (ti_bd tn_0 (by omega) (by omega))⟩
          · rintro y37 y37r ⟨ey37, ly37⟩
            obtain rfl : y37 = y37r := ey37
            have ly37 : 0 ≤ y37.toInt ∧ y37.toInt ≤ 255 := ly37
            have iy37 : TI y37 y37.toInt := rfl
            refine rl_ltI (av_add i2 ix13 (by omega) (by omega)) (fun x38 ix38 => ?_)
            refine rl_bnd (Q := fun (y z : Int32) => y = z) ?_ ?_
            · refine rl_if (fun c24 => ?_) (fun c24 => ?_)
              · have dc24 := tl_eq (rfl : TI p3 p3.toInt) tn_0 c24
                exact rl_some rfl
              · have dc24 := tl_ne (rfl : TI p3 p3.toInt) tn_0 c24
                refine rl_ltI (av_add i2 ix13 (by omega) (by omega)) (fun x44 ix44 => ?_)
                refine rl_dr (cx_U ts5_2) ⟨rfl, rfl⟩ (fun gb45 => ?_)
                refine rl_chk (chkl (cx_U ts5_2) gb45) (fun k25 => ?_)
                refine rl_rd (wg_use (wT_s5_2 (by omega)) ix44 (s5_1.toInt) (by omega) (by omega) (by (try dsimp only) <;> omega)) (fun x46 => ?_)
                refine rl_ltA (fun x47 => ?_)
                refine rl_ltA (fun x48 => ?_)
                refine rl_ltA (fun x49 => ?_)
                exact rl_some rfl
            · rintro y39 y39r ey39
              obtain rfl : y39 = y39r := ey39
              refine rl_dr (cx_U ts5_2) ⟨rfl, rfl⟩ (fun gb40 => ?_)
              refine rl_chk (chkl (cx_U ts5_2) gb40) (fun k26 => ?_)
              refine rl_w (κ := 144) (cx_U ts5_2) (by rcases hc1 with h | h <;> omega) (fun M41 M41r uM41 AM41 nM41 => ?_)
              have tM41 := cx_up ts5_2 uM41
              have wW_M41 := wq_up uM41 wW_s5_2
              have wT_M41 := fun h => wg_up uM41 (wT_s5_2 h)
              have wm_M41 := wg_up uM41 wm_s5_2
              have wG_M41 := wg_up uM41 vG_s5_2
              refine rl_ltI (av_add is5_1 tn_1 (by omega) (by omega)) (fun x42 ix42 => ?_)
              exact rl_inl ⟨rfl, (ti_bd ix42 (by omega) (by omega)), (up_tr us5_2 uM41), (wg_ext wG_M41 ix38 (ag_up (up_0 mu (κ := 144) _ _) AM41) (by (try dsimp only) <;> omega) (by have q : _ = _ := ix42; (try dsimp only) <;> omega))⟩
      · exact ⟨rfl, (ti_bd tn_0 (by omega) (by omega)), (up_0 mu (κ := 144) _ _), (wg_0 (by have q : _ = _ := tn_0; (try dsimp only) <;> omega))⟩
      · rintro ⟨y4_1, y4_2⟩ ⟨y4_1r, y4_2r⟩ ⟨ey4_1, ly4_1, uy4_2, vG_y4_2⟩
        obtain rfl : y4_1 = y4_1r := ey4_1
        have ly4_1 : 0 ≤ y4_1.toInt ∧ y4_1.toInt ≤ (8 * 8) := ly4_1
        have iy4_1 : TI y4_1 y4_1.toInt := rfl
        have uy4_2 : Up mu 144 y1_2 y1_2r y4_2 y4_2r := uy4_2
        have ty4_2 := cx_up ty1_2 uy4_2
        have wW_y4_2 := wq_up uy4_2 wW_y1_2
        have wT_y4_2 := fun h => wg_up uy4_2 (wT_y1_2 h)
        have wm_y4_2 := wg_up uy4_2 vm_y1_2
        have vG_y4_2 : WG mu y4_2 y4_2r c1 (0) (8 * 8) (fun j => a2 + j / 8 * 16 + j % 8) := vG_y4_2
        exact rl_some ⟨(up_tr uy1_2 uy4_2), vG_y4_2⟩
  · refine rl_bnd (Q := fun (y z : Int32 × DD) => y.1 = z.1 ∧ (0 ≤ y.1.toInt ∧ y.1.toInt ≤ (16 * (16 + 5))) ∧ Up mu 144 M N y.2 z.2 ∧ WG mu y.2 z.2 143 (0) (16 * (16 + 5)) (fun j => j / 16 * 16 + j % 16)) (rl_itr (fun (y z : Int32 × DD) => y.1 = z.1 ∧ (0 ≤ y.1.toInt ∧ y.1.toInt ≤ (16 * (16 + 5))) ∧ Up mu 144 M N y.2 z.2 ∧ WG mu y.2 z.2 143 (0) (y.1.toInt) (fun j => j / 16 * 16 + j % 16)) _ ?_ _ _ _ ?_) ?_
    · rintro ⟨s2_1, s2_2⟩ ⟨s2_1r, s2_2r⟩ ⟨es2_1, ls2_1, us2_2, vm_s2_2⟩
      obtain rfl : s2_1 = s2_1r := es2_1
      have ls2_1 : 0 ≤ s2_1.toInt ∧ s2_1.toInt ≤ (16 * (16 + 5)) := ls2_1
      have is2_1 : TI s2_1 s2_1.toInt := rfl
      have us2_2 : Up mu 144 M N s2_2 s2_2r := us2_2
      have ts2_2 := cx_up t us2_2
      have wW_s2_2 := wq_up us2_2 hW
      have wT_s2_2 := fun h => wg_up us2_2 (hT h)
      have vm_s2_2 : WG mu s2_2 s2_2r 143 (0) (s2_1.toInt) (fun j => j / 16 * 16 + j % 16) := vm_s2_2
      refine rl_ltI (av_add i0 tn_5 (by omega) (by omega)) (fun x54 ix54 => ?_)
      refine rl_ltI (av_mul i0 ix54 (by omega) (by omega)) (fun x55 ix55 => ?_)
      refine rl_if (fun c1 => ?_) (fun c1 => ?_)
      · have dc1 := tl_le ix55 is2_1 c1
        exact rl_inr ⟨rfl, (ti_bd is2_1 (by omega) (by omega)), us2_2, (wg_sub vm_s2_2 (by omega) (by omega))⟩
      · have dc1 := tl_nle ix55 is2_1 c1
        refine rl_chk (fun h => h) (fun k2 => ?_)
        refine rl_ltI (av_div is2_1 i0 (by omega) (by omega)) (fun x57 ix57 => ?_)
        refine rl_ltI (av_mul ix57 tn_21 (by omega) (by omega)) (fun x58 ix58 => ?_)
        refine rl_chk (fun h => h) (fun k3 => ?_)
        refine rl_ltI (av_mod is2_1 i0 (by omega) (by omega)) (fun x59 ix59 => ?_)
        refine rl_ltI (av_add ix58 ix59 (by omega) (by omega)) (fun x60 ix60 => ?_)
        refine rl_chk (fun h => h) (fun k4 => ?_)
        refine rl_ltI (av_div is2_1 i0 (by omega) (by omega)) (fun x61 ix61 => ?_)
        refine rl_ltI (av_mul ix61 tn_16 (by omega) (by omega)) (fun x62 ix62 => ?_)
        refine rl_chk (fun h => h) (fun k5 => ?_)
        refine rl_ltI (av_mod is2_1 i0 (by omega) (by omega)) (fun x63 ix63 => ?_)
        refine rl_ltI (av_add ix62 ix63 (by omega) (by omega)) (fun x64 ix64 => ?_)
        refine rl_dr (cx_U ts2_2) (rx_c (a := 138) (k := 3) (b := 142) t (Or.inr (Or.inl rfl)) rfl (by decide)) (fun gb65 => ?_)
        refine rl_chk (chkl (cx_U ts2_2) gb65) (fun k6 => ?_)
        refine rl_rd (wq_use wW_s2_2 ix60 (s2_1.toInt / 16) (s2_1.toInt % 16 + 0) (by omega) (by omega) (by omega) (by omega) (by (try dsimp only) <;> omega)) (fun x66 => ?_)
        refine rl_ltI (av_add ix60 tn_1 (by omega) (by omega)) (fun x67 ix67 => ?_)
        refine rl_chk (chkl (cx_U ts2_2) gb65) (fun k7 => ?_)
        refine rl_rd (wq_use wW_s2_2 ix67 (s2_1.toInt / 16) (s2_1.toInt % 16 + 1) (by omega) (by omega) (by omega) (by omega) (by (try dsimp only) <;> omega)) (fun x68 => ?_)
        refine rl_ltA (fun x69 => ?_)
        refine rl_ltA (fun x70 => ?_)
        refine rl_ltI (av_add ix60 tn_2 (by omega) (by omega)) (fun x71 ix71 => ?_)
        refine rl_chk (chkl (cx_U ts2_2) gb65) (fun k8 => ?_)
        refine rl_rd (wq_use wW_s2_2 ix71 (s2_1.toInt / 16) (s2_1.toInt % 16 + 2) (by omega) (by omega) (by omega) (by omega) (by (try dsimp only) <;> omega)) (fun x72 => ?_)
        refine rl_ltA (fun x73 => ?_)
        refine rl_ltA (fun x74 => ?_)
        refine rl_ltI (av_add ix60 tn_3 (by omega) (by omega)) (fun x75 ix75 => ?_)
        refine rl_chk (chkl (cx_U ts2_2) gb65) (fun k9 => ?_)
        refine rl_rd (wq_use wW_s2_2 ix75 (s2_1.toInt / 16) (s2_1.toInt % 16 + 3) (by omega) (by omega) (by omega) (by omega) (by (try dsimp only) <;> omega)) (fun x76 => ?_)
        refine rl_ltA (fun x77 => ?_)
        refine rl_ltA (fun x78 => ?_)
        refine rl_ltI (av_add ix60 tn_4 (by omega) (by omega)) (fun x79 ix79 => ?_)
        refine rl_chk (chkl (cx_U ts2_2) gb65) (fun k10 => ?_)
        refine rl_rd (wq_use wW_s2_2 ix79 (s2_1.toInt / 16) (s2_1.toInt % 16 + 4) (by omega) (by omega) (by omega) (by omega) (by (try dsimp only) <;> omega)) (fun x80 => ?_)
        refine rl_ltA (fun x81 => ?_)
        refine rl_ltA (fun x82 => ?_)
        refine rl_ltI (av_add ix60 tn_5 (by omega) (by omega)) (fun x83 ix83 => ?_)
        refine rl_chk (chkl (cx_U ts2_2) gb65) (fun k11 => ?_)
        refine rl_rd (wq_use wW_s2_2 ix83 (s2_1.toInt / 16) (s2_1.toInt % 16 + 5) (by omega) (by omega) (by omega) (by omega) (by (try dsimp only) <;> omega)) (fun x84 => ?_)
        refine rl_ltA (fun x85 => ?_)
        refine rl_dr (cx_U ts2_2) (rx_c (a := 138) (k := 4) (b := 143) ts2_2 (Or.inr (Or.inl rfl)) rfl (by decide)) (fun gb86 => ?_)
        refine rl_chk (chkl (cx_U ts2_2) gb86) (fun k12 => ?_)
        refine rl_w (κ := 144) (cx_U ts2_2) (by decide) (fun M87 M87r uM87 AM87 nM87 => ?_)
        have tM87 := cx_up ts2_2 uM87
        have wW_M87 := wq_up uM87 wW_s2_2
        have wT_M87 := fun h => wg_up uM87 (wT_s2_2 h)
        have wm_M87 := wg_up uM87 vm_s2_2
        refine rl_ltI (av_add is2_1 tn_1 (by omega) (by omega)) (fun x88 ix88 => ?_)
        exact rl_inl ⟨rfl, (ti_bd ix88 (by omega) (by omega)), (up_tr us2_2 uM87), (wg_ext wm_M87 ix64 (ag_up (up_0 mu (κ := 144) _ _) AM87) (by (try dsimp only) <;> omega) (by have q : _ = _ := ix88; (try dsimp only) <;> omega))⟩
    · exact ⟨rfl, (ti_bd tn_0 (by omega) (by omega)), (up_0 mu (κ := 144) _ _), (wg_0 (by have q : _ = _ := tn_0; (try dsimp only) <;> omega))⟩
    · rintro ⟨y1_1, y1_2⟩ ⟨y1_1r, y1_2r⟩ ⟨ey1_1, ly1_1, uy1_2, vm_y1_2⟩
      obtain rfl : y1_1 = y1_1r := ey1_1
      have ly1_1 : 0 ≤ y1_1.toInt ∧ y1_1.toInt ≤ (16 * (16 + 5)) := ly1_1
      have iy1_1 : TI y1_1 y1_1.toInt := rfl
      have uy1_2 : Up mu 144 M N y1_2 y1_2r := uy1_2
      have ty1_2 := cx_up t uy1_2
      have wW_y1_2 := wq_up uy1_2 hW
      have wT_y1_2 := fun h => wg_up uy1_2 (hT h)
      have vm_y1_2 : WG mu y1_2 y1_2r 143 (0) (16 * (16 + 5)) (fun j => j / 16 * 16 + j % 16) := vm_y1_2
      refine rl_bnd (Q := fun (y z : Int32 × DD) => y.1 = z.1 ∧ (0 ≤ y.1.toInt ∧ y.1.toInt ≤ (16 * 16)) ∧ Up mu 144 y1_2 y1_2r y.2 z.2 ∧ WG mu y.2 z.2 c1 (0) (16 * 16) (fun j => a2 + j / 16 * 16 + j % 16)) (rl_itr (fun (y z : Int32 × DD) => y.1 = z.1 ∧ (0 ≤ y.1.toInt ∧ y.1.toInt ≤ (16 * 16)) ∧ Up mu 144 y1_2 y1_2r y.2 z.2 ∧ WG mu y.2 z.2 c1 (0) (y.1.toInt) (fun j => a2 + j / 16 * 16 + j % 16)) _ ?_ _ _ _ ?_) ?_
      · rintro ⟨s5_1, s5_2⟩ ⟨s5_1r, s5_2r⟩ ⟨es5_1, ls5_1, us5_2, vG_s5_2⟩
        obtain rfl : s5_1 = s5_1r := es5_1
        have ls5_1 : 0 ≤ s5_1.toInt ∧ s5_1.toInt ≤ (16 * 16) := ls5_1
        have is5_1 : TI s5_1 s5_1.toInt := rfl
        have us5_2 : Up mu 144 y1_2 y1_2r s5_2 s5_2r := us5_2
        have ts5_2 := cx_up ty1_2 us5_2
        have wW_s5_2 := wq_up us5_2 wW_y1_2
        have wT_s5_2 := fun h => wg_up us5_2 (wT_y1_2 h)
        have wm_s5_2 := wg_up us5_2 vm_y1_2
        have vG_s5_2 : WG mu s5_2 s5_2r c1 (0) (s5_1.toInt) (fun j => a2 + j / 16 * 16 + j % 16) := vG_s5_2
        refine rl_ltI (av_mul i0 i0 (by omega) (by omega)) (fun x8 ix8 => ?_)
        refine rl_if (fun c13 => ?_) (fun c13 => ?_)
        · have dc13 := tl_le ix8 is5_1 c13
          exact rl_inr ⟨rfl, (ti_bd is5_1 (by omega) (by omega)), us5_2, (wg_sub vG_s5_2 (by omega) (by omega))⟩
        · have dc13 := tl_nle ix8 is5_1 c13
          refine rl_chk (fun h => h) (fun k14 => ?_)
          refine rl_ltI (av_div is5_1 i0 (by omega) (by omega)) (fun x10 ix10 => ?_)
          refine rl_ltI (av_mul ix10 tn_16 (by omega) (by omega)) (fun x11 ix11 => ?_)
          refine rl_chk (fun h => h) (fun k15 => ?_)
          refine rl_ltI (av_mod is5_1 i0 (by omega) (by omega)) (fun x12 ix12 => ?_)
          refine rl_ltI (av_add ix11 ix12 (by omega) (by omega)) (fun x13 ix13 => ?_)
          refine rl_dr (cx_U ts5_2) (rx_c (a := 138) (k := 4) (b := 143) ty1_2 (Or.inr (Or.inl rfl)) rfl (by decide)) (fun gb14 => ?_)
          refine rl_chk (chkl (cx_U ts5_2) gb14) (fun k16 => ?_)
          refine rl_rd (wg_use wm_s5_2 ix13 ((s5_1.toInt / 16 + 0) * 16 + s5_1.toInt % 16) (by omega) (by omega) (by (try dsimp only) <;> omega)) (fun x15 => ?_)
          refine rl_ltI (av_add ix13 tn_16 (by omega) (by omega)) (fun x16 ix16 => ?_)
          refine rl_chk (chkl (cx_U ts5_2) gb14) (fun k17 => ?_)
          refine rl_rd (wg_use wm_s5_2 ix16 ((s5_1.toInt / 16 + 1) * 16 + s5_1.toInt % 16) (by omega) (by omega) (by (try dsimp only) <;> omega)) (fun x17 => ?_)
          refine rl_ltA (fun x18 => ?_)
          refine rl_ltA (fun x19 => ?_)
          refine rl_ltI (av_add ix13 tn_32 (by omega) (by omega)) (fun x20 ix20 => ?_)
          refine rl_chk (chkl (cx_U ts5_2) gb14) (fun k18 => ?_)
          refine rl_rd (wg_use wm_s5_2 ix20 ((s5_1.toInt / 16 + 2) * 16 + s5_1.toInt % 16) (by omega) (by omega) (by (try dsimp only) <;> omega)) (fun x21 => ?_)
          refine rl_ltA (fun x22 => ?_)
          refine rl_ltA (fun x23 => ?_)
          refine rl_ltI (av_add ix13 tn_48 (by omega) (by omega)) (fun x24 ix24 => ?_)
          refine rl_chk (chkl (cx_U ts5_2) gb14) (fun k19 => ?_)
          refine rl_rd (wg_use wm_s5_2 ix24 ((s5_1.toInt / 16 + 3) * 16 + s5_1.toInt % 16) (by omega) (by omega) (by (try dsimp only) <;> omega)) (fun x25 => ?_)
          refine rl_ltA (fun x26 => ?_)
          refine rl_ltA (fun x27 => ?_)
          refine rl_ltI (av_add ix13 tn_64 (by omega) (by omega)) (fun x28 ix28 => ?_)
          refine rl_chk (chkl (cx_U ts5_2) gb14) (fun k20 => ?_)
          refine rl_rd (wg_use wm_s5_2 ix28 ((s5_1.toInt / 16 + 4) * 16 + s5_1.toInt % 16) (by omega) (by omega) (by (try dsimp only) <;> omega)) (fun x29 => ?_)
          refine rl_ltA (fun x30 => ?_)
          refine rl_ltA (fun x31 => ?_)
          refine rl_ltI (av_add ix13 tn_80 (by omega) (by omega)) (fun x32 ix32 => ?_)
          refine rl_chk (chkl (cx_U ts5_2) gb14) (fun k21 => ?_)
          refine rl_rd (wg_use wm_s5_2 ix32 ((s5_1.toInt / 16 + 5) * 16 + s5_1.toInt % 16) (by omega) (by omega) (by (try dsimp only) <;> omega)) (fun x33 => ?_)
          refine rl_ltA (fun x34 => ?_)
          refine rl_ltA (fun x35 => ?_)
          refine rl_ltA (fun x36 => ?_)
          refine rl_bnd (Q := fun (y z : Int32) => y = z ∧ (0 ≤ y.toInt ∧ y.toInt ≤ 255)) ?_ ?_
          · refine rl_if (fun c22 => ?_) (fun c22 => ?_)
            · have dc22 := tl_le tn_0 (rfl : TI x36 x36.toInt) c22
              refine rl_bnd (Q := fun (y z : Int32) => y = z ∧ (0 ≤ y.toInt ∧ y.toInt ≤ 255)) ?_ ?_
              · refine rl_if (fun c23 => ?_) (fun c23 => ?_)
                · have dc23 := tl_le (rfl : TI x36 x36.toInt) tn_255 c23
                  exact rl_some ⟨rfl, (ti_bd (rfl : TI x36 x36.toInt) (by omega) (by omega))⟩
                · have dc23 := tl_nle (rfl : TI x36 x36.toInt) tn_255 c23
                  exact rl_some ⟨rfl, (ti_bd tn_255 (by omega) (by omega))⟩
              · rintro y51 y51r ⟨ey51, ly51⟩
                obtain rfl : y51 = y51r := ey51
                have ly51 : 0 ≤ y51.toInt ∧ y51.toInt ≤ 255 := ly51
                have iy51 : TI y51 y51.toInt := rfl
                exact rl_some ⟨rfl, (ti_bd iy51 (by omega) (by omega))⟩
            · have dc22 := tl_nle tn_0 (rfl : TI x36 x36.toInt) c22
              exact rl_some ⟨rfl, (ti_bd tn_0 (by omega) (by omega))⟩
          · rintro y37 y37r ⟨ey37, ly37⟩
            obtain rfl : y37 = y37r := ey37
            have ly37 : 0 ≤ y37.toInt ∧ y37.toInt ≤ 255 := ly37
            have iy37 : TI y37 y37.toInt := rfl
            refine rl_ltI (av_add i2 ix13 (by omega) (by omega)) (fun x38 ix38 => ?_)
            refine rl_bnd (Q := fun (y z : Int32) => y = z) ?_ ?_
            · refine rl_if (fun c24 => ?_) (fun c24 => ?_)
              · have dc24 := tl_eq (rfl : TI p3 p3.toInt) tn_0 c24
                exact rl_some rfl
              · have dc24 := tl_ne (rfl : TI p3 p3.toInt) tn_0 c24
                refine rl_ltI (av_add i2 ix13 (by omega) (by omega)) (fun x44 ix44 => ?_)
                refine rl_dr (cx_U ts5_2) ⟨rfl, rfl⟩ (fun gb45 => ?_)
                refine rl_chk (chkl (cx_U ts5_2) gb45) (fun k25 => ?_)
                refine rl_rd (wg_use (wT_s5_2 (by omega)) ix44 (s5_1.toInt) (by omega) (by omega) (by (try dsimp only) <;> omega)) (fun x46 => ?_)
                refine rl_ltA (fun x47 => ?_)
                refine rl_ltA (fun x48 => ?_)
                refine rl_ltA (fun x49 => ?_)
                exact rl_some rfl
            · rintro y39 y39r ey39
              obtain rfl : y39 = y39r := ey39
              refine rl_dr (cx_U ts5_2) ⟨rfl, rfl⟩ (fun gb40 => ?_)
              refine rl_chk (chkl (cx_U ts5_2) gb40) (fun k26 => ?_)
              refine rl_w (κ := 144) (cx_U ts5_2) (by rcases hc1 with h | h <;> omega) (fun M41 M41r uM41 AM41 nM41 => ?_)
              have tM41 := cx_up ts5_2 uM41
              have wW_M41 := wq_up uM41 wW_s5_2
              have wT_M41 := fun h => wg_up uM41 (wT_s5_2 h)
              have wm_M41 := wg_up uM41 wm_s5_2
              have wG_M41 := wg_up uM41 vG_s5_2
              refine rl_ltI (av_add is5_1 tn_1 (by omega) (by omega)) (fun x42 ix42 => ?_)
              exact rl_inl ⟨rfl, (ti_bd ix42 (by omega) (by omega)), (up_tr us5_2 uM41), (wg_ext wG_M41 ix38 (ag_up (up_0 mu (κ := 144) _ _) AM41) (by (try dsimp only) <;> omega) (by have q : _ = _ := ix42; (try dsimp only) <;> omega))⟩
      · exact ⟨rfl, (ti_bd tn_0 (by omega) (by omega)), (up_0 mu (κ := 144) _ _), (wg_0 (by have q : _ = _ := tn_0; (try dsimp only) <;> omega))⟩
      · rintro ⟨y4_1, y4_2⟩ ⟨y4_1r, y4_2r⟩ ⟨ey4_1, ly4_1, uy4_2, vG_y4_2⟩
        obtain rfl : y4_1 = y4_1r := ey4_1
        have ly4_1 : 0 ≤ y4_1.toInt ∧ y4_1.toInt ≤ (16 * 16) := ly4_1
        have iy4_1 : TI y4_1 y4_1.toInt := rfl
        have uy4_2 : Up mu 144 y1_2 y1_2r y4_2 y4_2r := uy4_2
        have ty4_2 := cx_up ty1_2 uy4_2
        have wW_y4_2 := wq_up uy4_2 wW_y1_2
        have wT_y4_2 := fun h => wg_up uy4_2 (wT_y1_2 h)
        have wm_y4_2 := wg_up uy4_2 vm_y1_2
        have vG_y4_2 : WG mu y4_2 y4_2r c1 (0) (16 * 16) (fun j => a2 + j / 16 * 16 + j % 16) := vG_y4_2
        exact rl_some ⟨(up_tr uy1_2 uy4_2), vG_y4_2⟩
theorem r_predictLuma {mu : Nat → Nat} {G H : GG} {M N : DD} {p : Nat} {L : List Nat} (t : CX mu G H M N p L) {p0 p0r : Option Nat} {q0 : Nat} (e0 : p0 = some q0 ∧ p0r = some (mu q0)) (hq0 : q0 ∈ L) {p1 : Int32} {a1 : Int} (i1 : TI p1 a1) {p2 : Int32} {a2 : Int} (i2 : TI p2 a2) {p3 : Int32} {a3 : Int} (i3 : TI p3 a3) {p4 p4r : Option Nat} {c4 : Nat} (e4 : p4 = some c4 ∧ p4r = some (mu c4)) (hc4 : c4 = 140 ∨ c4 = 141) {p5 : Int32} {a5 : Int} (i5 : TI p5 a5) (h0 : a3 = 4 ∨ a3 = 8 ∨ a3 = 16) (h1 : 0 ≤ a5) (h2 : a5 ≤ 383) : LKS (FX6_predictLuma G M 138 p0 p1 p2 p3 p4 p5) (FX6_predictLuma H N (mu 138) p0r p1 p2 p3 p4r p5) (fun y z => Up mu 144 M N y z ∧ WG mu y z c4 0 (a3 * a3) (fun j => a5 + j / a3 * 16 + j % a3)) := by
  unfold FX6_predictLuma
  obtain ⟨rfl, rfl⟩ := e0
  have r1 := i32_b i1
  have r2 := i32_b i2
  obtain ⟨rfl, rfl⟩ := e4
  rcases h0 with rfl | rfl | rfl
  · refine rl_ltI (av_and 2 i1 (by decide) (by decide)) (fun x1 ix1 => ?_)
    have zx1 : x1.toInt = _ := ix1
    rcases (by omega : x1.toInt = 0 ∨ x1.toInt = 1 ∨ x1.toInt = 2 ∨ x1.toInt = 3) with yx1 | yx1 | yx1 | yx1
    · clear ix1 zx1
      have ix1 : TI x1 0 := yx1
      refine rl_ltI (av_and 2 i2 (by decide) (by decide)) (fun x2 ix2 => ?_)
      have zx2 : x2.toInt = _ := ix2
      rcases (by omega : x2.toInt = 0 ∨ x2.toInt = 1 ∨ x2.toInt = 2 ∨ x2.toInt = 3) with yx2 | yx2 | yx2 | yx2
      · clear ix2 zx2
        have ix2 : TI x2 0 := yx2
        refine rl_ltI (av_sar 2 i1 (by decide)) (fun x3 ix3 => ?_)
        refine rl_ltI (av_sub ix3 tn_2 (by omega) (by omega)) (fun x4 ix4 => ?_)
        refine rl_ltI (av_sar 2 i2 (by decide)) (fun x5 ix5 => ?_)
        refine rl_ltI (av_sub ix5 tn_2 (by omega) (by omega)) (fun x6 ix6 => ?_)
        refine rl_ltI (av_add i3 tn_5 (by omega) (by omega)) (fun x7 ix7 => ?_)
        refine rl_bnd (r_fillWindow t ⟨rfl, rfl⟩ hq0 ix7 (by omega) (by omega)) ?_
        rintro y8 y8r ⟨uy8', vW_y8⟩
        have uy8 : Up mu 144 M N y8 y8r := uy8'
        have ty8 := cx_up t uy8
        refine rl_bnd (Q := fun (y z : Int32 × DD) => y.1 = z.1 ∧ (1 ≤ y.1.toInt ∧ y.1.toInt ≤ 1) ∧ Up mu 144 y8 y8r y.2 z.2 ∧ WG mu y.2 z.2 c4 0 (4 * 4) (fun j => a5 + j / 4 * 16 + j % 4)) ?_ ?_
        · refine rl_if (fun c1 => ?_) (fun c1 => ?_)
          · have dc1 := tl_eq ix2 tn_0 c1
            refine rl_bnd (Q := fun (y z : Int32 × DD) => y.1 = z.1 ∧ (1 ≤ y.1.toInt ∧ y.1.toInt ≤ 1) ∧ Up mu 144 y8 y8r y.2 z.2 ∧ WG mu y.2 z.2 c4 0 (4 * 4) (fun j => a5 + j / 4 * 16 + j % 4)) ?_ ?_
            · refine rl_if (fun c2 => ?_) (fun c2 => ?_)
              · have dc2 := tl_eq ix1 tn_2 c2
                exfalso
                omega
              · refine rl_bnd (Q := fun (y z : Int32) => y = z ∧ (0 ≤ y.toInt ∧ y.toInt ≤ 0)) ?_ ?_
                · refine rl_if (fun c3 => ?_) (fun c3 => ?_)
                  · have dc3 := tl_eq ix2 tn_3 c3
                    exfalso
                    omega
                  · exact rl_some ⟨rfl, (ti_bd tn_0 (by omega) (by omega))⟩
                · rintro y77 y77r ⟨ey77, ly77⟩
                  obtain rfl : y77 = y77r := ey77
                  have ly77 : 0 ≤ y77.toInt ∧ y77.toInt ≤ 0 := ly77
                  have iy77 : TI y77 (0) := ti_c ly77
                  have ky77 : y77.toInt = _ := iy77
                  refine rl_ltI (av_add tn_2 iy77 (by omega) (by omega)) (fun x78 ix78 => ?_)
                  refine rl_ltI (av_mul ix78 tn_21 (by omega) (by omega)) (fun x79 ix79 => ?_)
                  refine rl_ltI (av_add ix79 tn_2 (by omega) (by omega)) (fun x80 ix80 => ?_)
                  refine rl_bnd (Q := fun (y z : Int32) => y = z ∧ (0 ≤ y.toInt ∧ y.toInt ≤ 0)) ?_ ?_
                  · refine rl_if (fun c4 => ?_) (fun c4 => ?_)
                    · have dc4 := tl_eq ix1 tn_3 c4
                      exfalso
                      omega
                    · exact rl_some ⟨rfl, (ti_bd tn_0 (by omega) (by omega))⟩
                  · rintro y81 y81r ⟨ey81, ly81⟩
                    obtain rfl : y81 = y81r := ey81
                    have ly81 : 0 ≤ y81.toInt ∧ y81.toInt ≤ 0 := ly81
                    have iy81 : TI y81 (0) := ti_c ly81
                    have ky81 : y81.toInt = _ := iy81
                    refine rl_ltI (av_add ix80 iy81 (by omega) (by omega)) (fun x82 ix82 => ?_)
                    refine rl_bnd (Q := fun (y z : Int32 × DD) => y.1 = z.1 ∧ (0 ≤ y.1.toInt ∧ y.1.toInt ≤ (4 * 4)) ∧ Up mu 144 y8 y8r y.2 z.2 ∧ WG mu y.2 z.2 c4 (0) (4 * 4) (fun j => a5 + j / 4 * 16 + j % 4)) (rl_itr (fun (y z : Int32 × DD) => y.1 = z.1 ∧ (0 ≤ y.1.toInt ∧ y.1.toInt ≤ (4 * 4)) ∧ Up mu 144 y8 y8r y.2 z.2 ∧ WG mu y.2 z.2 c4 (0) (y.1.toInt) (fun j => a5 + j / 4 * 16 + j % 4)) _ ?_ _ _ _ ?_) ?_
                    · rintro ⟨s84_1, s84_2⟩ ⟨s84_1r, s84_2r⟩ ⟨es84_1, ls84_1, us84_2, vT_s84_2⟩
                      obtain rfl : s84_1 = s84_1r := es84_1
                      have ls84_1 : 0 ≤ s84_1.toInt ∧ s84_1.toInt ≤ (4 * 4) := ls84_1
                      have is84_1 : TI s84_1 s84_1.toInt := rfl
                      have us84_2 : Up mu 144 y8 y8r s84_2 s84_2r := us84_2
                      have ts84_2 := cx_up ty8 us84_2
                      have wW_s84_2 := wq_up us84_2 vW_y8
                      have vT_s84_2 : WG mu s84_2 s84_2r c4 (0) (s84_1.toInt) (fun j => a5 + j / 4 * 16 + j % 4) := vT_s84_2
                      refine rl_ltI (av_mul i3 i3 (by omega) (by omega)) (fun x87 ix87 => ?_)
                      refine rl_if (fun c5 => ?_) (fun c5 => ?_)
                      · have dc5 := tl_le ix87 is84_1 c5
                        exact rl_inr ⟨rfl, (ti_bd is84_1 (by omega) (by omega)), us84_2, (wg_sub vT_s84_2 (by omega) (by omega))⟩
                      · have dc5 := tl_nle ix87 is84_1 c5
                        refine rl_chk (fun h => h) (fun k6 => ?_)
                        refine rl_ltI (av_div is84_1 i3 (by omega) (by omega)) (fun x89 ix89 => ?_)
                        refine rl_ltI (av_mul ix89 tn_16 (by omega) (by omega)) (fun x90 ix90 => ?_)
                        refine rl_ltI (av_add i5 ix90 (by omega) (by omega)) (fun x91 ix91 => ?_)
                        refine rl_chk (fun h => h) (fun k7 => ?_)
                        refine rl_ltI (av_mod is84_1 i3 (by omega) (by omega)) (fun x92 ix92 => ?_)
                        refine rl_ltI (av_add ix91 ix92 (by omega) (by omega)) (fun x93 ix93 => ?_)
                        refine rl_chk (fun h => h) (fun k8 => ?_)
                        refine rl_ltI (av_div is84_1 i3 (by omega) (by omega)) (fun x94 ix94 => ?_)
                        refine rl_ltI (av_mul ix94 tn_21 (by omega) (by omega)) (fun x95 ix95 => ?_)
                        refine rl_ltI (av_add ix82 ix95 (by omega) (by omega)) (fun x96 ix96 => ?_)
                        refine rl_chk (fun h => h) (fun k9 => ?_)
                        refine rl_ltI (av_mod is84_1 i3 (by omega) (by omega)) (fun x97 ix97 => ?_)
                        refine rl_ltI (av_add ix96 ix97 (by omega) (by omega)) (fun x98 ix98 => ?_)
                        refine rl_dr (cx_U ts84_2) (rx_c (a := 138) (k := 3) (b := 142) ts84_2 (Or.inr (Or.inl rfl)) rfl (by decide)) (fun gb99 => ?_)
                        refine rl_chk (chkl (cx_U ts84_2) gb99) (fun k10 => ?_)
                        refine rl_rd (wq_use wW_s84_2 ix98 (s84_1.toInt / 4 + 2 + y77.toInt) (s84_1.toInt % 4 + 2 + y81.toInt) (by omega) (by omega) (by omega) (by omega) (by (try dsimp only) <;> omega)) (fun x100 => ?_)
                        refine rl_dr (cx_U ts84_2) ⟨rfl, rfl⟩ (fun gb101 => ?_)
                        refine rl_chk (chkl (cx_U ts84_2) gb101) (fun k11 => ?_)
                        refine rl_w (κ := 144) (cx_U ts84_2) (by rcases hc4 with h | h <;> omega) (fun M102 M102r uM102 AM102 nM102 => ?_)
                        have tM102 := cx_up ts84_2 uM102
                        have wW_M102 := wq_up uM102 wW_s84_2
                        have wT_M102 := wg_up uM102 vT_s84_2
                        refine rl_ltI (av_add is84_1 tn_1 (by omega) (by omega)) (fun x103 ix103 => ?_)
                        exact rl_inl ⟨rfl, (ti_bd ix103 (by omega) (by omega)), (up_tr us84_2 uM102), (wg_ext wT_M102 ix93 (ag_up (up_0 mu (κ := 144) _ _) AM102) (by (try dsimp only) <;> omega) (by have q : _ = _ := ix103; (try dsimp only) <;> omega))⟩
                    · exact ⟨rfl, (ti_bd tn_0 (by omega) (by omega)), (up_0 mu (κ := 144) _ _), (wg_0 (by have q : _ = _ := tn_0; (try dsimp only) <;> omega))⟩
                    · rintro ⟨y83_1, y83_2⟩ ⟨y83_1r, y83_2r⟩ ⟨ey83_1, ly83_1, uy83_2, vT_y83_2⟩
                      obtain rfl : y83_1 = y83_1r := ey83_1
                      have ly83_1 : 0 ≤ y83_1.toInt ∧ y83_1.toInt ≤ (4 * 4) := ly83_1
                      have iy83_1 : TI y83_1 y83_1.toInt := rfl
                      have uy83_2 : Up mu 144 y8 y8r y83_2 y83_2r := uy83_2
                      have ty83_2 := cx_up ty8 uy83_2
                      have wW_y83_2 := wq_up uy83_2 vW_y8
                      have vT_y83_2 : WG mu y83_2 y83_2r c4 (0) (4 * 4) (fun j => a5 + j / 4 * 16 + j % 4) := vT_y83_2
                      exact rl_some ⟨rfl, (ti_bd tn_1 (by omega) (by omega)), uy83_2, vT_y83_2⟩
            · rintro ⟨y75_1, y75_2⟩ ⟨y75_1r, y75_2r⟩ ⟨ey75_1, ly75_1, uy75_2, wT_y75_2⟩
              obtain rfl : y75_1 = y75_1r := ey75_1
              have ly75_1 : 1 ≤ y75_1.toInt ∧ y75_1.toInt ≤ 1 := ly75_1
              have iy75_1 : TI y75_1 (1) := ti_c ly75_1
              have uy75_2 : Up mu 144 y8 y8r y75_2 y75_2r := uy75_2
              have ty75_2 := cx_up ty8 uy75_2
              have wW_y75_2 := wq_up uy75_2 vW_y8
              have wT_y75_2 : WG mu y75_2 y75_2r c4 0 (4 * 4) (fun j => a5 + j / 4 * 16 + j % 4) := wT_y75_2
              exact rl_some ⟨rfl, (ti_bd iy75_1 (by omega) (by omega)), uy75_2, wT_y75_2⟩
          · have dc1 := tl_ne ix2 tn_0 c1
            exfalso
            omega
        · rintro ⟨y9_1, y9_2⟩ ⟨y9_1r, y9_2r⟩ ⟨ey9_1, ly9_1, uy9_2, wT_y9_2⟩
          obtain rfl : y9_1 = y9_1r := ey9_1
          have ly9_1 : 1 ≤ y9_1.toInt ∧ y9_1.toInt ≤ 1 := ly9_1
          have iy9_1 : TI y9_1 (1) := ti_c ly9_1
          have uy9_2 : Up mu 144 y8 y8r y9_2 y9_2r := uy9_2
          have ty9_2 := cx_up ty8 uy9_2
          have wW_y9_2 := wq_up uy9_2 vW_y8
          have wT_y9_2 : WG mu y9_2 y9_2r c4 0 (4 * 4) (fun j => a5 + j / 4 * 16 + j % 4) := wT_y9_2
          refine rl_bnd (Q := fun (y z : Int32 × DD) => y.1 = z.1 ∧ (1 ≤ y.1.toInt ∧ y.1.toInt ≤ 1) ∧ Up mu 144 y9_2 y9_2r y.2 z.2) ?_ ?_
          · refine rl_if (fun c12 => ?_) (fun c12 => ?_)
            · have dc12 := tl_eq ix1 tn_0 c12
              exact rl_some ⟨rfl, (ti_bd iy9_1 (by omega) (by omega)), (up_0 mu (κ := 144) _ _)⟩
            · have dc12 := tl_ne ix1 tn_0 c12
              exfalso
              omega
          · rintro ⟨y10_1, y10_2⟩ ⟨y10_1r, y10_2r⟩ ⟨ey10_1, ly10_1, uy10_2⟩
            obtain rfl : y10_1 = y10_1r := ey10_1
            have ly10_1 : 1 ≤ y10_1.toInt ∧ y10_1.toInt ≤ 1 := ly10_1
            have iy10_1 : TI y10_1 (1) := ti_c ly10_1
            have uy10_2 : Up mu 144 y9_2 y9_2r y10_2 y10_2r := uy10_2
            have ty10_2 := cx_up ty9_2 uy10_2
            have wW_y10_2 := wq_up uy10_2 wW_y9_2
            have wT_y10_2 := wg_up uy10_2 wT_y9_2
            refine rl_bnd (Q := fun (y z : Int32 × DD) => y.1 = z.1 ∧ (1 ≤ y.1.toInt ∧ y.1.toInt ≤ 1) ∧ Up mu 144 y10_2 y10_2r y.2 z.2) ?_ ?_
            · refine rl_if (fun c13 => ?_) (fun c13 => ?_)
              · have dc13 := tl_eq ix2 tn_0 c13
                exact rl_some ⟨rfl, (ti_bd iy10_1 (by omega) (by omega)), (up_0 mu (κ := 144) _ _)⟩
              · have dc13 := tl_ne ix2 tn_0 c13
                exfalso
                omega
            · rintro ⟨y11_1, y11_2⟩ ⟨y11_1r, y11_2r⟩ ⟨ey11_1, ly11_1, uy11_2⟩
              obtain rfl : y11_1 = y11_1r := ey11_1
              have ly11_1 : 1 ≤ y11_1.toInt ∧ y11_1.toInt ≤ 1 := ly11_1
              have iy11_1 : TI y11_1 (1) := ti_c ly11_1
              have uy11_2 : Up mu 144 y10_2 y10_2r y11_2 y11_2r := uy11_2
              have ty11_2 := cx_up ty10_2 uy11_2
              have wW_y11_2 := wq_up uy11_2 wW_y10_2
              have wT_y11_2 := wg_up uy11_2 wT_y10_2
              refine rl_bnd (Q := fun (y z : DD) => Up mu 144 y11_2 y11_2r y z) ?_ ?_
              · refine rl_if (fun c14 => ?_) (fun c14 => ?_)
                · have dc14 := tl_eq ix1 tn_2 c14
                  exfalso
                  omega
                · refine rl_bnd (Q := fun (y z : DD) => Up mu 144 y11_2 y11_2r y z) ?_ ?_
                  · refine rl_if (fun c15 => ?_) (fun c15 => ?_)
                    · have dc15 := tl_eq ix2 tn_2 c15
                      exfalso
                      omega
                    · exact rl_some (up_0 mu (κ := 144) _ _)
                  · rintro y14 y14r uy14
                    have uy14 : Up mu 144 y11_2 y11_2r y14 y14r := uy14
                    have ty14 := cx_up ty11_2 uy14
                    have wW_y14 := wq_up uy14 wW_y11_2
                    have wT_y14 := wg_up uy14 wT_y11_2
                    exact rl_some uy14
              · rintro y12 y12r uy12
                have uy12 : Up mu 144 y11_2 y11_2r y12 y12r := uy12
                have ty12 := cx_up ty11_2 uy12
                have wW_y12 := wq_up uy12 wW_y11_2
                have wT_y12 := wg_up uy12 wT_y11_2
                exact rl_some ⟨(up_tr (up_tr (up_tr (up_tr uy8 uy9_2) uy10_2) uy11_2) uy12), wT_y12⟩
      · clear ix2 zx2
        have ix2 : TI x2 1 := yx2
        refine rl_ltI (av_sar 2 i1 (by decide)) (fun x3 ix3 => ?_)
        refine rl_ltI (av_sub ix3 tn_2 (by omega) (by omega)) (fun x4 ix4 => ?_)
        refine rl_ltI (av_sar 2 i2 (by decide)) (fun x5 ix5 => ?_)
        refine rl_ltI (av_sub ix5 tn_2 (by omega) (by omega)) (fun x6 ix6 => ?_)
        refine rl_ltI (av_add i3 tn_5 (by omega) (by omega)) (fun x7 ix7 => ?_)
        refine rl_bnd (r_fillWindow t ⟨rfl, rfl⟩ hq0 ix7 (by omega) (by omega)) ?_
        rintro y8 y8r ⟨uy8', vW_y8⟩
        have uy8 : Up mu 144 M N y8 y8r := uy8'
        have ty8 := cx_up t uy8
        refine rl_bnd (Q := fun (y z : Int32 × DD) => y.1 = z.1 ∧ (1 ≤ y.1.toInt ∧ y.1.toInt ≤ 1) ∧ Up mu 144 y8 y8r y.2 z.2 ∧ WG mu y.2 z.2 c4 0 (4 * 4) (fun j => a5 + j / 4 * 16 + j % 4)) ?_ ?_
        · refine rl_if (fun c16 => ?_) (fun c16 => ?_)
          · have dc16 := tl_eq ix2 tn_0 c16
            exfalso
            omega
          · refine rl_bnd (Q := fun (y z : Int32 × DD) => y.1 = z.1 ∧ (1 ≤ y.1.toInt ∧ y.1.toInt ≤ 1) ∧ Up mu 144 y8 y8r y.2 z.2 ∧ WG mu y.2 z.2 c4 0 (4 * 4) (fun j => a5 + j / 4 * 16 + j % 4)) ?_ ?_
            · refine rl_if (fun c17 => ?_) (fun c17 => ?_)
              · have dc17 := tl_eq ix1 tn_0 c17
                refine rl_bnd (Q := fun (y z : Int32 × DD) => y.1 = z.1 ∧ (1 ≤ y.1.toInt ∧ y.1.toInt ≤ 1) ∧ Up mu 144 y8 y8r y.2 z.2 ∧ WG mu y.2 z.2 c4 0 (4 * 4) (fun j => a5 + j / 4 * 16 + j % 4)) ?_ ?_
                · refine rl_if (fun c18 => ?_) (fun c18 => ?_)
                  · have dc18 := tl_eq ix2 tn_2 c18
                    exfalso
                    omega
                  · refine rl_bnd (Q := fun (y z : Int32) => y = z ∧ (0 ≤ y.toInt ∧ y.toInt ≤ 0)) ?_ ?_
                    · refine rl_if (fun c19 => ?_) (fun c19 => ?_)
                      · have dc19 := tl_eq ix2 tn_3 c19
                        exfalso
                        omega
                      · exact rl_some ⟨rfl, (ti_bd tn_0 (by omega) (by omega))⟩
                    · rintro y46 y46r ⟨ey46, ly46⟩
                      obtain rfl : y46 = y46r := ey46
                      have ly46 : 0 ≤ y46.toInt ∧ y46.toInt ≤ 0 := ly46
                      have iy46 : TI y46 (0) := ti_c ly46
                      have ky46 : y46.toInt = _ := iy46
                      refine rl_ltI (av_add tn_2 iy46 (by omega) (by omega)) (fun x47 ix47 => ?_)
                      refine rl_ltI (av_mul ix47 tn_21 (by omega) (by omega)) (fun x48 ix48 => ?_)
                      refine rl_ltI (av_add ix48 tn_2 (by omega) (by omega)) (fun x49 ix49 => ?_)
                      refine rl_bnd (Q := fun (y z : Int32) => y = z ∧ (0 ≤ y.toInt ∧ y.toInt ≤ 0)) ?_ ?_
                      · refine rl_if (fun c20 => ?_) (fun c20 => ?_)
                        · have dc20 := tl_eq ix1 tn_3 c20
                          exfalso
                          omega
                        · exact rl_some ⟨rfl, (ti_bd tn_0 (by omega) (by omega))⟩
                      · rintro y50 y50r ⟨ey50, ly50⟩
                        obtain rfl : y50 = y50r := ey50
                        have ly50 : 0 ≤ y50.toInt ∧ y50.toInt ≤ 0 := ly50
                        have iy50 : TI y50 (0) := ti_c ly50
                        have ky50 : y50.toInt = _ := iy50
                        refine rl_ltI (av_add ix49 iy50 (by omega) (by omega)) (fun x51 ix51 => ?_)
                        refine rl_bnd (Q := fun (y z : Int32 × DD) => y.1 = z.1 ∧ (0 ≤ y.1.toInt ∧ y.1.toInt ≤ (4 * 4)) ∧ Up mu 144 y8 y8r y.2 z.2 ∧ WG mu y.2 z.2 c4 (0) (4 * 4) (fun j => a5 + j / 4 * 16 + j % 4)) (rl_itr (fun (y z : Int32 × DD) => y.1 = z.1 ∧ (0 ≤ y.1.toInt ∧ y.1.toInt ≤ (4 * 4)) ∧ Up mu 144 y8 y8r y.2 z.2 ∧ WG mu y.2 z.2 c4 (0) (y.1.toInt) (fun j => a5 + j / 4 * 16 + j % 4)) _ ?_ _ _ _ ?_) ?_
                        · rintro ⟨s53_1, s53_2⟩ ⟨s53_1r, s53_2r⟩ ⟨es53_1, ls53_1, us53_2, vT_s53_2⟩
                          obtain rfl : s53_1 = s53_1r := es53_1
                          have ls53_1 : 0 ≤ s53_1.toInt ∧ s53_1.toInt ≤ (4 * 4) := ls53_1
                          have is53_1 : TI s53_1 s53_1.toInt := rfl
                          have us53_2 : Up mu 144 y8 y8r s53_2 s53_2r := us53_2
                          have ts53_2 := cx_up ty8 us53_2
                          have wW_s53_2 := wq_up us53_2 vW_y8
                          have vT_s53_2 : WG mu s53_2 s53_2r c4 (0) (s53_1.toInt) (fun j => a5 + j / 4 * 16 + j % 4) := vT_s53_2
                          refine rl_ltI (av_mul i3 i3 (by omega) (by omega)) (fun x56 ix56 => ?_)
                          refine rl_if (fun c21 => ?_) (fun c21 => ?_)
                          · have dc21 := tl_le ix56 is53_1 c21
                            exact rl_inr ⟨rfl, (ti_bd is53_1 (by omega) (by omega)), us53_2, (wg_sub vT_s53_2 (by omega) (by omega))⟩
                          · have dc21 := tl_nle ix56 is53_1 c21
                            refine rl_chk (fun h => h) (fun k22 => ?_)
                            refine rl_ltI (av_div is53_1 i3 (by omega) (by omega)) (fun x58 ix58 => ?_)
                            refine rl_ltI (av_mul ix58 tn_16 (by omega) (by omega)) (fun x59 ix59 => ?_)
                            refine rl_ltI (av_add i5 ix59 (by omega) (by omega)) (fun x60 ix60 => ?_)
                            refine rl_chk (fun h => h) (fun k23 => ?_)
                            refine rl_ltI (av_mod is53_1 i3 (by omega) (by omega)) (fun x61 ix61 => ?_)
                            refine rl_ltI (av_add ix60 ix61 (by omega) (by omega)) (fun x62 ix62 => ?_)
                            refine rl_chk (fun h => h) (fun k24 => ?_)
                            refine rl_ltI (av_div is53_1 i3 (by omega) (by omega)) (fun x63 ix63 => ?_)
                            refine rl_ltI (av_mul ix63 tn_21 (by omega) (by omega)) (fun x64 ix64 => ?_)
                            refine rl_ltI (av_add ix51 ix64 (by omega) (by omega)) (fun x65 ix65 => ?_)
                            refine rl_chk (fun h => h) (fun k25 => ?_)
                            refine rl_ltI (av_mod is53_1 i3 (by omega) (by omega)) (fun x66 ix66 => ?_)
                            refine rl_ltI (av_add ix65 ix66 (by omega) (by omega)) (fun x67 ix67 => ?_)
                            refine rl_dr (cx_U ts53_2) (rx_c (a := 138) (k := 3) (b := 142) ts53_2 (Or.inr (Or.inl rfl)) rfl (by decide)) (fun gb68 => ?_)
                            refine rl_chk (chkl (cx_U ts53_2) gb68) (fun k26 => ?_)
                            refine rl_rd (wq_use wW_s53_2 ix67 (s53_1.toInt / 4 + 2 + y46.toInt) (s53_1.toInt % 4 + 2 + y50.toInt) (by omega) (by omega) (by omega) (by omega) (by (try dsimp only) <;> omega)) (fun x69 => ?_)
                            refine rl_dr (cx_U ts53_2) ⟨rfl, rfl⟩ (fun gb70 => ?_)
                            refine rl_chk (chkl (cx_U ts53_2) gb70) (fun k27 => ?_)
                            refine rl_w (κ := 144) (cx_U ts53_2) (by rcases hc4 with h | h <;> omega) (fun M71 M71r uM71 AM71 nM71 => ?_)
                            have tM71 := cx_up ts53_2 uM71
                            have wW_M71 := wq_up uM71 wW_s53_2
                            have wT_M71 := wg_up uM71 vT_s53_2
                            refine rl_ltI (av_add is53_1 tn_1 (by omega) (by omega)) (fun x72 ix72 => ?_)
                            exact rl_inl ⟨rfl, (ti_bd ix72 (by omega) (by omega)), (up_tr us53_2 uM71), (wg_ext wT_M71 ix62 (ag_up (up_0 mu (κ := 144) _ _) AM71) (by (try dsimp only) <;> omega) (by have q : _ = _ := ix72; (try dsimp only) <;> omega))⟩
                        · exact ⟨rfl, (ti_bd tn_0 (by omega) (by omega)), (up_0 mu (κ := 144) _ _), (wg_0 (by have q : _ = _ := tn_0; (try dsimp only) <;> omega))⟩
                        · rintro ⟨y52_1, y52_2⟩ ⟨y52_1r, y52_2r⟩ ⟨ey52_1, ly52_1, uy52_2, vT_y52_2⟩
                          obtain rfl : y52_1 = y52_1r := ey52_1
                          have ly52_1 : 0 ≤ y52_1.toInt ∧ y52_1.toInt ≤ (4 * 4) := ly52_1
                          have iy52_1 : TI y52_1 y52_1.toInt := rfl
                          have uy52_2 : Up mu 144 y8 y8r y52_2 y52_2r := uy52_2
                          have ty52_2 := cx_up ty8 uy52_2
                          have wW_y52_2 := wq_up uy52_2 vW_y8
                          have vT_y52_2 : WG mu y52_2 y52_2r c4 (0) (4 * 4) (fun j => a5 + j / 4 * 16 + j % 4) := vT_y52_2
                          exact rl_some ⟨rfl, (ti_bd tn_1 (by omega) (by omega)), uy52_2, vT_y52_2⟩
                · rintro ⟨y44_1, y44_2⟩ ⟨y44_1r, y44_2r⟩ ⟨ey44_1, ly44_1, uy44_2, wT_y44_2⟩
                  obtain rfl : y44_1 = y44_1r := ey44_1
                  have ly44_1 : 1 ≤ y44_1.toInt ∧ y44_1.toInt ≤ 1 := ly44_1
                  have iy44_1 : TI y44_1 (1) := ti_c ly44_1
                  have uy44_2 : Up mu 144 y8 y8r y44_2 y44_2r := uy44_2
                  have ty44_2 := cx_up ty8 uy44_2
                  have wW_y44_2 := wq_up uy44_2 vW_y8
                  have wT_y44_2 : WG mu y44_2 y44_2r c4 0 (4 * 4) (fun j => a5 + j / 4 * 16 + j % 4) := wT_y44_2
                  exact rl_some ⟨rfl, (ti_bd iy44_1 (by omega) (by omega)), uy44_2, wT_y44_2⟩
              · have dc17 := tl_ne ix1 tn_0 c17
                exfalso
                omega
            · rintro ⟨y42_1, y42_2⟩ ⟨y42_1r, y42_2r⟩ ⟨ey42_1, ly42_1, uy42_2, wT_y42_2⟩
              obtain rfl : y42_1 = y42_1r := ey42_1
              have ly42_1 : 1 ≤ y42_1.toInt ∧ y42_1.toInt ≤ 1 := ly42_1
              have iy42_1 : TI y42_1 (1) := ti_c ly42_1
              have uy42_2 : Up mu 144 y8 y8r y42_2 y42_2r := uy42_2
              have ty42_2 := cx_up ty8 uy42_2
              have wW_y42_2 := wq_up uy42_2 vW_y8
              have wT_y42_2 : WG mu y42_2 y42_2r c4 0 (4 * 4) (fun j => a5 + j / 4 * 16 + j % 4) := wT_y42_2
              exact rl_some ⟨rfl, (ti_bd iy42_1 (by omega) (by omega)), uy42_2, wT_y42_2⟩
        · rintro ⟨y9_1, y9_2⟩ ⟨y9_1r, y9_2r⟩ ⟨ey9_1, ly9_1, uy9_2, wT_y9_2⟩
          obtain rfl : y9_1 = y9_1r := ey9_1
          have ly9_1 : 1 ≤ y9_1.toInt ∧ y9_1.toInt ≤ 1 := ly9_1
          have iy9_1 : TI y9_1 (1) := ti_c ly9_1
          have uy9_2 : Up mu 144 y8 y8r y9_2 y9_2r := uy9_2
          have ty9_2 := cx_up ty8 uy9_2
          have wW_y9_2 := wq_up uy9_2 vW_y8
          have wT_y9_2 : WG mu y9_2 y9_2r c4 0 (4 * 4) (fun j => a5 + j / 4 * 16 + j % 4) := wT_y9_2
          refine rl_bnd (Q := fun (y z : Int32 × DD) => y.1 = z.1 ∧ (1 ≤ y.1.toInt ∧ y.1.toInt ≤ 1) ∧ Up mu 144 y9_2 y9_2r y.2 z.2) ?_ ?_
          · refine rl_if (fun c28 => ?_) (fun c28 => ?_)
            · have dc28 := tl_eq ix1 tn_0 c28
              exact rl_some ⟨rfl, (ti_bd iy9_1 (by omega) (by omega)), (up_0 mu (κ := 144) _ _)⟩
            · have dc28 := tl_ne ix1 tn_0 c28
              exfalso
              omega
          · rintro ⟨y10_1, y10_2⟩ ⟨y10_1r, y10_2r⟩ ⟨ey10_1, ly10_1, uy10_2⟩
            obtain rfl : y10_1 = y10_1r := ey10_1
            have ly10_1 : 1 ≤ y10_1.toInt ∧ y10_1.toInt ≤ 1 := ly10_1
            have iy10_1 : TI y10_1 (1) := ti_c ly10_1
            have uy10_2 : Up mu 144 y9_2 y9_2r y10_2 y10_2r := uy10_2
            have ty10_2 := cx_up ty9_2 uy10_2
            have wW_y10_2 := wq_up uy10_2 wW_y9_2
            have wT_y10_2 := wg_up uy10_2 wT_y9_2
            refine rl_bnd (Q := fun (y z : Int32 × DD) => y.1 = z.1 ∧ (1 ≤ y.1.toInt ∧ y.1.toInt ≤ 1) ∧ Up mu 144 y10_2 y10_2r y.2 z.2) ?_ ?_
            · refine rl_if (fun c29 => ?_) (fun c29 => ?_)
              · have dc29 := tl_eq ix2 tn_0 c29
                exfalso
                omega
              · refine rl_bnd (Q := fun (y z : Int32 × DD) => y.1 = z.1 ∧ (1 ≤ y.1.toInt ∧ y.1.toInt ≤ 1) ∧ Up mu 144 y10_2 y10_2r y.2 z.2) ?_ ?_
                · refine rl_if (fun c30 => ?_) (fun c30 => ?_)
                  · have dc30 := tl_eq ix1 tn_2 c30
                    exfalso
                    omega
                  · refine rl_bnd (Q := fun (y z : Int32) => y = z ∧ (0 ≤ y.toInt ∧ y.toInt ≤ 0)) ?_ ?_
                    · refine rl_if (fun c31 => ?_) (fun c31 => ?_)
                      · have dc31 := tl_eq ix1 tn_3 c31
                        exfalso
                        omega
                      · exact rl_some ⟨rfl, (ti_bd tn_0 (by omega) (by omega))⟩
                    · rintro y30 y30r ⟨ey30, ly30⟩
                      obtain rfl : y30 = y30r := ey30
                      have ly30 : 0 ≤ y30.toInt ∧ y30.toInt ≤ 0 := ly30
                      have iy30 : TI y30 (0) := ti_c ly30
                      refine rl_ltI (av_add tn_2 iy30 (by omega) (by omega)) (fun x31 ix31 => ?_)
                      refine rl_bnd (r_tapColumns ty10_2 i3 ix31 ⟨rfl, rfl⟩ hc4 i5 (by omega) (by omega) (by omega) (by omega) (by omega) wW_y10_2 (fun _ => wg_cs wT_y10_2 (by omega) (by omega) (fun j h1 h2 => by (try dsimp only) <;> omega))) ?_
                      rintro y32 y32r ⟨uy32', vT_y32'⟩
                      have uy32 : Up mu 144 y10_2 y10_2r y32 y32r := uy32'
                      have ty32 := cx_up ty10_2 uy32
                      have wW_y32 := wq_up uy32 wW_y10_2
                      have wT_y32 := wg_up uy32 wT_y10_2
                      have vT_y32 : WG mu y32 y32r c4 0 (4 * 4) (fun j => a5 + j / 4 * 16 + j % 4) := wg_cs vT_y32' (by omega) (by omega) (fun j h1 h2 => by (try dsimp only) <;> omega)
                      exact rl_some ⟨rfl, (ti_bd tn_1 (by omega) (by omega)), uy32⟩
                · rintro ⟨y28_1, y28_2⟩ ⟨y28_1r, y28_2r⟩ ⟨ey28_1, ly28_1, uy28_2⟩
                  obtain rfl : y28_1 = y28_1r := ey28_1
                  have ly28_1 : 1 ≤ y28_1.toInt ∧ y28_1.toInt ≤ 1 := ly28_1
                  have iy28_1 : TI y28_1 (1) := ti_c ly28_1
                  have uy28_2 : Up mu 144 y10_2 y10_2r y28_2 y28_2r := uy28_2
                  have ty28_2 := cx_up ty10_2 uy28_2
                  have wW_y28_2 := wq_up uy28_2 wW_y10_2
                  have wT_y28_2 := wg_up uy28_2 wT_y10_2
                  exact rl_some ⟨rfl, (ti_bd iy28_1 (by omega) (by omega)), uy28_2⟩
            · rintro ⟨y11_1, y11_2⟩ ⟨y11_1r, y11_2r⟩ ⟨ey11_1, ly11_1, uy11_2⟩
              obtain rfl : y11_1 = y11_1r := ey11_1
              have ly11_1 : 1 ≤ y11_1.toInt ∧ y11_1.toInt ≤ 1 := ly11_1
              have iy11_1 : TI y11_1 (1) := ti_c ly11_1
              have uy11_2 : Up mu 144 y10_2 y10_2r y11_2 y11_2r := uy11_2
              have ty11_2 := cx_up ty10_2 uy11_2
              have wW_y11_2 := wq_up uy11_2 wW_y10_2
              have wT_y11_2 := wg_up uy11_2 wT_y10_2
              refine rl_bnd (Q := fun (y z : DD) => Up mu 144 y11_2 y11_2r y z) ?_ ?_
              · refine rl_if (fun c32 => ?_) (fun c32 => ?_)
                · have dc32 := tl_eq ix1 tn_2 c32
                  exfalso
                  omega
                · refine rl_bnd (Q := fun (y z : DD) => Up mu 144 y11_2 y11_2r y z) ?_ ?_
                  · refine rl_if (fun c33 => ?_) (fun c33 => ?_)
                    · have dc33 := tl_eq ix2 tn_2 c33
                      exfalso
                      omega
                    · exact rl_some (up_0 mu (κ := 144) _ _)
                  · rintro y14 y14r uy14
                    have uy14 : Up mu 144 y11_2 y11_2r y14 y14r := uy14
                    have ty14 := cx_up ty11_2 uy14
                    have wW_y14 := wq_up uy14 wW_y11_2
                    have wT_y14 := wg_up uy14 wT_y11_2
                    exact rl_some uy14
              · rintro y12 y12r uy12
                have uy12 : Up mu 144 y11_2 y11_2r y12 y12r := uy12
                have ty12 := cx_up ty11_2 uy12
                have wW_y12 := wq_up uy12 wW_y11_2
                have wT_y12 := wg_up uy12 wT_y11_2
                exact rl_some ⟨(up_tr (up_tr (up_tr (up_tr uy8 uy9_2) uy10_2) uy11_2) uy12), wT_y12⟩
      · clear ix2 zx2
        have ix2 : TI x2 2 := yx2
        refine rl_ltI (av_sar 2 i1 (by decide)) (fun x3 ix3 => ?_)
        refine rl_ltI (av_sub ix3 tn_2 (by omega) (by omega)) (fun x4 ix4 => ?_)
        refine rl_ltI (av_sar 2 i2 (by decide)) (fun x5 ix5 => ?_)
        refine rl_ltI (av_sub ix5 tn_2 (by omega) (by omega)) (fun x6 ix6 => ?_)
        refine rl_ltI (av_add i3 tn_5 (by omega) (by omega)) (fun x7 ix7 => ?_)
        refine rl_bnd (r_fillWindow t ⟨rfl, rfl⟩ hq0 ix7 (by omega) (by omega)) ?_
        rintro y8 y8r ⟨uy8', vW_y8⟩
        have uy8 : Up mu 144 M N y8 y8r := uy8'
        have ty8 := cx_up t uy8
        refine rl_bnd (Q := fun (y z : Int32 × DD) => y.1 = z.1 ∧ (0 ≤ y.1.toInt ∧ y.1.toInt ≤ 0) ∧ Up mu 144 y8 y8r y.2 z.2) ?_ ?_
        · refine rl_if (fun c34 => ?_) (fun c34 => ?_)
          · have dc34 := tl_eq ix2 tn_0 c34
            exfalso
            omega
          · refine rl_bnd (Q := fun (y z : Int32 × DD) => y.1 = z.1 ∧ (0 ≤ y.1.toInt ∧ y.1.toInt ≤ 0) ∧ Up mu 144 y8 y8r y.2 z.2) ?_ ?_
            · refine rl_if (fun c35 => ?_) (fun c35 => ?_)
              · have dc35 := tl_eq ix1 tn_0 c35
                refine rl_bnd (Q := fun (y z : Int32 × DD) => y.1 = z.1 ∧ (0 ≤ y.1.toInt ∧ y.1.toInt ≤ 0) ∧ Up mu 144 y8 y8r y.2 z.2) ?_ ?_
                · refine rl_if (fun c36 => ?_) (fun c36 => ?_)
                  · have dc36 := tl_eq ix2 tn_2 c36
                    exact rl_some ⟨rfl, (ti_bd tn_0 (by omega) (by omega)), (up_0 mu (κ := 144) _ _)⟩
                  · have dc36 := tl_ne ix2 tn_2 c36
                    exfalso
                    omega
                · rintro ⟨y44_1, y44_2⟩ ⟨y44_1r, y44_2r⟩ ⟨ey44_1, ly44_1, uy44_2⟩
                  obtain rfl : y44_1 = y44_1r := ey44_1
                  have ly44_1 : 0 ≤ y44_1.toInt ∧ y44_1.toInt ≤ 0 := ly44_1
                  have iy44_1 : TI y44_1 (0) := ti_c ly44_1
                  have uy44_2 : Up mu 144 y8 y8r y44_2 y44_2r := uy44_2
                  have ty44_2 := cx_up ty8 uy44_2
                  have wW_y44_2 := wq_up uy44_2 vW_y8
                  exact rl_some ⟨rfl, (ti_bd iy44_1 (by omega) (by omega)), uy44_2⟩
              · have dc35 := tl_ne ix1 tn_0 c35
                exfalso
                omega
            · rintro ⟨y42_1, y42_2⟩ ⟨y42_1r, y42_2r⟩ ⟨ey42_1, ly42_1, uy42_2⟩
              obtain rfl : y42_1 = y42_1r := ey42_1
              have ly42_1 : 0 ≤ y42_1.toInt ∧ y42_1.toInt ≤ 0 := ly42_1
              have iy42_1 : TI y42_1 (0) := ti_c ly42_1
              have uy42_2 : Up mu 144 y8 y8r y42_2 y42_2r := uy42_2
              have ty42_2 := cx_up ty8 uy42_2
              have wW_y42_2 := wq_up uy42_2 vW_y8
              exact rl_some ⟨rfl, (ti_bd iy42_1 (by omega) (by omega)), uy42_2⟩
        · rintro ⟨y9_1, y9_2⟩ ⟨y9_1r, y9_2r⟩ ⟨ey9_1, ly9_1, uy9_2⟩
          obtain rfl : y9_1 = y9_1r := ey9_1
          have ly9_1 : 0 ≤ y9_1.toInt ∧ y9_1.toInt ≤ 0 := ly9_1
          have iy9_1 : TI y9_1 (0) := ti_c ly9_1
          have uy9_2 : Up mu 144 y8 y8r y9_2 y9_2r := uy9_2
          have ty9_2 := cx_up ty8 uy9_2
          have wW_y9_2 := wq_up uy9_2 vW_y8
          refine rl_bnd (Q := fun (y z : Int32 × DD) => y.1 = z.1 ∧ (0 ≤ y.1.toInt ∧ y.1.toInt ≤ 0) ∧ Up mu 144 y9_2 y9_2r y.2 z.2) ?_ ?_
          · refine rl_if (fun c37 => ?_) (fun c37 => ?_)
            · have dc37 := tl_eq ix1 tn_0 c37
              exact rl_some ⟨rfl, (ti_bd iy9_1 (by omega) (by omega)), (up_0 mu (κ := 144) _ _)⟩
            · have dc37 := tl_ne ix1 tn_0 c37
              exfalso
              omega
          · rintro ⟨y10_1, y10_2⟩ ⟨y10_1r, y10_2r⟩ ⟨ey10_1, ly10_1, uy10_2⟩
            obtain rfl : y10_1 = y10_1r := ey10_1
            have ly10_1 : 0 ≤ y10_1.toInt ∧ y10_1.toInt ≤ 0 := ly10_1
            have iy10_1 : TI y10_1 (0) := ti_c ly10_1
            have uy10_2 : Up mu 144 y9_2 y9_2r y10_2 y10_2r := uy10_2
            have ty10_2 := cx_up ty9_2 uy10_2
            have wW_y10_2 := wq_up uy10_2 wW_y9_2
            refine rl_bnd (Q := fun (y z : Int32 × DD) => y.1 = z.1 ∧ (1 ≤ y.1.toInt ∧ y.1.toInt ≤ 1) ∧ Up mu 144 y10_2 y10_2r y.2 z.2 ∧ WG mu y.2 z.2 c4 0 (4 * 4) (fun j => a5 + j / 4 * 16 + j % 4)) ?_ ?_
            · refine rl_if (fun c38 => ?_) (fun c38 => ?_)
              · have dc38 := tl_eq ix2 tn_0 c38
                exfalso
                omega
              · refine rl_bnd (Q := fun (y z : Int32 × DD) => y.1 = z.1 ∧ (1 ≤ y.1.toInt ∧ y.1.toInt ≤ 1) ∧ Up mu 144 y10_2 y10_2r y.2 z.2 ∧ WG mu y.2 z.2 c4 0 (4 * 4) (fun j => a5 + j / 4 * 16 + j % 4)) ?_ ?_
                · refine rl_if (fun c39 => ?_) (fun c39 => ?_)
                  · have dc39 := tl_eq ix1 tn_2 c39
                    exfalso
                    omega
                  · refine rl_bnd (Q := fun (y z : Int32) => y = z ∧ (0 ≤ y.toInt ∧ y.toInt ≤ 0)) ?_ ?_
                    · refine rl_if (fun c40 => ?_) (fun c40 => ?_)
                      · have dc40 := tl_eq ix1 tn_3 c40
                        exfalso
                        omega
                      · exact rl_some ⟨rfl, (ti_bd tn_0 (by omega) (by omega))⟩
                    · rintro y30 y30r ⟨ey30, ly30⟩
                      obtain rfl : y30 = y30r := ey30
                      have ly30 : 0 ≤ y30.toInt ∧ y30.toInt ≤ 0 := ly30
                      have iy30 : TI y30 (0) := ti_c ly30
                      refine rl_ltI (av_add tn_2 iy30 (by omega) (by omega)) (fun x31 ix31 => ?_)
                      refine rl_bnd (r_tapColumns ty10_2 i3 ix31 ⟨rfl, rfl⟩ hc4 i5 (by omega) (by omega) (by omega) (by omega) (by omega) wW_y10_2 (fun h => absurd (by first | rfl | assumption | omega) h)) ?_
                      rintro y32 y32r ⟨uy32', vT_y32'⟩
                      have uy32 : Up mu 144 y10_2 y10_2r y32 y32r := uy32'
                      have ty32 := cx_up ty10_2 uy32
                      have wW_y32 := wq_up uy32 wW_y10_2
                      have vT_y32 : WG mu y32 y32r c4 0 (4 * 4) (fun j => a5 + j / 4 * 16 + j % 4) := wg_cs vT_y32' (by omega) (by omega) (fun j h1 h2 => by (try dsimp only) <;> omega)
                      exact rl_some ⟨rfl, (ti_bd tn_1 (by omega) (by omega)), uy32, vT_y32⟩
                · rintro ⟨y28_1, y28_2⟩ ⟨y28_1r, y28_2r⟩ ⟨ey28_1, ly28_1, uy28_2, wT_y28_2⟩
                  obtain rfl : y28_1 = y28_1r := ey28_1
                  have ly28_1 : 1 ≤ y28_1.toInt ∧ y28_1.toInt ≤ 1 := ly28_1
                  have iy28_1 : TI y28_1 (1) := ti_c ly28_1
                  have uy28_2 : Up mu 144 y10_2 y10_2r y28_2 y28_2r := uy28_2
                  have ty28_2 := cx_up ty10_2 uy28_2
                  have wW_y28_2 := wq_up uy28_2 wW_y10_2
                  have wT_y28_2 : WG mu y28_2 y28_2r c4 0 (4 * 4) (fun j => a5 + j / 4 * 16 + j % 4) := wT_y28_2
                  exact rl_some ⟨rfl, (ti_bd iy28_1 (by omega) (by omega)), uy28_2, wT_y28_2⟩
            · rintro ⟨y11_1, y11_2⟩ ⟨y11_1r, y11_2r⟩ ⟨ey11_1, ly11_1, uy11_2, wT_y11_2⟩
              obtain rfl : y11_1 = y11_1r := ey11_1
              have ly11_1 : 1 ≤ y11_1.toInt ∧ y11_1.toInt ≤ 1 := ly11_1
              have iy11_1 : TI y11_1 (1) := ti_c ly11_1
              have uy11_2 : Up mu 144 y10_2 y10_2r y11_2 y11_2r := uy11_2
              have ty11_2 := cx_up ty10_2 uy11_2
              have wW_y11_2 := wq_up uy11_2 wW_y10_2
              have wT_y11_2 : WG mu y11_2 y11_2r c4 0 (4 * 4) (fun j => a5 + j / 4 * 16 + j % 4) := wT_y11_2
              refine rl_bnd (Q := fun (y z : DD) => Up mu 144 y11_2 y11_2r y z) ?_ ?_
              · refine rl_if (fun c41 => ?_) (fun c41 => ?_)
                · have dc41 := tl_eq ix1 tn_2 c41
                  exfalso
                  omega
                · refine rl_bnd (Q := fun (y z : DD) => Up mu 144 y11_2 y11_2r y z) ?_ ?_
                  · refine rl_if (fun c42 => ?_) (fun c42 => ?_)
                    · have dc42 := tl_eq ix2 tn_2 c42
                      refine rl_bnd (Q := fun (y z : DD) => Up mu 144 y11_2 y11_2r y z) ?_ ?_
                      · refine rl_if (fun c43 => ?_) (fun c43 => ?_)
                        · have dc43 := tl_eq ix1 tn_0 c43
                          exact rl_some (up_0 mu (κ := 144) _ _)
                        · have dc43 := tl_ne ix1 tn_0 c43
                          exfalso
                          omega
                      · rintro y16 y16r uy16
                        have uy16 : Up mu 144 y11_2 y11_2r y16 y16r := uy16
                        have ty16 := cx_up ty11_2 uy16
                        have wW_y16 := wq_up uy16 wW_y11_2
                        have wT_y16 := wg_up uy16 wT_y11_2
                        exact rl_some uy16
                    · have dc42 := tl_ne ix2 tn_2 c42
                      exfalso
                      omega
                  · rintro y14 y14r uy14
                    have uy14 : Up mu 144 y11_2 y11_2r y14 y14r := uy14
                    have ty14 := cx_up ty11_2 uy14
                    have wW_y14 := wq_up uy14 wW_y11_2
                    have wT_y14 := wg_up uy14 wT_y11_2
                    exact rl_some uy14
              · rintro y12 y12r uy12
                have uy12 : Up mu 144 y11_2 y11_2r y12 y12r := uy12
                have ty12 := cx_up ty11_2 uy12
                have wW_y12 := wq_up uy12 wW_y11_2
                have wT_y12 := wg_up uy12 wT_y11_2
                exact rl_some ⟨(up_tr (up_tr (up_tr (up_tr uy8 uy9_2) uy10_2) uy11_2) uy12), wT_y12⟩
      · clear ix2 zx2
        have ix2 : TI x2 3 := yx2
        refine rl_ltI (av_sar 2 i1 (by decide)) (fun x3 ix3 => ?_)
        refine rl_ltI (av_sub ix3 tn_2 (by omega) (by omega)) (fun x4 ix4 => ?_)
        refine rl_ltI (av_sar 2 i2 (by decide)) (fun x5 ix5 => ?_)
        refine rl_ltI (av_sub ix5 tn_2 (by omega) (by omega)) (fun x6 ix6 => ?_)
        refine rl_ltI (av_add i3 tn_5 (by omega) (by omega)) (fun x7 ix7 => ?_)
        refine rl_bnd (r_fillWindow t ⟨rfl, rfl⟩ hq0 ix7 (by omega) (by omega)) ?_
        rintro y8 y8r ⟨uy8', vW_y8⟩
        have uy8 : Up mu 144 M N y8 y8r := uy8'
        have ty8 := cx_up t uy8
        refine rl_bnd (Q := fun (y z : Int32 × DD) => y.1 = z.1 ∧ (1 ≤ y.1.toInt ∧ y.1.toInt ≤ 1) ∧ Up mu 144 y8 y8r y.2 z.2 ∧ WG mu y.2 z.2 c4 0 (4 * 4) (fun j => a5 + j / 4 * 16 + j % 4)) ?_ ?_
        · refine rl_if (fun c44 => ?_) (fun c44 => ?_)
          · have dc44 := tl_eq ix2 tn_0 c44
            exfalso
            omega
          · refine rl_bnd (Q := fun (y z : Int32 × DD) => y.1 = z.1 ∧ (1 ≤ y.1.toInt ∧ y.1.toInt ≤ 1) ∧ Up mu 144 y8 y8r y.2 z.2 ∧ WG mu y.2 z.2 c4 0 (4 * 4) (fun j => a5 + j / 4 * 16 + j % 4)) ?_ ?_
            · refine rl_if (fun c45 => ?_) (fun c45 => ?_)
              · have dc45 := tl_eq ix1 tn_0 c45
                refine rl_bnd (Q := fun (y z : Int32 × DD) => y.1 = z.1 ∧ (1 ≤ y.1.toInt ∧ y.1.toInt ≤ 1) ∧ Up mu 144 y8 y8r y.2 z.2 ∧ WG mu y.2 z.2 c4 0 (4 * 4) (fun j => a5 + j / 4 * 16 + j % 4)) ?_ ?_
                · refine rl_if (fun c46 => ?_) (fun c46 => ?_)
                  · have dc46 := tl_eq ix2 tn_2 c46
                    exfalso
                    omega
                  · refine rl_bnd (Q := fun (y z : Int32) => y = z ∧ (1 ≤ y.toInt ∧ y.toInt ≤ 1)) ?_ ?_
                    · refine rl_if (fun c47 => ?_) (fun c47 => ?_)
                      · have dc47 := tl_eq ix2 tn_3 c47
                        exact rl_some ⟨rfl, (ti_bd tn_1 (by omega) (by omega))⟩
                      · have dc47 := tl_ne ix2 tn_3 c47
                        exfalso
                        omega
                    · rintro y46 y46r ⟨ey46, ly46⟩
                      obtain rfl : y46 = y46r := ey46
                      have ly46 : 1 ≤ y46.toInt ∧ y46.toInt ≤ 1 := ly46
                      have iy46 : TI y46 (1) := ti_c ly46
                      have ky46 : y46.toInt = _ := iy46
                      refine rl_ltI (av_add tn_2 iy46 (by omega) (by omega)) (fun x47 ix47 => ?_)
                      refine rl_ltI (av_mul ix47 tn_21 (by omega) (by omega)) (fun x48 ix48 => ?_)
                      refine rl_ltI (av_add ix48 tn_2 (by omega) (by omega)) (fun x49 ix49 => ?_)
                      refine rl_bnd (Q := fun (y z : Int32) => y = z ∧ (0 ≤ y.toInt ∧ y.toInt ≤ 0)) ?_ ?_
                      · refine rl_if (fun c48 => ?_) (fun c48 => ?_)
                        · have dc48 := tl_eq ix1 tn_3 c48
                          exfalso
                          omega
                        · exact rl_some ⟨rfl, (ti_bd tn_0 (by omega) (by omega))⟩
                      · rintro y50 y50r ⟨ey50, ly50⟩
                        obtain rfl : y50 = y50r := ey50
                        have ly50 : 0 ≤ y50.toInt ∧ y50.toInt ≤ 0 := ly50
                        have iy50 : TI y50 (0) := ti_c ly50
                        have ky50 : y50.toInt = _ := iy50
                        refine rl_ltI (av_add ix49 iy50 (by omega) (by omega)) (fun x51 ix51 => ?_)
                        refine rl_bnd (Q := fun (y z : Int32 × DD) => y.1 = z.1 ∧ (0 ≤ y.1.toInt ∧ y.1.toInt ≤ (4 * 4)) ∧ Up mu 144 y8 y8r y.2 z.2 ∧ WG mu y.2 z.2 c4 (0) (4 * 4) (fun j => a5 + j / 4 * 16 + j % 4)) (rl_itr (fun (y z : Int32 × DD) => y.1 = z.1 ∧ (0 ≤ y.1.toInt ∧ y.1.toInt ≤ (4 * 4)) ∧ Up mu 144 y8 y8r y.2 z.2 ∧ WG mu y.2 z.2 c4 (0) (y.1.toInt) (fun j => a5 + j / 4 * 16 + j % 4)) _ ?_ _ _ _ ?_) ?_
                        · rintro ⟨s53_1, s53_2⟩ ⟨s53_1r, s53_2r⟩ ⟨es53_1, ls53_1, us53_2, vT_s53_2⟩
                          obtain rfl : s53_1 = s53_1r := es53_1
                          have ls53_1 : 0 ≤ s53_1.toInt ∧ s53_1.toInt ≤ (4 * 4) := ls53_1
                          have is53_1 : TI s53_1 s53_1.toInt := rfl
                          have us53_2 : Up mu 144 y8 y8r s53_2 s53_2r := us53_2
                          have ts53_2 := cx_up ty8 us53_2
                          have wW_s53_2 := wq_up us53_2 vW_y8
                          have vT_s53_2 : WG mu s53_2 s53_2r c4 (0) (s53_1.toInt) (fun j => a5 + j / 4 * 16 + j % 4) := vT_s53_2
                          refine rl_ltI (av_mul i3 i3 (by omega) (by omega)) (fun x56 ix56 => ?_)
                          refine rl_if (fun c49 => ?_) (fun c49 => ?_)
                          · have dc49 := tl_le ix56 is53_1 c49
                            exact rl_inr ⟨rfl, (ti_bd is53_1 (by omega) (by omega)), us53_2, (wg_sub vT_s53_2 (by omega) (by omega))⟩
                          · have dc49 := tl_nle ix56 is53_1 c49
                            refine rl_chk (fun h => h) (fun k50 => ?_)
                            refine rl_ltI (av_div is53_1 i3 (by omega) (by omega)) (fun x58 ix58 => ?_)
                            refine rl_ltI (av_mul ix58 tn_16 (by omega) (by omega)) (fun x59 ix59 => ?_)
                            refine rl_ltI (av_add i5 ix59 (by omega) (by omega)) (fun x60 ix60 => ?_)
                            refine rl_chk (fun h => h) (fun k51 => ?_)
                            refine rl_ltI (av_mod is53_1 i3 (by omega) (by omega)) (fun x61 ix61 => ?_)
                            refine rl_ltI (av_add ix60 ix61 (by omega) (by omega)) (fun x62 ix62 => ?_)
                            refine rl_chk (fun h => h) (fun k52 => ?_)
                            refine rl_ltI (av_div is53_1 i3 (by omega) (by omega)) (fun x63 ix63 => ?_)
                            refine rl_ltI (av_mul ix63 tn_21 (by omega) (by omega)) (fun x64 ix64 => ?_)
                            refine rl_ltI (av_add ix51 ix64 (by omega) (by omega)) (fun x65 ix65 => ?_)
                            refine rl_chk (fun h => h) (fun k53 => ?_)
                            refine rl_ltI (av_mod is53_1 i3 (by omega) (by omega)) (fun x66 ix66 => ?_)
                            refine rl_ltI (av_add ix65 ix66 (by omega) (by omega)) (fun x67 ix67 => ?_)
                            refine rl_dr (cx_U ts53_2) (rx_c (a := 138) (k := 3) (b := 142) ts53_2 (Or.inr (Or.inl rfl)) rfl (by decide)) (fun gb68 => ?_)
                            refine rl_chk (chkl (cx_U ts53_2) gb68) (fun k54 => ?_)
                            refine rl_rd (wq_use wW_s53_2 ix67 (s53_1.toInt / 4 + 2 + y46.toInt) (s53_1.toInt % 4 + 2 + y50.toInt) (by omega) (by omega) (by omega) (by omega) (by (try dsimp only) <;> omega)) (fun x69 => ?_)
                            refine rl_dr (cx_U ts53_2) ⟨rfl, rfl⟩ (fun gb70 => ?_)
                            refine rl_chk (chkl (cx_U ts53_2) gb70) (fun k55 => ?_)
                            refine rl_w (κ := 144) (cx_U ts53_2) (by rcases hc4 with h | h <;> omega) (fun M71 M71r uM71 AM71 nM71 => ?_)
                            have tM71 := cx_up ts53_2 uM71
                            have wW_M71 := wq_up uM71 wW_s53_2
                            have wT_M71 := wg_up uM71 vT_s53_2
                            refine rl_ltI (av_add is53_1 tn_1 (by omega) (by omega)) (fun x72 ix72 => ?_)
                            exact rl_inl ⟨rfl, (ti_bd ix72 (by omega) (by omega)), (up_tr us53_2 uM71), (wg_ext wT_M71 ix62 (ag_up (up_0 mu (κ := 144) _ _) AM71) (by (try dsimp only) <;> omega) (by have q : _ = _ := ix72; (try dsimp only) <;> omega))⟩
                        · exact ⟨rfl, (ti_bd tn_0 (by omega) (by omega)), (up_0 mu (κ := 144) _ _), (wg_0 (by have q : _ = _ := tn_0; (try dsimp only) <;> omega))⟩
                        · rintro ⟨y52_1, y52_2⟩ ⟨y52_1r, y52_2r⟩ ⟨ey52_1, ly52_1, uy52_2, vT_y52_2⟩
                          obtain rfl : y52_1 = y52_1r := ey52_1
                          have ly52_1 : 0 ≤ y52_1.toInt ∧ y52_1.toInt ≤ (4 * 4) := ly52_1
                          have iy52_1 : TI y52_1 y52_1.toInt := rfl
                          have uy52_2 : Up mu 144 y8 y8r y52_2 y52_2r := uy52_2
                          have ty52_2 := cx_up ty8 uy52_2
                          have wW_y52_2 := wq_up uy52_2 vW_y8
                          have vT_y52_2 : WG mu y52_2 y52_2r c4 (0) (4 * 4) (fun j => a5 + j / 4 * 16 + j % 4) := vT_y52_2
                          exact rl_some ⟨rfl, (ti_bd tn_1 (by omega) (by omega)), uy52_2, vT_y52_2⟩
                · rintro ⟨y44_1, y44_2⟩ ⟨y44_1r, y44_2r⟩ ⟨ey44_1, ly44_1, uy44_2, wT_y44_2⟩
                  obtain rfl : y44_1 = y44_1r := ey44_1
                  have ly44_1 : 1 ≤ y44_1.toInt ∧ y44_1.toInt ≤ 1 := ly44_1
                  have iy44_1 : TI y44_1 (1) := ti_c ly44_1
                  have uy44_2 : Up mu 144 y8 y8r y44_2 y44_2r := uy44_2
                  have ty44_2 := cx_up ty8 uy44_2
                  have wW_y44_2 := wq_up uy44_2 vW_y8
                  have wT_y44_2 : WG mu y44_2 y44_2r c4 0 (4 * 4) (fun j => a5 + j / 4 * 16 + j % 4) := wT_y44_2
                  exact rl_some ⟨rfl, (ti_bd iy44_1 (by omega) (by omega)), uy44_2, wT_y44_2⟩
              · have dc45 := tl_ne ix1 tn_0 c45
                exfalso
                omega
            · rintro ⟨y42_1, y42_2⟩ ⟨y42_1r, y42_2r⟩ ⟨ey42_1, ly42_1, uy42_2, wT_y42_2⟩
              obtain rfl : y42_1 = y42_1r := ey42_1
              have ly42_1 : 1 ≤ y42_1.toInt ∧ y42_1.toInt ≤ 1 := ly42_1
              have iy42_1 : TI y42_1 (1) := ti_c ly42_1
              have uy42_2 : Up mu 144 y8 y8r y42_2 y42_2r := uy42_2
              have ty42_2 := cx_up ty8 uy42_2
              have wW_y42_2 := wq_up uy42_2 vW_y8
              have wT_y42_2 : WG mu y42_2 y42_2r c4 0 (4 * 4) (fun j => a5 + j / 4 * 16 + j % 4) := wT_y42_2
              exact rl_some ⟨rfl, (ti_bd iy42_1 (by omega) (by omega)), uy42_2, wT_y42_2⟩
        · rintro ⟨y9_1, y9_2⟩ ⟨y9_1r, y9_2r⟩ ⟨ey9_1, ly9_1, uy9_2, wT_y9_2⟩
          obtain rfl : y9_1 = y9_1r := ey9_1
          have ly9_1 : 1 ≤ y9_1.toInt ∧ y9_1.toInt ≤ 1 := ly9_1
          have iy9_1 : TI y9_1 (1) := ti_c ly9_1
          have uy9_2 : Up mu 144 y8 y8r y9_2 y9_2r := uy9_2
          have ty9_2 := cx_up ty8 uy9_2
          have wW_y9_2 := wq_up uy9_2 vW_y8
          have wT_y9_2 : WG mu y9_2 y9_2r c4 0 (4 * 4) (fun j => a5 + j / 4 * 16 + j % 4) := wT_y9_2
          refine rl_bnd (Q := fun (y z : Int32 × DD) => y.1 = z.1 ∧ (1 ≤ y.1.toInt ∧ y.1.toInt ≤ 1) ∧ Up mu 144 y9_2 y9_2r y.2 z.2) ?_ ?_
          · refine rl_if (fun c56 => ?_) (fun c56 => ?_)
            · have dc56 := tl_eq ix1 tn_0 c56
              exact rl_some ⟨rfl, (ti_bd iy9_1 (by omega) (by omega)), (up_0 mu (κ := 144) _ _)⟩
            · have dc56 := tl_ne ix1 tn_0 c56
              exfalso
              omega
          · rintro ⟨y10_1, y10_2⟩ ⟨y10_1r, y10_2r⟩ ⟨ey10_1, ly10_1, uy10_2⟩
            obtain rfl : y10_1 = y10_1r := ey10_1
            have ly10_1 : 1 ≤ y10_1.toInt ∧ y10_1.toInt ≤ 1 := ly10_1
            have iy10_1 : TI y10_1 (1) := ti_c ly10_1
            have uy10_2 : Up mu 144 y9_2 y9_2r y10_2 y10_2r := uy10_2
            have ty10_2 := cx_up ty9_2 uy10_2
            have wW_y10_2 := wq_up uy10_2 wW_y9_2
            have wT_y10_2 := wg_up uy10_2 wT_y9_2
            refine rl_bnd (Q := fun (y z : Int32 × DD) => y.1 = z.1 ∧ (1 ≤ y.1.toInt ∧ y.1.toInt ≤ 1) ∧ Up mu 144 y10_2 y10_2r y.2 z.2) ?_ ?_
            · refine rl_if (fun c57 => ?_) (fun c57 => ?_)
              · have dc57 := tl_eq ix2 tn_0 c57
                exfalso
                omega
              · refine rl_bnd (Q := fun (y z : Int32 × DD) => y.1 = z.1 ∧ (1 ≤ y.1.toInt ∧ y.1.toInt ≤ 1) ∧ Up mu 144 y10_2 y10_2r y.2 z.2) ?_ ?_
                · refine rl_if (fun c58 => ?_) (fun c58 => ?_)
                  · have dc58 := tl_eq ix1 tn_2 c58
                    exfalso
                    omega
                  · refine rl_bnd (Q := fun (y z : Int32) => y = z ∧ (0 ≤ y.toInt ∧ y.toInt ≤ 0)) ?_ ?_
                    · refine rl_if (fun c59 => ?_) (fun c59 => ?_)
                      · have dc59 := tl_eq ix1 tn_3 c59
                        exfalso
                        omega
                      · exact rl_some ⟨rfl, (ti_bd tn_0 (by omega) (by omega))⟩
                    · rintro y30 y30r ⟨ey30, ly30⟩
                      obtain rfl : y30 = y30r := ey30
                      have ly30 : 0 ≤ y30.toInt ∧ y30.toInt ≤ 0 := ly30
                      have iy30 : TI y30 (0) := ti_c ly30
                      refine rl_ltI (av_add tn_2 iy30 (by omega) (by omega)) (fun x31 ix31 => ?_)
                      refine rl_bnd (r_tapColumns ty10_2 i3 ix31 ⟨rfl, rfl⟩ hc4 i5 (by omega) (by omega) (by omega) (by omega) (by omega) wW_y10_2 (fun _ => wg_cs wT_y10_2 (by omega) (by omega) (fun j h1 h2 => by (try dsimp only) <;> omega))) ?_
                      rintro y32 y32r ⟨uy32', vT_y32'⟩
                      have uy32 : Up mu 144 y10_2 y10_2r y32 y32r := uy32'
                      have ty32 := cx_up ty10_2 uy32
                      have wW_y32 := wq_up uy32 wW_y10_2
                      have wT_y32 := wg_up uy32 wT_y10_2
                      have vT_y32 : WG mu y32 y32r c4 0 (4 * 4) (fun j => a5 + j / 4 * 16 + j % 4) := wg_cs vT_y32' (by omega) (by omega) (fun j h1 h2 => by (try dsimp only) <;> omega)
                      exact rl_some ⟨rfl, (ti_bd tn_1 (by omega) (by omega)), uy32⟩
                · rintro ⟨y28_1, y28_2⟩ ⟨y28_1r, y28_2r⟩ ⟨ey28_1, ly28_1, uy28_2⟩
                  obtain rfl : y28_1 = y28_1r := ey28_1
                  have ly28_1 : 1 ≤ y28_1.toInt ∧ y28_1.toInt ≤ 1 := ly28_1
                  have iy28_1 : TI y28_1 (1) := ti_c ly28_1
                  have uy28_2 : Up mu 144 y10_2 y10_2r y28_2 y28_2r := uy28_2
                  have ty28_2 := cx_up ty10_2 uy28_2
                  have wW_y28_2 := wq_up uy28_2 wW_y10_2
                  have wT_y28_2 := wg_up uy28_2 wT_y10_2
                  exact rl_some ⟨rfl, (ti_bd iy28_1 (by omega) (by omega)), uy28_2⟩
            · rintro ⟨y11_1, y11_2⟩ ⟨y11_1r, y11_2r⟩ ⟨ey11_1, ly11_1, uy11_2⟩
              obtain rfl : y11_1 = y11_1r := ey11_1
              have ly11_1 : 1 ≤ y11_1.toInt ∧ y11_1.toInt ≤ 1 := ly11_1
              have iy11_1 : TI y11_1 (1) := ti_c ly11_1
              have uy11_2 : Up mu 144 y10_2 y10_2r y11_2 y11_2r := uy11_2
              have ty11_2 := cx_up ty10_2 uy11_2
              have wW_y11_2 := wq_up uy11_2 wW_y10_2
              have wT_y11_2 := wg_up uy11_2 wT_y10_2
              refine rl_bnd (Q := fun (y z : DD) => Up mu 144 y11_2 y11_2r y z) ?_ ?_
              · refine rl_if (fun c60 => ?_) (fun c60 => ?_)
                · have dc60 := tl_eq ix1 tn_2 c60
                  exfalso
                  omega
                · refine rl_bnd (Q := fun (y z : DD) => Up mu 144 y11_2 y11_2r y z) ?_ ?_
                  · refine rl_if (fun c61 => ?_) (fun c61 => ?_)
                    · have dc61 := tl_eq ix2 tn_2 c61
                      exfalso
                      omega
                    · exact rl_some (up_0 mu (κ := 144) _ _)
                  · rintro y14 y14r uy14
                    have uy14 : Up mu 144 y11_2 y11_2r y14 y14r := uy14
                    have ty14 := cx_up ty11_2 uy14
                    have wW_y14 := wq_up uy14 wW_y11_2
                    have wT_y14 := wg_up uy14 wT_y11_2
                    exact rl_some uy14
              · rintro y12 y12r uy12
                have uy12 : Up mu 144 y11_2 y11_2r y12 y12r := uy12
                have ty12 := cx_up ty11_2 uy12
                have wW_y12 := wq_up uy12 wW_y11_2
                have wT_y12 := wg_up uy12 wT_y11_2
                exact rl_some ⟨(up_tr (up_tr (up_tr (up_tr uy8 uy9_2) uy10_2) uy11_2) uy12), wT_y12⟩
    · clear ix1 zx1
      have ix1 : TI x1 1 := yx1
      refine rl_ltI (av_and 2 i2 (by decide) (by decide)) (fun x2 ix2 => ?_)
      have zx2 : x2.toInt = _ := ix2
      rcases (by omega : x2.toInt = 0 ∨ x2.toInt = 1 ∨ x2.toInt = 2 ∨ x2.toInt = 3) with yx2 | yx2 | yx2 | yx2
      · clear ix2 zx2
        have ix2 : TI x2 0 := yx2
        refine rl_ltI (av_sar 2 i1 (by decide)) (fun x3 ix3 => ?_)
        refine rl_ltI (av_sub ix3 tn_2 (by omega) (by omega)) (fun x4 ix4 => ?_)
        refine rl_ltI (av_sar 2 i2 (by decide)) (fun x5 ix5 => ?_)
        refine rl_ltI (av_sub ix5 tn_2 (by omega) (by omega)) (fun x6 ix6 => ?_)
        refine rl_ltI (av_add i3 tn_5 (by omega) (by omega)) (fun x7 ix7 => ?_)
        refine rl_bnd (r_fillWindow t ⟨rfl, rfl⟩ hq0 ix7 (by omega) (by omega)) ?_
        rintro y8 y8r ⟨uy8', vW_y8⟩
        have uy8 : Up mu 144 M N y8 y8r := uy8'
        have ty8 := cx_up t uy8
        refine rl_bnd (Q := fun (y z : Int32 × DD) => y.1 = z.1 ∧ (1 ≤ y.1.toInt ∧ y.1.toInt ≤ 1) ∧ Up mu 144 y8 y8r y.2 z.2 ∧ WG mu y.2 z.2 c4 0 (4 * 4) (fun j => a5 + j / 4 * 16 + j % 4)) ?_ ?_
        · refine rl_if (fun c62 => ?_) (fun c62 => ?_)
          · have dc62 := tl_eq ix2 tn_0 c62
            refine rl_bnd (Q := fun (y z : Int32 × DD) => y.1 = z.1 ∧ (1 ≤ y.1.toInt ∧ y.1.toInt ≤ 1) ∧ Up mu 144 y8 y8r y.2 z.2 ∧ WG mu y.2 z.2 c4 0 (4 * 4) (fun j => a5 + j / 4 * 16 + j % 4)) ?_ ?_
            · refine rl_if (fun c63 => ?_) (fun c63 => ?_)
              · have dc63 := tl_eq ix1 tn_2 c63
                exfalso
                omega
              · refine rl_bnd (Q := fun (y z : Int32) => y = z ∧ (0 ≤ y.toInt ∧ y.toInt ≤ 0)) ?_ ?_
                · refine rl_if (fun c64 => ?_) (fun c64 => ?_)
                  · have dc64 := tl_eq ix2 tn_3 c64
                    exfalso
                    omega
                  · exact rl_some ⟨rfl, (ti_bd tn_0 (by omega) (by omega))⟩
                · rintro y77 y77r ⟨ey77, ly77⟩
                  obtain rfl : y77 = y77r := ey77
                  have ly77 : 0 ≤ y77.toInt ∧ y77.toInt ≤ 0 := ly77
                  have iy77 : TI y77 (0) := ti_c ly77
                  have ky77 : y77.toInt = _ := iy77
                  refine rl_ltI (av_add tn_2 iy77 (by omega) (by omega)) (fun x78 ix78 => ?_)
                  refine rl_ltI (av_mul ix78 tn_21 (by omega) (by omega)) (fun x79 ix79 => ?_)
                  refine rl_ltI (av_add ix79 tn_2 (by omega) (by omega)) (fun x80 ix80 => ?_)
                  refine rl_bnd (Q := fun (y z : Int32) => y = z ∧ (0 ≤ y.toInt ∧ y.toInt ≤ 0)) ?_ ?_
                  · refine rl_if (fun c65 => ?_) (fun c65 => ?_)
                    · have dc65 := tl_eq ix1 tn_3 c65
                      exfalso
                      omega
                    · exact rl_some ⟨rfl, (ti_bd tn_0 (by omega) (by omega))⟩
                  · rintro y81 y81r ⟨ey81, ly81⟩
                    obtain rfl : y81 = y81r := ey81
                    have ly81 : 0 ≤ y81.toInt ∧ y81.toInt ≤ 0 := ly81
                    have iy81 : TI y81 (0) := ti_c ly81
                    have ky81 : y81.toInt = _ := iy81
                    refine rl_ltI (av_add ix80 iy81 (by omega) (by omega)) (fun x82 ix82 => ?_)
                    refine rl_bnd (Q := fun (y z : Int32 × DD) => y.1 = z.1 ∧ (0 ≤ y.1.toInt ∧ y.1.toInt ≤ (4 * 4)) ∧ Up mu 144 y8 y8r y.2 z.2 ∧ WG mu y.2 z.2 c4 (0) (4 * 4) (fun j => a5 + j / 4 * 16 + j % 4)) (rl_itr (fun (y z : Int32 × DD) => y.1 = z.1 ∧ (0 ≤ y.1.toInt ∧ y.1.toInt ≤ (4 * 4)) ∧ Up mu 144 y8 y8r y.2 z.2 ∧ WG mu y.2 z.2 c4 (0) (y.1.toInt) (fun j => a5 + j / 4 * 16 + j % 4)) _ ?_ _ _ _ ?_) ?_
                    · rintro ⟨s84_1, s84_2⟩ ⟨s84_1r, s84_2r⟩ ⟨es84_1, ls84_1, us84_2, vT_s84_2⟩
                      obtain rfl : s84_1 = s84_1r := es84_1
                      have ls84_1 : 0 ≤ s84_1.toInt ∧ s84_1.toInt ≤ (4 * 4) := ls84_1
                      have is84_1 : TI s84_1 s84_1.toInt := rfl
                      have us84_2 : Up mu 144 y8 y8r s84_2 s84_2r := us84_2
                      have ts84_2 := cx_up ty8 us84_2
                      have wW_s84_2 := wq_up us84_2 vW_y8
                      have vT_s84_2 : WG mu s84_2 s84_2r c4 (0) (s84_1.toInt) (fun j => a5 + j / 4 * 16 + j % 4) := vT_s84_2
                      refine rl_ltI (av_mul i3 i3 (by omega) (by omega)) (fun x87 ix87 => ?_)
                      refine rl_if (fun c66 => ?_) (fun c66 => ?_)
                      · have dc66 := tl_le ix87 is84_1 c66
                        exact rl_inr ⟨rfl, (ti_bd is84_1 (by omega) (by omega)), us84_2, (wg_sub vT_s84_2 (by omega) (by omega))⟩
                      · have dc66 := tl_nle ix87 is84_1 c66
                        refine rl_chk (fun h => h) (fun k67 => ?_)
                        refine rl_ltI (av_div is84_1 i3 (by omega) (by omega)) (fun x89 ix89 => ?_)
                        refine rl_ltI (av_mul ix89 tn_16 (by omega) (by omega)) (fun x90 ix90 => ?_)
                        refine rl_ltI (av_add i5 ix90 (by omega) (by omega)) (fun x91 ix91 => ?_)
                        refine rl_chk (fun h => h) (fun k68 => ?_)
                        refine rl_ltI (av_mod is84_1 i3 (by omega) (by omega)) (fun x92 ix92 => ?_)
                        refine rl_ltI (av_add ix91 ix92 (by omega) (by omega)) (fun x93 ix93 => ?_)
                        refine rl_chk (fun h => h) (fun k69 => ?_)
                        refine rl_ltI (av_div is84_1 i3 (by omega) (by omega)) (fun x94 ix94 => ?_)
                        refine rl_ltI (av_mul ix94 tn_21 (by omega) (by omega)) (fun x95 ix95 => ?_)
                        refine rl_ltI (av_add ix82 ix95 (by omega) (by omega)) (fun x96 ix96 => ?_)
                        refine rl_chk (fun h => h) (fun k70 => ?_)
                        refine rl_ltI (av_mod is84_1 i3 (by omega) (by omega)) (fun x97 ix97 => ?_)
                        refine rl_ltI (av_add ix96 ix97 (by omega) (by omega)) (fun x98 ix98 => ?_)
                        refine rl_dr (cx_U ts84_2) (rx_c (a := 138) (k := 3) (b := 142) ts84_2 (Or.inr (Or.inl rfl)) rfl (by decide)) (fun gb99 => ?_)
                        refine rl_chk (chkl (cx_U ts84_2) gb99) (fun k71 => ?_)
                        refine rl_rd (wq_use wW_s84_2 ix98 (s84_1.toInt / 4 + 2 + y77.toInt) (s84_1.toInt % 4 + 2 + y81.toInt) (by omega) (by omega) (by omega) (by omega) (by (try dsimp only) <;> omega)) (fun x100 => ?_)
                        refine rl_dr (cx_U ts84_2) ⟨rfl, rfl⟩ (fun gb101 => ?_)
                        refine rl_chk (chkl (cx_U ts84_2) gb101) (fun k72 => ?_)
                        refine rl_w (κ := 144) (cx_U ts84_2) (by rcases hc4 with h | h <;> omega) (fun M102 M102r uM102 AM102 nM102 => ?_)
                        have tM102 := cx_up ts84_2 uM102
                        have wW_M102 := wq_up uM102 wW_s84_2
                        have wT_M102 := wg_up uM102 vT_s84_2
                        refine rl_ltI (av_add is84_1 tn_1 (by omega) (by omega)) (fun x103 ix103 => ?_)
                        exact rl_inl ⟨rfl, (ti_bd ix103 (by omega) (by omega)), (up_tr us84_2 uM102), (wg_ext wT_M102 ix93 (ag_up (up_0 mu (κ := 144) _ _) AM102) (by (try dsimp only) <;> omega) (by have q : _ = _ := ix103; (try dsimp only) <;> omega))⟩
                    · exact ⟨rfl, (ti_bd tn_0 (by omega) (by omega)), (up_0 mu (κ := 144) _ _), (wg_0 (by have q : _ = _ := tn_0; (try dsimp only) <;> omega))⟩
                    · rintro ⟨y83_1, y83_2⟩ ⟨y83_1r, y83_2r⟩ ⟨ey83_1, ly83_1, uy83_2, vT_y83_2⟩
                      obtain rfl : y83_1 = y83_1r := ey83_1
                      have ly83_1 : 0 ≤ y83_1.toInt ∧ y83_1.toInt ≤ (4 * 4) := ly83_1
                      have iy83_1 : TI y83_1 y83_1.toInt := rfl
                      have uy83_2 : Up mu 144 y8 y8r y83_2 y83_2r := uy83_2
                      have ty83_2 := cx_up ty8 uy83_2
                      have wW_y83_2 := wq_up uy83_2 vW_y8
                      have vT_y83_2 : WG mu y83_2 y83_2r c4 (0) (4 * 4) (fun j => a5 + j / 4 * 16 + j % 4) := vT_y83_2
                      exact rl_some ⟨rfl, (ti_bd tn_1 (by omega) (by omega)), uy83_2, vT_y83_2⟩
            · rintro ⟨y75_1, y75_2⟩ ⟨y75_1r, y75_2r⟩ ⟨ey75_1, ly75_1, uy75_2, wT_y75_2⟩
              obtain rfl : y75_1 = y75_1r := ey75_1
              have ly75_1 : 1 ≤ y75_1.toInt ∧ y75_1.toInt ≤ 1 := ly75_1
              have iy75_1 : TI y75_1 (1) := ti_c ly75_1
              have uy75_2 : Up mu 144 y8 y8r y75_2 y75_2r := uy75_2
              have ty75_2 := cx_up ty8 uy75_2
              have wW_y75_2 := wq_up uy75_2 vW_y8
              have wT_y75_2 : WG mu y75_2 y75_2r c4 0 (4 * 4) (fun j => a5 + j / 4 * 16 + j % 4) := wT_y75_2
              exact rl_some ⟨rfl, (ti_bd iy75_1 (by omega) (by omega)), uy75_2, wT_y75_2⟩
          · have dc62 := tl_ne ix2 tn_0 c62
            exfalso
            omega
        · rintro ⟨y9_1, y9_2⟩ ⟨y9_1r, y9_2r⟩ ⟨ey9_1, ly9_1, uy9_2, wT_y9_2⟩
          obtain rfl : y9_1 = y9_1r := ey9_1
          have ly9_1 : 1 ≤ y9_1.toInt ∧ y9_1.toInt ≤ 1 := ly9_1
          have iy9_1 : TI y9_1 (1) := ti_c ly9_1
          have uy9_2 : Up mu 144 y8 y8r y9_2 y9_2r := uy9_2
          have ty9_2 := cx_up ty8 uy9_2
          have wW_y9_2 := wq_up uy9_2 vW_y8
          have wT_y9_2 : WG mu y9_2 y9_2r c4 0 (4 * 4) (fun j => a5 + j / 4 * 16 + j % 4) := wT_y9_2
          refine rl_bnd (Q := fun (y z : Int32 × DD) => y.1 = z.1 ∧ (1 ≤ y.1.toInt ∧ y.1.toInt ≤ 1) ∧ Up mu 144 y9_2 y9_2r y.2 z.2) ?_ ?_
          · refine rl_if (fun c73 => ?_) (fun c73 => ?_)
            · have dc73 := tl_eq ix1 tn_0 c73
              exfalso
              omega
            · refine rl_bnd (Q := fun (y z : Int32 × DD) => y.1 = z.1 ∧ (1 ≤ y.1.toInt ∧ y.1.toInt ≤ 1) ∧ Up mu 144 y9_2 y9_2r y.2 z.2) ?_ ?_
              · refine rl_if (fun c74 => ?_) (fun c74 => ?_)
                · have dc74 := tl_eq ix2 tn_2 c74
                  exfalso
                  omega
                · refine rl_bnd (Q := fun (y z : Int32) => y = z ∧ (0 ≤ y.toInt ∧ y.toInt ≤ 0)) ?_ ?_
                  · refine rl_if (fun c75 => ?_) (fun c75 => ?_)
                    · have dc75 := tl_eq ix2 tn_3 c75
                      exfalso
                      omega
                    · exact rl_some ⟨rfl, (ti_bd tn_0 (by omega) (by omega))⟩
                  · rintro y37 y37r ⟨ey37, ly37⟩
                    obtain rfl : y37 = y37r := ey37
                    have ly37 : 0 ≤ y37.toInt ∧ y37.toInt ≤ 0 := ly37
                    have iy37 : TI y37 (0) := ti_c ly37
                    refine rl_ltI (av_add tn_2 iy37 (by omega) (by omega)) (fun x38 ix38 => ?_)
                    refine rl_bnd (r_tapRows ty9_2 i3 ix38 ⟨rfl, rfl⟩ hc4 i5 (by omega) (by omega) (by omega) (by omega) (by omega) wW_y9_2 (fun _ => wg_cs wT_y9_2 (by omega) (by omega) (fun j h1 h2 => by (try dsimp only) <;> omega))) ?_
                    rintro y39 y39r ⟨uy39', vT_y39'⟩
                    have uy39 : Up mu 144 y9_2 y9_2r y39 y39r := uy39'
                    have ty39 := cx_up ty9_2 uy39
                    have wW_y39 := wq_up uy39 wW_y9_2
                    have wT_y39 := wg_up uy39 wT_y9_2
                    have vT_y39 : WG mu y39 y39r c4 0 (4 * 4) (fun j => a5 + j / 4 * 16 + j % 4) := wg_cs vT_y39' (by omega) (by omega) (fun j h1 h2 => by (try dsimp only) <;> omega)
                    exact rl_some ⟨rfl, (ti_bd tn_1 (by omega) (by omega)), uy39⟩
              · rintro ⟨y35_1, y35_2⟩ ⟨y35_1r, y35_2r⟩ ⟨ey35_1, ly35_1, uy35_2⟩
                obtain rfl : y35_1 = y35_1r := ey35_1
                have ly35_1 : 1 ≤ y35_1.toInt ∧ y35_1.toInt ≤ 1 := ly35_1
                have iy35_1 : TI y35_1 (1) := ti_c ly35_1
                have uy35_2 : Up mu 144 y9_2 y9_2r y35_2 y35_2r := uy35_2
                have ty35_2 := cx_up ty9_2 uy35_2
                have wW_y35_2 := wq_up uy35_2 wW_y9_2
                have wT_y35_2 := wg_up uy35_2 wT_y9_2
                exact rl_some ⟨rfl, (ti_bd iy35_1 (by omega) (by omega)), uy35_2⟩
          · rintro ⟨y10_1, y10_2⟩ ⟨y10_1r, y10_2r⟩ ⟨ey10_1, ly10_1, uy10_2⟩
            obtain rfl : y10_1 = y10_1r := ey10_1
            have ly10_1 : 1 ≤ y10_1.toInt ∧ y10_1.toInt ≤ 1 := ly10_1
            have iy10_1 : TI y10_1 (1) := ti_c ly10_1
            have uy10_2 : Up mu 144 y9_2 y9_2r y10_2 y10_2r := uy10_2
            have ty10_2 := cx_up ty9_2 uy10_2
            have wW_y10_2 := wq_up uy10_2 wW_y9_2
            have wT_y10_2 := wg_up uy10_2 wT_y9_2
            refine rl_bnd (Q := fun (y z : Int32 × DD) => y.1 = z.1 ∧ (1 ≤ y.1.toInt ∧ y.1.toInt ≤ 1) ∧ Up mu 144 y10_2 y10_2r y.2 z.2) ?_ ?_
            · refine rl_if (fun c76 => ?_) (fun c76 => ?_)
              · have dc76 := tl_eq ix2 tn_0 c76
                exact rl_some ⟨rfl, (ti_bd iy10_1 (by omega) (by omega)), (up_0 mu (κ := 144) _ _)⟩
              · have dc76 := tl_ne ix2 tn_0 c76
                exfalso
                omega
            · rintro ⟨y11_1, y11_2⟩ ⟨y11_1r, y11_2r⟩ ⟨ey11_1, ly11_1, uy11_2⟩
              obtain rfl : y11_1 = y11_1r := ey11_1
              have ly11_1 : 1 ≤ y11_1.toInt ∧ y11_1.toInt ≤ 1 := ly11_1
              have iy11_1 : TI y11_1 (1) := ti_c ly11_1
              have uy11_2 : Up mu 144 y10_2 y10_2r y11_2 y11_2r := uy11_2
              have ty11_2 := cx_up ty10_2 uy11_2
              have wW_y11_2 := wq_up uy11_2 wW_y10_2
              have wT_y11_2 := wg_up uy11_2 wT_y10_2
              refine rl_bnd (Q := fun (y z : DD) => Up mu 144 y11_2 y11_2r y z) ?_ ?_
              · refine rl_if (fun c77 => ?_) (fun c77 => ?_)
                · have dc77 := tl_eq ix1 tn_2 c77
                  exfalso
                  omega
                · refine rl_bnd (Q := fun (y z : DD) => Up mu 144 y11_2 y11_2r y z) ?_ ?_
                  · refine rl_if (fun c78 => ?_) (fun c78 => ?_)
                    · have dc78 := tl_eq ix2 tn_2 c78
                      exfalso
                      omega
                    · exact rl_some (up_0 mu (κ := 144) _ _)
                  · rintro y14 y14r uy14
                    have uy14 : Up mu 144 y11_2 y11_2r y14 y14r := uy14
                    have ty14 := cx_up ty11_2 uy14
                    have wW_y14 := wq_up uy14 wW_y11_2
                    have wT_y14 := wg_up uy14 wT_y11_2
                    exact rl_some uy14
              · rintro y12 y12r uy12
                have uy12 : Up mu 144 y11_2 y11_2r y12 y12r := uy12
                have ty12 := cx_up ty11_2 uy12
                have wW_y12 := wq_up uy12 wW_y11_2
                have wT_y12 := wg_up uy12 wT_y11_2
                exact rl_some ⟨(up_tr (up_tr (up_tr (up_tr uy8 uy9_2) uy10_2) uy11_2) uy12), wT_y12⟩
      · clear ix2 zx2
        have ix2 : TI x2 1 := yx2
        refine rl_ltI (av_sar 2 i1 (by decide)) (fun x3 ix3 => ?_)
        refine rl_ltI (av_sub ix3 tn_2 (by omega) (by omega)) (fun x4 ix4 => ?_)
        refine rl_ltI (av_sar 2 i2 (by decide)) (fun x5 ix5 => ?_)
        refine rl_ltI (av_sub ix5 tn_2 (by omega) (by omega)) (fun x6 ix6 => ?_)
        refine rl_ltI (av_add i3 tn_5 (by omega) (by omega)) (fun x7 ix7 => ?_)
        refine rl_bnd (r_fillWindow t ⟨rfl, rfl⟩ hq0 ix7 (by omega) (by omega)) ?_
        rintro y8 y8r ⟨uy8', vW_y8⟩
        have uy8 : Up mu 144 M N y8 y8r := uy8'
        have ty8 := cx_up t uy8
        refine rl_bnd (Q := fun (y z : Int32 × DD) => y.1 = z.1 ∧ (0 ≤ y.1.toInt ∧ y.1.toInt ≤ 0) ∧ Up mu 144 y8 y8r y.2 z.2) ?_ ?_
        · refine rl_if (fun c79 => ?_) (fun c79 => ?_)
          · have dc79 := tl_eq ix2 tn_0 c79
            exfalso
            omega
          · refine rl_bnd (Q := fun (y z : Int32 × DD) => y.1 = z.1 ∧ (0 ≤ y.1.toInt ∧ y.1.toInt ≤ 0) ∧ Up mu 144 y8 y8r y.2 z.2) ?_ ?_
            · refine rl_if (fun c80 => ?_) (fun c80 => ?_)
              · have dc80 := tl_eq ix1 tn_0 c80
                exfalso
                omega
              · exact rl_some ⟨rfl, (ti_bd tn_0 (by omega) (by omega)), (up_0 mu (κ := 144) _ _)⟩
            · rintro ⟨y42_1, y42_2⟩ ⟨y42_1r, y42_2r⟩ ⟨ey42_1, ly42_1, uy42_2⟩
              obtain rfl : y42_1 = y42_1r := ey42_1
              have ly42_1 : 0 ≤ y42_1.toInt ∧ y42_1.toInt ≤ 0 := ly42_1
              have iy42_1 : TI y42_1 (0) := ti_c ly42_1
              have uy42_2 : Up mu 144 y8 y8r y42_2 y42_2r := uy42_2
              have ty42_2 := cx_up ty8 uy42_2
              have wW_y42_2 := wq_up uy42_2 vW_y8
              exact rl_some ⟨rfl, (ti_bd iy42_1 (by omega) (by omega)), uy42_2⟩
        · rintro ⟨y9_1, y9_2⟩ ⟨y9_1r, y9_2r⟩ ⟨ey9_1, ly9_1, uy9_2⟩
          obtain rfl : y9_1 = y9_1r := ey9_1
          have ly9_1 : 0 ≤ y9_1.toInt ∧ y9_1.toInt ≤ 0 := ly9_1
          have iy9_1 : TI y9_1 (0) := ti_c ly9_1
          have uy9_2 : Up mu 144 y8 y8r y9_2 y9_2r := uy9_2
          have ty9_2 := cx_up ty8 uy9_2
          have wW_y9_2 := wq_up uy9_2 vW_y8
          refine rl_bnd (Q := fun (y z : Int32 × DD) => y.1 = z.1 ∧ (1 ≤ y.1.toInt ∧ y.1.toInt ≤ 1) ∧ Up mu 144 y9_2 y9_2r y.2 z.2 ∧ WG mu y.2 z.2 c4 0 (4 * 4) (fun j => a5 + j / 4 * 16 + j % 4)) ?_ ?_
          · refine rl_if (fun c81 => ?_) (fun c81 => ?_)
            · have dc81 := tl_eq ix1 tn_0 c81
              exfalso
              omega
            · refine rl_bnd (Q := fun (y z : Int32 × DD) => y.1 = z.1 ∧ (1 ≤ y.1.toInt ∧ y.1.toInt ≤ 1) ∧ Up mu 144 y9_2 y9_2r y.2 z.2 ∧ WG mu y.2 z.2 c4 0 (4 * 4) (fun j => a5 + j / 4 * 16 + j % 4)) ?_ ?_
              · refine rl_if (fun c82 => ?_) (fun c82 => ?_)
                · have dc82 := tl_eq ix2 tn_2 c82
                  exfalso
                  omega
                · refine rl_bnd (Q := fun (y z : Int32) => y = z ∧ (0 ≤ y.toInt ∧ y.toInt ≤ 0)) ?_ ?_
                  · refine rl_if (fun c83 => ?_) (fun c83 => ?_)
                    · have dc83 := tl_eq ix2 tn_3 c83
                      exfalso
                      omega
                    · exact rl_some ⟨rfl, (ti_bd tn_0 (by omega) (by omega))⟩
                  · rintro y37 y37r ⟨ey37, ly37⟩
                    obtain rfl : y37 = y37r := ey37
                    have ly37 : 0 ≤ y37.toInt ∧ y37.toInt ≤ 0 := ly37
                    have iy37 : TI y37 (0) := ti_c ly37
                    refine rl_ltI (av_add tn_2 iy37 (by omega) (by omega)) (fun x38 ix38 => ?_)
                    refine rl_bnd (r_tapRows ty9_2 i3 ix38 ⟨rfl, rfl⟩ hc4 i5 (by omega) (by omega) (by omega) (by omega) (by omega) wW_y9_2 (fun h => absurd (by first | rfl | assumption | omega) h)) ?_
                    rintro y39 y39r ⟨uy39', vT_y39'⟩
                    have uy39 : Up mu 144 y9_2 y9_2r y39 y39r := uy39'
                    have ty39 := cx_up ty9_2 uy39
                    have wW_y39 := wq_up uy39 wW_y9_2
                    have vT_y39 : WG mu y39 y39r c4 0 (4 * 4) (fun j => a5 + j / 4 * 16 + j % 4) := wg_cs vT_y39' (by omega) (by omega) (fun j h1 h2 => by (try dsimp only) <;> omega)
                    exact rl_some ⟨rfl, (ti_bd tn_1 (by omega) (by omega)), uy39, vT_y39⟩
              · rintro ⟨y35_1, y35_2⟩ ⟨y35_1r, y35_2r⟩ ⟨ey35_1, ly35_1, uy35_2, wT_y35_2⟩
                obtain rfl : y35_1 = y35_1r := ey35_1
                have ly35_1 : 1 ≤ y35_1.toInt ∧ y35_1.toInt ≤ 1 := ly35_1
                have iy35_1 : TI y35_1 (1) := ti_c ly35_1
                have uy35_2 : Up mu 144 y9_2 y9_2r y35_2 y35_2r := uy35_2
                have ty35_2 := cx_up ty9_2 uy35_2
                have wW_y35_2 := wq_up uy35_2 wW_y9_2
                have wT_y35_2 : WG mu y35_2 y35_2r c4 0 (4 * 4) (fun j => a5 + j / 4 * 16 + j % 4) := wT_y35_2
                exact rl_some ⟨rfl, (ti_bd iy35_1 (by omega) (by omega)), uy35_2, wT_y35_2⟩
          · rintro ⟨y10_1, y10_2⟩ ⟨y10_1r, y10_2r⟩ ⟨ey10_1, ly10_1, uy10_2, wT_y10_2⟩
            obtain rfl : y10_1 = y10_1r := ey10_1
            have ly10_1 : 1 ≤ y10_1.toInt ∧ y10_1.toInt ≤ 1 := ly10_1
            have iy10_1 : TI y10_1 (1) := ti_c ly10_1
            have uy10_2 : Up mu 144 y9_2 y9_2r y10_2 y10_2r := uy10_2
            have ty10_2 := cx_up ty9_2 uy10_2
            have wW_y10_2 := wq_up uy10_2 wW_y9_2
            have wT_y10_2 : WG mu y10_2 y10_2r c4 0 (4 * 4) (fun j => a5 + j / 4 * 16 + j % 4) := wT_y10_2
            refine rl_bnd (Q := fun (y z : Int32 × DD) => y.1 = z.1 ∧ (1 ≤ y.1.toInt ∧ y.1.toInt ≤ 1) ∧ Up mu 144 y10_2 y10_2r y.2 z.2) ?_ ?_
            · refine rl_if (fun c84 => ?_) (fun c84 => ?_)
              · have dc84 := tl_eq ix2 tn_0 c84
                exfalso
                omega
              · refine rl_bnd (Q := fun (y z : Int32 × DD) => y.1 = z.1 ∧ (1 ≤ y.1.toInt ∧ y.1.toInt ≤ 1) ∧ Up mu 144 y10_2 y10_2r y.2 z.2) ?_ ?_
                · refine rl_if (fun c85 => ?_) (fun c85 => ?_)
                  · have dc85 := tl_eq ix1 tn_2 c85
                    exfalso
                    omega
                  · refine rl_bnd (Q := fun (y z : Int32) => y = z ∧ (0 ≤ y.toInt ∧ y.toInt ≤ 0)) ?_ ?_
                    · refine rl_if (fun c86 => ?_) (fun c86 => ?_)
                      · have dc86 := tl_eq ix1 tn_3 c86
                        exfalso
                        omega
                      · exact rl_some ⟨rfl, (ti_bd tn_0 (by omega) (by omega))⟩
                    · rintro y30 y30r ⟨ey30, ly30⟩
                      obtain rfl : y30 = y30r := ey30
                      have ly30 : 0 ≤ y30.toInt ∧ y30.toInt ≤ 0 := ly30
                      have iy30 : TI y30 (0) := ti_c ly30
                      refine rl_ltI (av_add tn_2 iy30 (by omega) (by omega)) (fun x31 ix31 => ?_)
                      refine rl_bnd (r_tapColumns ty10_2 i3 ix31 ⟨rfl, rfl⟩ hc4 i5 (by omega) (by omega) (by omega) (by omega) (by omega) wW_y10_2 (fun _ => wg_cs wT_y10_2 (by omega) (by omega) (fun j h1 h2 => by (try dsimp only) <;> omega))) ?_
                      rintro y32 y32r ⟨uy32', vT_y32'⟩
                      have uy32 : Up mu 144 y10_2 y10_2r y32 y32r := uy32'
                      have ty32 := cx_up ty10_2 uy32
                      have wW_y32 := wq_up uy32 wW_y10_2
                      have wT_y32 := wg_up uy32 wT_y10_2
                      have vT_y32 : WG mu y32 y32r c4 0 (4 * 4) (fun j => a5 + j / 4 * 16 + j % 4) := wg_cs vT_y32' (by omega) (by omega) (fun j h1 h2 => by (try dsimp only) <;> omega)
                      exact rl_some ⟨rfl, (ti_bd tn_1 (by omega) (by omega)), uy32⟩
                · rintro ⟨y28_1, y28_2⟩ ⟨y28_1r, y28_2r⟩ ⟨ey28_1, ly28_1, uy28_2⟩
                  obtain rfl : y28_1 = y28_1r := ey28_1
                  have ly28_1 : 1 ≤ y28_1.toInt ∧ y28_1.toInt ≤ 1 := ly28_1
                  have iy28_1 : TI y28_1 (1) := ti_c ly28_1
                  have uy28_2 : Up mu 144 y10_2 y10_2r y28_2 y28_2r := uy28_2
                  have ty28_2 := cx_up ty10_2 uy28_2
                  have wW_y28_2 := wq_up uy28_2 wW_y10_2
                  have wT_y28_2 := wg_up uy28_2 wT_y10_2
                  exact rl_some ⟨rfl, (ti_bd iy28_1 (by omega) (by omega)), uy28_2⟩
            · rintro ⟨y11_1, y11_2⟩ ⟨y11_1r, y11_2r⟩ ⟨ey11_1, ly11_1, uy11_2⟩
              obtain rfl : y11_1 = y11_1r := ey11_1
              have ly11_1 : 1 ≤ y11_1.toInt ∧ y11_1.toInt ≤ 1 := ly11_1
              have iy11_1 : TI y11_1 (1) := ti_c ly11_1
              have uy11_2 : Up mu 144 y10_2 y10_2r y11_2 y11_2r := uy11_2
              have ty11_2 := cx_up ty10_2 uy11_2
              have wW_y11_2 := wq_up uy11_2 wW_y10_2
              have wT_y11_2 := wg_up uy11_2 wT_y10_2
              refine rl_bnd (Q := fun (y z : DD) => Up mu 144 y11_2 y11_2r y z) ?_ ?_
              · refine rl_if (fun c87 => ?_) (fun c87 => ?_)
                · have dc87 := tl_eq ix1 tn_2 c87
                  exfalso
                  omega
                · refine rl_bnd (Q := fun (y z : DD) => Up mu 144 y11_2 y11_2r y z) ?_ ?_
                  · refine rl_if (fun c88 => ?_) (fun c88 => ?_)
                    · have dc88 := tl_eq ix2 tn_2 c88
                      exfalso
                      omega
                    · exact rl_some (up_0 mu (κ := 144) _ _)
                  · rintro y14 y14r uy14
                    have uy14 : Up mu 144 y11_2 y11_2r y14 y14r := uy14
                    have ty14 := cx_up ty11_2 uy14
                    have wW_y14 := wq_up uy14 wW_y11_2
                    have wT_y14 := wg_up uy14 wT_y11_2
                    exact rl_some uy14
              · rintro y12 y12r uy12
                have uy12 : Up mu 144 y11_2 y11_2r y12 y12r := uy12
                have ty12 := cx_up ty11_2 uy12
                have wW_y12 := wq_up uy12 wW_y11_2
                have wT_y12 := wg_up uy12 wT_y11_2
                exact rl_some ⟨(up_tr (up_tr (up_tr (up_tr uy8 uy9_2) uy10_2) uy11_2) uy12), wT_y12⟩
      · clear ix2 zx2
        have ix2 : TI x2 2 := yx2
        refine rl_ltI (av_sar 2 i1 (by decide)) (fun x3 ix3 => ?_)
        refine rl_ltI (av_sub ix3 tn_2 (by omega) (by omega)) (fun x4 ix4 => ?_)
        refine rl_ltI (av_sar 2 i2 (by decide)) (fun x5 ix5 => ?_)
        refine rl_ltI (av_sub ix5 tn_2 (by omega) (by omega)) (fun x6 ix6 => ?_)
        refine rl_ltI (av_add i3 tn_5 (by omega) (by omega)) (fun x7 ix7 => ?_)
        refine rl_bnd (r_fillWindow t ⟨rfl, rfl⟩ hq0 ix7 (by omega) (by omega)) ?_
        rintro y8 y8r ⟨uy8', vW_y8⟩
        have uy8 : Up mu 144 M N y8 y8r := uy8'
        have ty8 := cx_up t uy8
        refine rl_bnd (Q := fun (y z : Int32 × DD) => y.1 = z.1 ∧ (0 ≤ y.1.toInt ∧ y.1.toInt ≤ 0) ∧ Up mu 144 y8 y8r y.2 z.2) ?_ ?_
        · refine rl_if (fun c89 => ?_) (fun c89 => ?_)
          · have dc89 := tl_eq ix2 tn_0 c89
            exfalso
            omega
          · refine rl_bnd (Q := fun (y z : Int32 × DD) => y.1 = z.1 ∧ (0 ≤ y.1.toInt ∧ y.1.toInt ≤ 0) ∧ Up mu 144 y8 y8r y.2 z.2) ?_ ?_
            · refine rl_if (fun c90 => ?_) (fun c90 => ?_)
              · have dc90 := tl_eq ix1 tn_0 c90
                exfalso
                omega
              · exact rl_some ⟨rfl, (ti_bd tn_0 (by omega) (by omega)), (up_0 mu (κ := 144) _ _)⟩
            · rintro ⟨y42_1, y42_2⟩ ⟨y42_1r, y42_2r⟩ ⟨ey42_1, ly42_1, uy42_2⟩
              obtain rfl : y42_1 = y42_1r := ey42_1
              have ly42_1 : 0 ≤ y42_1.toInt ∧ y42_1.toInt ≤ 0 := ly42_1
              have iy42_1 : TI y42_1 (0) := ti_c ly42_1
              have uy42_2 : Up mu 144 y8 y8r y42_2 y42_2r := uy42_2
              have ty42_2 := cx_up ty8 uy42_2
              have wW_y42_2 := wq_up uy42_2 vW_y8
              exact rl_some ⟨rfl, (ti_bd iy42_1 (by omega) (by omega)), uy42_2⟩
        · rintro ⟨y9_1, y9_2⟩ ⟨y9_1r, y9_2r⟩ ⟨ey9_1, ly9_1, uy9_2⟩
          obtain rfl : y9_1 = y9_1r := ey9_1
          have ly9_1 : 0 ≤ y9_1.toInt ∧ y9_1.toInt ≤ 0 := ly9_1
          have iy9_1 : TI y9_1 (0) := ti_c ly9_1
          have uy9_2 : Up mu 144 y8 y8r y9_2 y9_2r := uy9_2
          have ty9_2 := cx_up ty8 uy9_2
          have wW_y9_2 := wq_up uy9_2 vW_y8
          refine rl_bnd (Q := fun (y z : Int32 × DD) => y.1 = z.1 ∧ (0 ≤ y.1.toInt ∧ y.1.toInt ≤ 0) ∧ Up mu 144 y9_2 y9_2r y.2 z.2) ?_ ?_
          · refine rl_if (fun c91 => ?_) (fun c91 => ?_)
            · have dc91 := tl_eq ix1 tn_0 c91
              exfalso
              omega
            · refine rl_bnd (Q := fun (y z : Int32 × DD) => y.1 = z.1 ∧ (0 ≤ y.1.toInt ∧ y.1.toInt ≤ 0) ∧ Up mu 144 y9_2 y9_2r y.2 z.2) ?_ ?_
              · refine rl_if (fun c92 => ?_) (fun c92 => ?_)
                · have dc92 := tl_eq ix2 tn_2 c92
                  exact rl_some ⟨rfl, (ti_bd iy9_1 (by omega) (by omega)), (up_0 mu (κ := 144) _ _)⟩
                · have dc92 := tl_ne ix2 tn_2 c92
                  exfalso
                  omega
              · rintro ⟨y35_1, y35_2⟩ ⟨y35_1r, y35_2r⟩ ⟨ey35_1, ly35_1, uy35_2⟩
                obtain rfl : y35_1 = y35_1r := ey35_1
                have ly35_1 : 0 ≤ y35_1.toInt ∧ y35_1.toInt ≤ 0 := ly35_1
                have iy35_1 : TI y35_1 (0) := ti_c ly35_1
                have uy35_2 : Up mu 144 y9_2 y9_2r y35_2 y35_2r := uy35_2
                have ty35_2 := cx_up ty9_2 uy35_2
                have wW_y35_2 := wq_up uy35_2 wW_y9_2
                exact rl_some ⟨rfl, (ti_bd iy35_1 (by omega) (by omega)), uy35_2⟩
          · rintro ⟨y10_1, y10_2⟩ ⟨y10_1r, y10_2r⟩ ⟨ey10_1, ly10_1, uy10_2⟩
            obtain rfl : y10_1 = y10_1r := ey10_1
            have ly10_1 : 0 ≤ y10_1.toInt ∧ y10_1.toInt ≤ 0 := ly10_1
            have iy10_1 : TI y10_1 (0) := ti_c ly10_1
            have uy10_2 : Up mu 144 y9_2 y9_2r y10_2 y10_2r := uy10_2
            have ty10_2 := cx_up ty9_2 uy10_2
            have wW_y10_2 := wq_up uy10_2 wW_y9_2
            refine rl_bnd (Q := fun (y z : Int32 × DD) => y.1 = z.1 ∧ (1 ≤ y.1.toInt ∧ y.1.toInt ≤ 1) ∧ Up mu 144 y10_2 y10_2r y.2 z.2 ∧ WG mu y.2 z.2 c4 0 (4 * 4) (fun j => a5 + j / 4 * 16 + j % 4)) ?_ ?_
            · refine rl_if (fun c93 => ?_) (fun c93 => ?_)
              · have dc93 := tl_eq ix2 tn_0 c93
                exfalso
                omega
              · refine rl_bnd (Q := fun (y z : Int32 × DD) => y.1 = z.1 ∧ (1 ≤ y.1.toInt ∧ y.1.toInt ≤ 1) ∧ Up mu 144 y10_2 y10_2r y.2 z.2 ∧ WG mu y.2 z.2 c4 0 (4 * 4) (fun j => a5 + j / 4 * 16 + j % 4)) ?_ ?_
                · refine rl_if (fun c94 => ?_) (fun c94 => ?_)
                  · have dc94 := tl_eq ix1 tn_2 c94
                    exfalso
                    omega
                  · refine rl_bnd (Q := fun (y z : Int32) => y = z ∧ (0 ≤ y.toInt ∧ y.toInt ≤ 0)) ?_ ?_
                    · refine rl_if (fun c95 => ?_) (fun c95 => ?_)
                      · have dc95 := tl_eq ix1 tn_3 c95
                        exfalso
                        omega
                      · exact rl_some ⟨rfl, (ti_bd tn_0 (by omega) (by omega))⟩
                    · rintro y30 y30r ⟨ey30, ly30⟩
                      obtain rfl : y30 = y30r := ey30
                      have ly30 : 0 ≤ y30.toInt ∧ y30.toInt ≤ 0 := ly30
                      have iy30 : TI y30 (0) := ti_c ly30
                      refine rl_ltI (av_add tn_2 iy30 (by omega) (by omega)) (fun x31 ix31 => ?_)
                      refine rl_bnd (r_tapColumns ty10_2 i3 ix31 ⟨rfl, rfl⟩ hc4 i5 (by omega) (by omega) (by omega) (by omega) (by omega) wW_y10_2 (fun h => absurd (by first | rfl | assumption | omega) h)) ?_
                      rintro y32 y32r ⟨uy32', vT_y32'⟩
                      have uy32 : Up mu 144 y10_2 y10_2r y32 y32r := uy32'
                      have ty32 := cx_up ty10_2 uy32
                      have wW_y32 := wq_up uy32 wW_y10_2
                      have vT_y32 : WG mu y32 y32r c4 0 (4 * 4) (fun j => a5 + j / 4 * 16 + j % 4) := wg_cs vT_y32' (by omega) (by omega) (fun j h1 h2 => by (try dsimp only) <;> omega)
                      exact rl_some ⟨rfl, (ti_bd tn_1 (by omega) (by omega)), uy32, vT_y32⟩
                · rintro ⟨y28_1, y28_2⟩ ⟨y28_1r, y28_2r⟩ ⟨ey28_1, ly28_1, uy28_2, wT_y28_2⟩
                  obtain rfl : y28_1 = y28_1r := ey28_1
                  have ly28_1 : 1 ≤ y28_1.toInt ∧ y28_1.toInt ≤ 1 := ly28_1
                  have iy28_1 : TI y28_1 (1) := ti_c ly28_1
                  have uy28_2 : Up mu 144 y10_2 y10_2r y28_2 y28_2r := uy28_2
                  have ty28_2 := cx_up ty10_2 uy28_2
                  have wW_y28_2 := wq_up uy28_2 wW_y10_2
                  have wT_y28_2 : WG mu y28_2 y28_2r c4 0 (4 * 4) (fun j => a5 + j / 4 * 16 + j % 4) := wT_y28_2
                  exact rl_some ⟨rfl, (ti_bd iy28_1 (by omega) (by omega)), uy28_2, wT_y28_2⟩
            · rintro ⟨y11_1, y11_2⟩ ⟨y11_1r, y11_2r⟩ ⟨ey11_1, ly11_1, uy11_2, wT_y11_2⟩
              obtain rfl : y11_1 = y11_1r := ey11_1
              have ly11_1 : 1 ≤ y11_1.toInt ∧ y11_1.toInt ≤ 1 := ly11_1
              have iy11_1 : TI y11_1 (1) := ti_c ly11_1
              have uy11_2 : Up mu 144 y10_2 y10_2r y11_2 y11_2r := uy11_2
              have ty11_2 := cx_up ty10_2 uy11_2
              have wW_y11_2 := wq_up uy11_2 wW_y10_2
              have wT_y11_2 : WG mu y11_2 y11_2r c4 0 (4 * 4) (fun j => a5 + j / 4 * 16 + j % 4) := wT_y11_2
              refine rl_bnd (Q := fun (y z : DD) => Up mu 144 y11_2 y11_2r y z) ?_ ?_
              · refine rl_if (fun c96 => ?_) (fun c96 => ?_)
                · have dc96 := tl_eq ix1 tn_2 c96
                  exfalso
                  omega
                · refine rl_bnd (Q := fun (y z : DD) => Up mu 144 y11_2 y11_2r y z) ?_ ?_
                  · refine rl_if (fun c97 => ?_) (fun c97 => ?_)
                    · have dc97 := tl_eq ix2 tn_2 c97
                      refine rl_bnd (Q := fun (y z : DD) => Up mu 144 y11_2 y11_2r y z) ?_ ?_
                      · refine rl_if (fun c98 => ?_) (fun c98 => ?_)
                        · have dc98 := tl_eq ix1 tn_0 c98
                          exfalso
                          omega
                        · refine rl_bnd (r_tapBoth ty11_2 i3 ⟨rfl, rfl⟩ hc4 i5 (by omega) (by omega) (by omega) wW_y11_2 (fun _ => wg_cs wT_y11_2 (by omega) (by omega) (fun j h1 h2 => by (try dsimp only) <;> omega))) ?_
                          rintro y18 y18r ⟨uy18', vT_y18'⟩
                          have uy18 : Up mu 144 y11_2 y11_2r y18 y18r := uy18'
                          have ty18 := cx_up ty11_2 uy18
                          have wW_y18 := wq_up uy18 wW_y11_2
                          have wT_y18 := wg_up uy18 wT_y11_2
                          have vT_y18 : WG mu y18 y18r c4 0 (4 * 4) (fun j => a5 + j / 4 * 16 + j % 4) := wg_cs vT_y18' (by omega) (by omega) (fun j h1 h2 => by (try dsimp only) <;> omega)
                          exact rl_some uy18
                      · rintro y16 y16r uy16
                        have uy16 : Up mu 144 y11_2 y11_2r y16 y16r := uy16
                        have ty16 := cx_up ty11_2 uy16
                        have wW_y16 := wq_up uy16 wW_y11_2
                        have wT_y16 := wg_up uy16 wT_y11_2
                        exact rl_some uy16
                    · have dc97 := tl_ne ix2 tn_2 c97
                      exfalso
                      omega
                  · rintro y14 y14r uy14
                    have uy14 : Up mu 144 y11_2 y11_2r y14 y14r := uy14
                    have ty14 := cx_up ty11_2 uy14
                    have wW_y14 := wq_up uy14 wW_y11_2
                    have wT_y14 := wg_up uy14 wT_y11_2
                    exact rl_some uy14
              · rintro y12 y12r uy12
                have uy12 : Up mu 144 y11_2 y11_2r y12 y12r := uy12
                have ty12 := cx_up ty11_2 uy12
                have wW_y12 := wq_up uy12 wW_y11_2
                have wT_y12 := wg_up uy12 wT_y11_2
                exact rl_some ⟨(up_tr (up_tr (up_tr (up_tr uy8 uy9_2) uy10_2) uy11_2) uy12), wT_y12⟩
      · clear ix2 zx2
        have ix2 : TI x2 3 := yx2
        refine rl_ltI (av_sar 2 i1 (by decide)) (fun x3 ix3 => ?_)
        refine rl_ltI (av_sub ix3 tn_2 (by omega) (by omega)) (fun x4 ix4 => ?_)
        refine rl_ltI (av_sar 2 i2 (by decide)) (fun x5 ix5 => ?_)
        refine rl_ltI (av_sub ix5 tn_2 (by omega) (by omega)) (fun x6 ix6 => ?_)
        refine rl_ltI (av_add i3 tn_5 (by omega) (by omega)) (fun x7 ix7 => ?_)
        refine rl_bnd (r_fillWindow t ⟨rfl, rfl⟩ hq0 ix7 (by omega) (by omega)) ?_
        rintro y8 y8r ⟨uy8', vW_y8⟩
        have uy8 : Up mu 144 M N y8 y8r := uy8'
        have ty8 := cx_up t uy8
        refine rl_bnd (Q := fun (y z : Int32 × DD) => y.1 = z.1 ∧ (0 ≤ y.1.toInt ∧ y.1.toInt ≤ 0) ∧ Up mu 144 y8 y8r y.2 z.2) ?_ ?_
        · refine rl_if (fun c99 => ?_) (fun c99 => ?_)
          · have dc99 := tl_eq ix2 tn_0 c99
            exfalso
            omega
          · refine rl_bnd (Q := fun (y z : Int32 × DD) => y.1 = z.1 ∧ (0 ≤ y.1.toInt ∧ y.1.toInt ≤ 0) ∧ Up mu 144 y8 y8r y.2 z.2) ?_ ?_
            · refine rl_if (fun c100 => ?_) (fun c100 => ?_)
              · have dc100 := tl_eq ix1 tn_0 c100
                exfalso
                omega
              · exact rl_some ⟨rfl, (ti_bd tn_0 (by omega) (by omega)), (up_0 mu (κ := 144) _ _)⟩
            · rintro ⟨y42_1, y42_2⟩ ⟨y42_1r, y42_2r⟩ ⟨ey42_1, ly42_1, uy42_2⟩
              obtain rfl : y42_1 = y42_1r := ey42_1
              have ly42_1 : 0 ≤ y42_1.toInt ∧ y42_1.toInt ≤ 0 := ly42_1
              have iy42_1 : TI y42_1 (0) := ti_c ly42_1
              have uy42_2 : Up mu 144 y8 y8r y42_2 y42_2r := uy42_2
              have ty42_2 := cx_up ty8 uy42_2
              have wW_y42_2 := wq_up uy42_2 vW_y8
              exact rl_some ⟨rfl, (ti_bd iy42_1 (by omega) (by omega)), uy42_2⟩
        · rintro ⟨y9_1, y9_2⟩ ⟨y9_1r, y9_2r⟩ ⟨ey9_1, ly9_1, uy9_2⟩
          obtain rfl : y9_1 = y9_1r := ey9_1
          have ly9_1 : 0 ≤ y9_1.toInt ∧ y9_1.toInt ≤ 0 := ly9_1
          have iy9_1 : TI y9_1 (0) := ti_c ly9_1
          have uy9_2 : Up mu 144 y8 y8r y9_2 y9_2r := uy9_2
          have ty9_2 := cx_up ty8 uy9_2
          have wW_y9_2 := wq_up uy9_2 vW_y8
          refine rl_bnd (Q := fun (y z : Int32 × DD) => y.1 = z.1 ∧ (1 ≤ y.1.toInt ∧ y.1.toInt ≤ 1) ∧ Up mu 144 y9_2 y9_2r y.2 z.2 ∧ WG mu y.2 z.2 c4 0 (4 * 4) (fun j => a5 + j / 4 * 16 + j % 4)) ?_ ?_
          · refine rl_if (fun c101 => ?_) (fun c101 => ?_)
            · have dc101 := tl_eq ix1 tn_0 c101
              exfalso
              omega
            · refine rl_bnd (Q := fun (y z : Int32 × DD) => y.1 = z.1 ∧ (1 ≤ y.1.toInt ∧ y.1.toInt ≤ 1) ∧ Up mu 144 y9_2 y9_2r y.2 z.2 ∧ WG mu y.2 z.2 c4 0 (4 * 4) (fun j => a5 + j / 4 * 16 + j % 4)) ?_ ?_
              · refine rl_if (fun c102 => ?_) (fun c102 => ?_)
                · have dc102 := tl_eq ix2 tn_2 c102
                  exfalso
                  omega
                · refine rl_bnd (Q := fun (y z : Int32) => y = z ∧ (1 ≤ y.toInt ∧ y.toInt ≤ 1)) ?_ ?_
                  · refine rl_if (fun c103 => ?_) (fun c103 => ?_)
                    · have dc103 := tl_eq ix2 tn_3 c103
                      exact rl_some ⟨rfl, (ti_bd tn_1 (by omega) (by omega))⟩
                    · have dc103 := tl_ne ix2 tn_3 c103
                      exfalso
                      omega
                  · rintro y37 y37r ⟨ey37, ly37⟩
                    obtain rfl : y37 = y37r := ey37
                    have ly37 : 1 ≤ y37.toInt ∧ y37.toInt ≤ 1 := ly37
                    have iy37 : TI y37 (1) := ti_c ly37
                    refine rl_ltI (av_add tn_2 iy37 (by omega) (by omega)) (fun x38 ix38 => ?_)
                    refine rl_bnd (r_tapRows ty9_2 i3 ix38 ⟨rfl, rfl⟩ hc4 i5 (by omega) (by omega) (by omega) (by omega) (by omega) wW_y9_2 (fun h => absurd (by first | rfl | assumption | omega) h)) ?_
                    rintro y39 y39r ⟨uy39', vT_y39'⟩
                    have uy39 : Up mu 144 y9_2 y9_2r y39 y39r := uy39'
                    have ty39 := cx_up ty9_2 uy39
                    have wW_y39 := wq_up uy39 wW_y9_2
                    have vT_y39 : WG mu y39 y39r c4 0 (4 * 4) (fun j => a5 + j / 4 * 16 + j % 4) := wg_cs vT_y39' (by omega) (by omega) (fun j h1 h2 => by (try dsimp only) <;> omega)
                    exact rl_some ⟨rfl, (ti_bd tn_1 (by omega) (by omega)), uy39, vT_y39⟩
              · rintro ⟨y35_1, y35_2⟩ ⟨y35_1r, y35_2r⟩ ⟨ey35_1, ly35_1, uy35_2, wT_y35_2⟩
                obtain rfl : y35_1 = y35_1r := ey35_1
                have ly35_1 : 1 ≤ y35_1.toInt ∧ y35_1.toInt ≤ 1 := ly35_1
                have iy35_1 : TI y35_1 (1) := ti_c ly35_1
                have uy35_2 : Up mu 144 y9_2 y9_2r y35_2 y35_2r := uy35_2
                have ty35_2 := cx_up ty9_2 uy35_2
                have wW_y35_2 := wq_up uy35_2 wW_y9_2
                have wT_y35_2 : WG mu y35_2 y35_2r c4 0 (4 * 4) (fun j => a5 + j / 4 * 16 + j % 4) := wT_y35_2
                exact rl_some ⟨rfl, (ti_bd iy35_1 (by omega) (by omega)), uy35_2, wT_y35_2⟩
          · rintro ⟨y10_1, y10_2⟩ ⟨y10_1r, y10_2r⟩ ⟨ey10_1, ly10_1, uy10_2, wT_y10_2⟩
            obtain rfl : y10_1 = y10_1r := ey10_1
            have ly10_1 : 1 ≤ y10_1.toInt ∧ y10_1.toInt ≤ 1 := ly10_1
            have iy10_1 : TI y10_1 (1) := ti_c ly10_1
            have uy10_2 : Up mu 144 y9_2 y9_2r y10_2 y10_2r := uy10_2
            have ty10_2 := cx_up ty9_2 uy10_2
            have wW_y10_2 := wq_up uy10_2 wW_y9_2
            have wT_y10_2 : WG mu y10_2 y10_2r c4 0 (4 * 4) (fun j => a5 + j / 4 * 16 + j % 4) := wT_y10_2
            refine rl_bnd (Q := fun (y z : Int32 × DD) => y.1 = z.1 ∧ (1 ≤ y.1.toInt ∧ y.1.toInt ≤ 1) ∧ Up mu 144 y10_2 y10_2r y.2 z.2) ?_ ?_
            · refine rl_if (fun c104 => ?_) (fun c104 => ?_)
              · have dc104 := tl_eq ix2 tn_0 c104
                exfalso
                omega
              · refine rl_bnd (Q := fun (y z : Int32 × DD) => y.1 = z.1 ∧ (1 ≤ y.1.toInt ∧ y.1.toInt ≤ 1) ∧ Up mu 144 y10_2 y10_2r y.2 z.2) ?_ ?_
                · refine rl_if (fun c105 => ?_) (fun c105 => ?_)
                  · have dc105 := tl_eq ix1 tn_2 c105
                    exfalso
                    omega
                  · refine rl_bnd (Q := fun (y z : Int32) => y = z ∧ (0 ≤ y.toInt ∧ y.toInt ≤ 0)) ?_ ?_
                    · refine rl_if (fun c106 => ?_) (fun c106 => ?_)
                      · have dc106 := tl_eq ix1 tn_3 c106
                        exfalso
                        omega
                      · exact rl_some ⟨rfl, (ti_bd tn_0 (by omega) (by omega))⟩
                    · rintro y30 y30r ⟨ey30, ly30⟩
                      obtain rfl : y30 = y30r := ey30
                      have ly30 : 0 ≤ y30.toInt ∧ y30.toInt ≤ 0 := ly30
                      have iy30 : TI y30 (0) := ti_c ly30
                      refine rl_ltI (av_add tn_2 iy30 (by omega) (by omega)) (fun x31 ix31 => ?_)
                      refine rl_bnd (r_tapColumns ty10_2 i3 ix31 ⟨rfl, rfl⟩ hc4 i5 (by omega) (by omega) (by omega) (by omega) (by omega) wW_y10_2 (fun _ => wg_cs wT_y10_2 (by omega) (by omega) (fun j h1 h2 => by (try dsimp only) <;> omega))) ?_
                      rintro y32 y32r ⟨uy32', vT_y32'⟩
                      have uy32 : Up mu 144 y10_2 y10_2r y32 y32r := uy32'
                      have ty32 := cx_up ty10_2 uy32
                      have wW_y32 := wq_up uy32 wW_y10_2
                      have wT_y32 := wg_up uy32 wT_y10_2
                      have vT_y32 : WG mu y32 y32r c4 0 (4 * 4) (fun j => a5 + j / 4 * 16 + j % 4) := wg_cs vT_y32' (by omega) (by omega) (fun j h1 h2 => by (try dsimp only) <;> omega)
                      exact rl_some ⟨rfl, (ti_bd tn_1 (by omega) (by omega)), uy32⟩
                · rintro ⟨y28_1, y28_2⟩ ⟨y28_1r, y28_2r⟩ ⟨ey28_1, ly28_1, uy28_2⟩
                  obtain rfl : y28_1 = y28_1r := ey28_1
                  have ly28_1 : 1 ≤ y28_1.toInt ∧ y28_1.toInt ≤ 1 := ly28_1
                  have iy28_1 : TI y28_1 (1) := ti_c ly28_1
                  have uy28_2 : Up mu 144 y10_2 y10_2r y28_2 y28_2r := uy28_2
                  have ty28_2 := cx_up ty10_2 uy28_2
                  have wW_y28_2 := wq_up uy28_2 wW_y10_2
                  have wT_y28_2 := wg_up uy28_2 wT_y10_2
                  exact rl_some ⟨rfl, (ti_bd iy28_1 (by omega) (by omega)), uy28_2⟩
            · rintro ⟨y11_1, y11_2⟩ ⟨y11_1r, y11_2r⟩ ⟨ey11_1, ly11_1, uy11_2⟩
              obtain rfl : y11_1 = y11_1r := ey11_1
              have ly11_1 : 1 ≤ y11_1.toInt ∧ y11_1.toInt ≤ 1 := ly11_1
              have iy11_1 : TI y11_1 (1) := ti_c ly11_1
              have uy11_2 : Up mu 144 y10_2 y10_2r y11_2 y11_2r := uy11_2
              have ty11_2 := cx_up ty10_2 uy11_2
              have wW_y11_2 := wq_up uy11_2 wW_y10_2
              have wT_y11_2 := wg_up uy11_2 wT_y10_2
              refine rl_bnd (Q := fun (y z : DD) => Up mu 144 y11_2 y11_2r y z) ?_ ?_
              · refine rl_if (fun c107 => ?_) (fun c107 => ?_)
                · have dc107 := tl_eq ix1 tn_2 c107
                  exfalso
                  omega
                · refine rl_bnd (Q := fun (y z : DD) => Up mu 144 y11_2 y11_2r y z) ?_ ?_
                  · refine rl_if (fun c108 => ?_) (fun c108 => ?_)
                    · have dc108 := tl_eq ix2 tn_2 c108
                      exfalso
                      omega
                    · exact rl_some (up_0 mu (κ := 144) _ _)
                  · rintro y14 y14r uy14
                    have uy14 : Up mu 144 y11_2 y11_2r y14 y14r := uy14
                    have ty14 := cx_up ty11_2 uy14
                    have wW_y14 := wq_up uy14 wW_y11_2
                    have wT_y14 := wg_up uy14 wT_y11_2
                    exact rl_some uy14
              · rintro y12 y12r uy12
                have uy12 : Up mu 144 y11_2 y11_2r y12 y12r := uy12
                have ty12 := cx_up ty11_2 uy12
                have wW_y12 := wq_up uy12 wW_y11_2
                have wT_y12 := wg_up uy12 wT_y11_2
                exact rl_some ⟨(up_tr (up_tr (up_tr (up_tr uy8 uy9_2) uy10_2) uy11_2) uy12), wT_y12⟩
    · clear ix1 zx1
      have ix1 : TI x1 2 := yx1
      refine rl_ltI (av_and 2 i2 (by decide) (by decide)) (fun x2 ix2 => ?_)
      have zx2 : x2.toInt = _ := ix2
      rcases (by omega : x2.toInt = 0 ∨ x2.toInt = 1 ∨ x2.toInt = 2 ∨ x2.toInt = 3) with yx2 | yx2 | yx2 | yx2
      · clear ix2 zx2
        have ix2 : TI x2 0 := yx2
        refine rl_ltI (av_sar 2 i1 (by decide)) (fun x3 ix3 => ?_)
        refine rl_ltI (av_sub ix3 tn_2 (by omega) (by omega)) (fun x4 ix4 => ?_)
        refine rl_ltI (av_sar 2 i2 (by decide)) (fun x5 ix5 => ?_)
        refine rl_ltI (av_sub ix5 tn_2 (by omega) (by omega)) (fun x6 ix6 => ?_)
        refine rl_ltI (av_add i3 tn_5 (by omega) (by omega)) (fun x7 ix7 => ?_)
        refine rl_bnd (r_fillWindow t ⟨rfl, rfl⟩ hq0 ix7 (by omega) (by omega)) ?_
        rintro y8 y8r ⟨uy8', vW_y8⟩
        have uy8 : Up mu 144 M N y8 y8r := uy8'
        have ty8 := cx_up t uy8
        refine rl_bnd (Q := fun (y z : Int32 × DD) => y.1 = z.1 ∧ (0 ≤ y.1.toInt ∧ y.1.toInt ≤ 0) ∧ Up mu 144 y8 y8r y.2 z.2) ?_ ?_
        · refine rl_if (fun c109 => ?_) (fun c109 => ?_)
          · have dc109 := tl_eq ix2 tn_0 c109
            refine rl_bnd (Q := fun (y z : Int32 × DD) => y.1 = z.1 ∧ (0 ≤ y.1.toInt ∧ y.1.toInt ≤ 0) ∧ Up mu 144 y8 y8r y.2 z.2) ?_ ?_
            · refine rl_if (fun c110 => ?_) (fun c110 => ?_)
              · have dc110 := tl_eq ix1 tn_2 c110
                refine rl_bnd (Q := fun (y z : Int32 × DD) => y.1 = z.1 ∧ (0 ≤ y.1.toInt ∧ y.1.toInt ≤ 0) ∧ Up mu 144 y8 y8r y.2 z.2) ?_ ?_
                · refine rl_if (fun c111 => ?_) (fun c111 => ?_)
                  · have dc111 := tl_eq ix1 tn_0 c111
                    exfalso
                    omega
                  · exact rl_some ⟨rfl, (ti_bd tn_0 (by omega) (by omega)), (up_0 mu (κ := 144) _ _)⟩
                · rintro ⟨y106_1, y106_2⟩ ⟨y106_1r, y106_2r⟩ ⟨ey106_1, ly106_1, uy106_2⟩
                  obtain rfl : y106_1 = y106_1r := ey106_1
                  have ly106_1 : 0 ≤ y106_1.toInt ∧ y106_1.toInt ≤ 0 := ly106_1
                  have iy106_1 : TI y106_1 (0) := ti_c ly106_1
                  have uy106_2 : Up mu 144 y8 y8r y106_2 y106_2r := uy106_2
                  have ty106_2 := cx_up ty8 uy106_2
                  have wW_y106_2 := wq_up uy106_2 vW_y8
                  exact rl_some ⟨rfl, (ti_bd iy106_1 (by omega) (by omega)), uy106_2⟩
              · have dc110 := tl_ne ix1 tn_2 c110
                exfalso
                omega
            · rintro ⟨y75_1, y75_2⟩ ⟨y75_1r, y75_2r⟩ ⟨ey75_1, ly75_1, uy75_2⟩
              obtain rfl : y75_1 = y75_1r := ey75_1
              have ly75_1 : 0 ≤ y75_1.toInt ∧ y75_1.toInt ≤ 0 := ly75_1
              have iy75_1 : TI y75_1 (0) := ti_c ly75_1
              have uy75_2 : Up mu 144 y8 y8r y75_2 y75_2r := uy75_2
              have ty75_2 := cx_up ty8 uy75_2
              have wW_y75_2 := wq_up uy75_2 vW_y8
              exact rl_some ⟨rfl, (ti_bd iy75_1 (by omega) (by omega)), uy75_2⟩
          · have dc109 := tl_ne ix2 tn_0 c109
            exfalso
            omega
        · rintro ⟨y9_1, y9_2⟩ ⟨y9_1r, y9_2r⟩ ⟨ey9_1, ly9_1, uy9_2⟩
          obtain rfl : y9_1 = y9_1r := ey9_1
          have ly9_1 : 0 ≤ y9_1.toInt ∧ y9_1.toInt ≤ 0 := ly9_1
          have iy9_1 : TI y9_1 (0) := ti_c ly9_1
          have uy9_2 : Up mu 144 y8 y8r y9_2 y9_2r := uy9_2
          have ty9_2 := cx_up ty8 uy9_2
          have wW_y9_2 := wq_up uy9_2 vW_y8
          refine rl_bnd (Q := fun (y z : Int32 × DD) => y.1 = z.1 ∧ (1 ≤ y.1.toInt ∧ y.1.toInt ≤ 1) ∧ Up mu 144 y9_2 y9_2r y.2 z.2 ∧ WG mu y.2 z.2 c4 0 (4 * 4) (fun j => a5 + j / 4 * 16 + j % 4)) ?_ ?_
          · refine rl_if (fun c112 => ?_) (fun c112 => ?_)
            · have dc112 := tl_eq ix1 tn_0 c112
              exfalso
              omega
            · refine rl_bnd (Q := fun (y z : Int32 × DD) => y.1 = z.1 ∧ (1 ≤ y.1.toInt ∧ y.1.toInt ≤ 1) ∧ Up mu 144 y9_2 y9_2r y.2 z.2 ∧ WG mu y.2 z.2 c4 0 (4 * 4) (fun j => a5 + j / 4 * 16 + j % 4)) ?_ ?_
              · refine rl_if (fun c113 => ?_) (fun c113 => ?_)
                · have dc113 := tl_eq ix2 tn_2 c113
                  exfalso
                  omega
                · refine rl_bnd (Q := fun (y z : Int32) => y = z ∧ (0 ≤ y.toInt ∧ y.toInt ≤ 0)) ?_ ?_
                  · refine rl_if (fun c114 => ?_) (fun c114 => ?_)
                    · have dc114 := tl_eq ix2 tn_3 c114
                      exfalso
                      omega
                    · exact rl_some ⟨rfl, (ti_bd tn_0 (by omega) (by omega))⟩
                  · rintro y37 y37r ⟨ey37, ly37⟩
                    obtain rfl : y37 = y37r := ey37
                    have ly37 : 0 ≤ y37.toInt ∧ y37.toInt ≤ 0 := ly37
                    have iy37 : TI y37 (0) := ti_c ly37
                    refine rl_ltI (av_add tn_2 iy37 (by omega) (by omega)) (fun x38 ix38 => ?_)
                    refine rl_bnd (r_tapRows ty9_2 i3 ix38 ⟨rfl, rfl⟩ hc4 i5 (by omega) (by omega) (by omega) (by omega) (by omega) wW_y9_2 (fun h => absurd (by first | rfl | assumption | omega) h)) ?_
                    rintro y39 y39r ⟨uy39', vT_y39'⟩
                    have uy39 : Up mu 144 y9_2 y9_2r y39 y39r := uy39'
                    have ty39 := cx_up ty9_2 uy39
                    have wW_y39 := wq_up uy39 wW_y9_2
                    have vT_y39 : WG mu y39 y39r c4 0 (4 * 4) (fun j => a5 + j / 4 * 16 + j % 4) := wg_cs vT_y39' (by omega) (by omega) (fun j h1 h2 => by (try dsimp only) <;> omega)
                    exact rl_some ⟨rfl, (ti_bd tn_1 (by omega) (by omega)), uy39, vT_y39⟩
              · rintro ⟨y35_1, y35_2⟩ ⟨y35_1r, y35_2r⟩ ⟨ey35_1, ly35_1, uy35_2, wT_y35_2⟩
                obtain rfl : y35_1 = y35_1r := ey35_1
                have ly35_1 : 1 ≤ y35_1.toInt ∧ y35_1.toInt ≤ 1 := ly35_1
                have iy35_1 : TI y35_1 (1) := ti_c ly35_1
                have uy35_2 : Up mu 144 y9_2 y9_2r y35_2 y35_2r := uy35_2
                have ty35_2 := cx_up ty9_2 uy35_2
                have wW_y35_2 := wq_up uy35_2 wW_y9_2
                have wT_y35_2 : WG mu y35_2 y35_2r c4 0 (4 * 4) (fun j => a5 + j / 4 * 16 + j % 4) := wT_y35_2
                exact rl_some ⟨rfl, (ti_bd iy35_1 (by omega) (by omega)), uy35_2, wT_y35_2⟩
          · rintro ⟨y10_1, y10_2⟩ ⟨y10_1r, y10_2r⟩ ⟨ey10_1, ly10_1, uy10_2, wT_y10_2⟩
            obtain rfl : y10_1 = y10_1r := ey10_1
            have ly10_1 : 1 ≤ y10_1.toInt ∧ y10_1.toInt ≤ 1 := ly10_1
            have iy10_1 : TI y10_1 (1) := ti_c ly10_1
            have uy10_2 : Up mu 144 y9_2 y9_2r y10_2 y10_2r := uy10_2
            have ty10_2 := cx_up ty9_2 uy10_2
            have wW_y10_2 := wq_up uy10_2 wW_y9_2
            have wT_y10_2 : WG mu y10_2 y10_2r c4 0 (4 * 4) (fun j => a5 + j / 4 * 16 + j % 4) := wT_y10_2
            refine rl_bnd (Q := fun (y z : Int32 × DD) => y.1 = z.1 ∧ (1 ≤ y.1.toInt ∧ y.1.toInt ≤ 1) ∧ Up mu 144 y10_2 y10_2r y.2 z.2) ?_ ?_
            · refine rl_if (fun c115 => ?_) (fun c115 => ?_)
              · have dc115 := tl_eq ix2 tn_0 c115
                exact rl_some ⟨rfl, (ti_bd iy10_1 (by omega) (by omega)), (up_0 mu (κ := 144) _ _)⟩
              · have dc115 := tl_ne ix2 tn_0 c115
                exfalso
                omega
            · rintro ⟨y11_1, y11_2⟩ ⟨y11_1r, y11_2r⟩ ⟨ey11_1, ly11_1, uy11_2⟩
              obtain rfl : y11_1 = y11_1r := ey11_1
              have ly11_1 : 1 ≤ y11_1.toInt ∧ y11_1.toInt ≤ 1 := ly11_1
              have iy11_1 : TI y11_1 (1) := ti_c ly11_1
              have uy11_2 : Up mu 144 y10_2 y10_2r y11_2 y11_2r := uy11_2
              have ty11_2 := cx_up ty10_2 uy11_2
              have wW_y11_2 := wq_up uy11_2 wW_y10_2
              have wT_y11_2 := wg_up uy11_2 wT_y10_2
              refine rl_bnd (Q := fun (y z : DD) => Up mu 144 y11_2 y11_2r y z) ?_ ?_
              · refine rl_if (fun c116 => ?_) (fun c116 => ?_)
                · have dc116 := tl_eq ix1 tn_2 c116
                  refine rl_bnd (Q := fun (y z : DD) => Up mu 144 y11_2 y11_2r y z) ?_ ?_
                  · refine rl_if (fun c117 => ?_) (fun c117 => ?_)
                    · have dc117 := tl_eq ix2 tn_0 c117
                      refine rl_bnd (Q := fun (y z : DD) => Up mu 144 y11_2 y11_2r y z) ?_ ?_
                      · refine rl_if (fun c118 => ?_) (fun c118 => ?_)
                        · have dc118 := tl_eq ix2 tn_2 c118
                          exfalso
                          omega
                        · exact rl_some (up_0 mu (κ := 144) _ _)
                      · rintro y22 y22r uy22
                        have uy22 : Up mu 144 y11_2 y11_2r y22 y22r := uy22
                        have ty22 := cx_up ty11_2 uy22
                        have wW_y22 := wq_up uy22 wW_y11_2
                        have wT_y22 := wg_up uy22 wT_y11_2
                        exact rl_some uy22
                    · have dc117 := tl_ne ix2 tn_0 c117
                      exfalso
                      omega
                  · rintro y19 y19r uy19
                    have uy19 : Up mu 144 y11_2 y11_2r y19 y19r := uy19
                    have ty19 := cx_up ty11_2 uy19
                    have wW_y19 := wq_up uy19 wW_y11_2
                    have wT_y19 := wg_up uy19 wT_y11_2
                    exact rl_some uy19
                · have dc116 := tl_ne ix1 tn_2 c116
                  exfalso
                  omega
              · rintro y12 y12r uy12
                have uy12 : Up mu 144 y11_2 y11_2r y12 y12r := uy12
                have ty12 := cx_up ty11_2 uy12
                have wW_y12 := wq_up uy12 wW_y11_2
                have wT_y12 := wg_up uy12 wT_y11_2
                exact rl_some ⟨(up_tr (up_tr (up_tr (up_tr uy8 uy9_2) uy10_2) uy11_2) uy12), wT_y12⟩
      · clear ix2 zx2
        have ix2 : TI x2 1 := yx2
        refine rl_ltI (av_sar 2 i1 (by decide)) (fun x3 ix3 => ?_)
        refine rl_ltI (av_sub ix3 tn_2 (by omega) (by omega)) (fun x4 ix4 => ?_)
        refine rl_ltI (av_sar 2 i2 (by decide)) (fun x5 ix5 => ?_)
        refine rl_ltI (av_sub ix5 tn_2 (by omega) (by omega)) (fun x6 ix6 => ?_)
        refine rl_ltI (av_add i3 tn_5 (by omega) (by omega)) (fun x7 ix7 => ?_)
        refine rl_bnd (r_fillWindow t ⟨rfl, rfl⟩ hq0 ix7 (by omega) (by omega)) ?_
        rintro y8 y8r ⟨uy8', vW_y8⟩
        have uy8 : Up mu 144 M N y8 y8r := uy8'
        have ty8 := cx_up t uy8
        refine rl_bnd (Q := fun (y z : Int32 × DD) => y.1 = z.1 ∧ (0 ≤ y.1.toInt ∧ y.1.toInt ≤ 0) ∧ Up mu 144 y8 y8r y.2 z.2) ?_ ?_
        · refine rl_if (fun c119 => ?_) (fun c119 => ?_)
          · have dc119 := tl_eq ix2 tn_0 c119
            exfalso
            omega
          · refine rl_bnd (Q := fun (y z : Int32 × DD) => y.1 = z.1 ∧ (0 ≤ y.1.toInt ∧ y.1.toInt ≤ 0) ∧ Up mu 144 y8 y8r y.2 z.2) ?_ ?_
            · refine rl_if (fun c120 => ?_) (fun c120 => ?_)
              · have dc120 := tl_eq ix1 tn_0 c120
                exfalso
                omega
              · exact rl_some ⟨rfl, (ti_bd tn_0 (by omega) (by omega)), (up_0 mu (κ := 144) _ _)⟩
            · rintro ⟨y42_1, y42_2⟩ ⟨y42_1r, y42_2r⟩ ⟨ey42_1, ly42_1, uy42_2⟩
              obtain rfl : y42_1 = y42_1r := ey42_1
              have ly42_1 : 0 ≤ y42_1.toInt ∧ y42_1.toInt ≤ 0 := ly42_1
              have iy42_1 : TI y42_1 (0) := ti_c ly42_1
              have uy42_2 : Up mu 144 y8 y8r y42_2 y42_2r := uy42_2
              have ty42_2 := cx_up ty8 uy42_2
              have wW_y42_2 := wq_up uy42_2 vW_y8
              exact rl_some ⟨rfl, (ti_bd iy42_1 (by omega) (by omega)), uy42_2⟩
        · rintro ⟨y9_1, y9_2⟩ ⟨y9_1r, y9_2r⟩ ⟨ey9_1, ly9_1, uy9_2⟩
          obtain rfl : y9_1 = y9_1r := ey9_1
          have ly9_1 : 0 ≤ y9_1.toInt ∧ y9_1.toInt ≤ 0 := ly9_1
          have iy9_1 : TI y9_1 (0) := ti_c ly9_1
          have uy9_2 : Up mu 144 y8 y8r y9_2 y9_2r := uy9_2
          have ty9_2 := cx_up ty8 uy9_2
          have wW_y9_2 := wq_up uy9_2 vW_y8
          refine rl_bnd (Q := fun (y z : Int32 × DD) => y.1 = z.1 ∧ (1 ≤ y.1.toInt ∧ y.1.toInt ≤ 1) ∧ Up mu 144 y9_2 y9_2r y.2 z.2 ∧ WG mu y.2 z.2 c4 0 (4 * 4) (fun j => a5 + j / 4 * 16 + j % 4)) ?_ ?_
          · refine rl_if (fun c121 => ?_) (fun c121 => ?_)
            · have dc121 := tl_eq ix1 tn_0 c121
              exfalso
              omega
            · refine rl_bnd (Q := fun (y z : Int32 × DD) => y.1 = z.1 ∧ (1 ≤ y.1.toInt ∧ y.1.toInt ≤ 1) ∧ Up mu 144 y9_2 y9_2r y.2 z.2 ∧ WG mu y.2 z.2 c4 0 (4 * 4) (fun j => a5 + j / 4 * 16 + j % 4)) ?_ ?_
              · refine rl_if (fun c122 => ?_) (fun c122 => ?_)
                · have dc122 := tl_eq ix2 tn_2 c122
                  exfalso
                  omega
                · refine rl_bnd (Q := fun (y z : Int32) => y = z ∧ (0 ≤ y.toInt ∧ y.toInt ≤ 0)) ?_ ?_
                  · refine rl_if (fun c123 => ?_) (fun c123 => ?_)
                    · have dc123 := tl_eq ix2 tn_3 c123
                      exfalso
                      omega
                    · exact rl_some ⟨rfl, (ti_bd tn_0 (by omega) (by omega))⟩
                  · rintro y37 y37r ⟨ey37, ly37⟩
                    obtain rfl : y37 = y37r := ey37
                    have ly37 : 0 ≤ y37.toInt ∧ y37.toInt ≤ 0 := ly37
                    have iy37 : TI y37 (0) := ti_c ly37
                    refine rl_ltI (av_add tn_2 iy37 (by omega) (by omega)) (fun x38 ix38 => ?_)
                    refine rl_bnd (r_tapRows ty9_2 i3 ix38 ⟨rfl, rfl⟩ hc4 i5 (by omega) (by omega) (by omega) (by omega) (by omega) wW_y9_2 (fun h => absurd (by first | rfl | assumption | omega) h)) ?_
                    rintro y39 y39r ⟨uy39', vT_y39'⟩
                    have uy39 : Up mu 144 y9_2 y9_2r y39 y39r := uy39'
                    have ty39 := cx_up ty9_2 uy39
                    have wW_y39 := wq_up uy39 wW_y9_2
                    have vT_y39 : WG mu y39 y39r c4 0 (4 * 4) (fun j => a5 + j / 4 * 16 + j % 4) := wg_cs vT_y39' (by omega) (by omega) (fun j h1 h2 => by (try dsimp only) <;> omega)
                    exact rl_some ⟨rfl, (ti_bd tn_1 (by omega) (by omega)), uy39, vT_y39⟩
              · rintro ⟨y35_1, y35_2⟩ ⟨y35_1r, y35_2r⟩ ⟨ey35_1, ly35_1, uy35_2, wT_y35_2⟩
                obtain rfl : y35_1 = y35_1r := ey35_1
                have ly35_1 : 1 ≤ y35_1.toInt ∧ y35_1.toInt ≤ 1 := ly35_1
                have iy35_1 : TI y35_1 (1) := ti_c ly35_1
                have uy35_2 : Up mu 144 y9_2 y9_2r y35_2 y35_2r := uy35_2
                have ty35_2 := cx_up ty9_2 uy35_2
                have wW_y35_2 := wq_up uy35_2 wW_y9_2
                have wT_y35_2 : WG mu y35_2 y35_2r c4 0 (4 * 4) (fun j => a5 + j / 4 * 16 + j % 4) := wT_y35_2
                exact rl_some ⟨rfl, (ti_bd iy35_1 (by omega) (by omega)), uy35_2, wT_y35_2⟩
          · rintro ⟨y10_1, y10_2⟩ ⟨y10_1r, y10_2r⟩ ⟨ey10_1, ly10_1, uy10_2, wT_y10_2⟩
            obtain rfl : y10_1 = y10_1r := ey10_1
            have ly10_1 : 1 ≤ y10_1.toInt ∧ y10_1.toInt ≤ 1 := ly10_1
            have iy10_1 : TI y10_1 (1) := ti_c ly10_1
            have uy10_2 : Up mu 144 y9_2 y9_2r y10_2 y10_2r := uy10_2
            have ty10_2 := cx_up ty9_2 uy10_2
            have wW_y10_2 := wq_up uy10_2 wW_y9_2
            have wT_y10_2 : WG mu y10_2 y10_2r c4 0 (4 * 4) (fun j => a5 + j / 4 * 16 + j % 4) := wT_y10_2
            refine rl_bnd (Q := fun (y z : Int32 × DD) => y.1 = z.1 ∧ (1 ≤ y.1.toInt ∧ y.1.toInt ≤ 1) ∧ Up mu 144 y10_2 y10_2r y.2 z.2) ?_ ?_
            · refine rl_if (fun c124 => ?_) (fun c124 => ?_)
              · have dc124 := tl_eq ix2 tn_0 c124
                exfalso
                omega
              · refine rl_bnd (Q := fun (y z : Int32 × DD) => y.1 = z.1 ∧ (1 ≤ y.1.toInt ∧ y.1.toInt ≤ 1) ∧ Up mu 144 y10_2 y10_2r y.2 z.2) ?_ ?_
                · refine rl_if (fun c125 => ?_) (fun c125 => ?_)
                  · have dc125 := tl_eq ix1 tn_2 c125
                    exact rl_some ⟨rfl, (ti_bd iy10_1 (by omega) (by omega)), (up_0 mu (κ := 144) _ _)⟩
                  · have dc125 := tl_ne ix1 tn_2 c125
                    exfalso
                    omega
                · rintro ⟨y28_1, y28_2⟩ ⟨y28_1r, y28_2r⟩ ⟨ey28_1, ly28_1, uy28_2⟩
                  obtain rfl : y28_1 = y28_1r := ey28_1
                  have ly28_1 : 1 ≤ y28_1.toInt ∧ y28_1.toInt ≤ 1 := ly28_1
                  have iy28_1 : TI y28_1 (1) := ti_c ly28_1
                  have uy28_2 : Up mu 144 y10_2 y10_2r y28_2 y28_2r := uy28_2
                  have ty28_2 := cx_up ty10_2 uy28_2
                  have wW_y28_2 := wq_up uy28_2 wW_y10_2
                  have wT_y28_2 := wg_up uy28_2 wT_y10_2
                  exact rl_some ⟨rfl, (ti_bd iy28_1 (by omega) (by omega)), uy28_2⟩
            · rintro ⟨y11_1, y11_2⟩ ⟨y11_1r, y11_2r⟩ ⟨ey11_1, ly11_1, uy11_2⟩
              obtain rfl : y11_1 = y11_1r := ey11_1
              have ly11_1 : 1 ≤ y11_1.toInt ∧ y11_1.toInt ≤ 1 := ly11_1
              have iy11_1 : TI y11_1 (1) := ti_c ly11_1
              have uy11_2 : Up mu 144 y10_2 y10_2r y11_2 y11_2r := uy11_2
              have ty11_2 := cx_up ty10_2 uy11_2
              have wW_y11_2 := wq_up uy11_2 wW_y10_2
              have wT_y11_2 := wg_up uy11_2 wT_y10_2
              refine rl_bnd (Q := fun (y z : DD) => Up mu 144 y11_2 y11_2r y z) ?_ ?_
              · refine rl_if (fun c126 => ?_) (fun c126 => ?_)
                · have dc126 := tl_eq ix1 tn_2 c126
                  refine rl_bnd (Q := fun (y z : DD) => Up mu 144 y11_2 y11_2r y z) ?_ ?_
                  · refine rl_if (fun c127 => ?_) (fun c127 => ?_)
                    · have dc127 := tl_eq ix2 tn_0 c127
                      exfalso
                      omega
                    · refine rl_bnd (r_tapBoth ty11_2 i3 ⟨rfl, rfl⟩ hc4 i5 (by omega) (by omega) (by omega) wW_y11_2 (fun _ => wg_cs wT_y11_2 (by omega) (by omega) (fun j h1 h2 => by (try dsimp only) <;> omega))) ?_
                      rintro y21 y21r ⟨uy21', vT_y21'⟩
                      have uy21 : Up mu 144 y11_2 y11_2r y21 y21r := uy21'
                      have ty21 := cx_up ty11_2 uy21
                      have wW_y21 := wq_up uy21 wW_y11_2
                      have wT_y21 := wg_up uy21 wT_y11_2
                      have vT_y21 : WG mu y21 y21r c4 0 (4 * 4) (fun j => a5 + j / 4 * 16 + j % 4) := wg_cs vT_y21' (by omega) (by omega) (fun j h1 h2 => by (try dsimp only) <;> omega)
                      exact rl_some uy21
                  · rintro y19 y19r uy19
                    have uy19 : Up mu 144 y11_2 y11_2r y19 y19r := uy19
                    have ty19 := cx_up ty11_2 uy19
                    have wW_y19 := wq_up uy19 wW_y11_2
                    have wT_y19 := wg_up uy19 wT_y11_2
                    exact rl_some uy19
                · have dc126 := tl_ne ix1 tn_2 c126
                  exfalso
                  omega
              · rintro y12 y12r uy12
                have uy12 : Up mu 144 y11_2 y11_2r y12 y12r := uy12
                have ty12 := cx_up ty11_2 uy12
                have wW_y12 := wq_up uy12 wW_y11_2
                have wT_y12 := wg_up uy12 wT_y11_2
                exact rl_some ⟨(up_tr (up_tr (up_tr (up_tr uy8 uy9_2) uy10_2) uy11_2) uy12), wT_y12⟩
      · clear ix2 zx2
        have ix2 : TI x2 2 := yx2
        refine rl_ltI (av_sar 2 i1 (by decide)) (fun x3 ix3 => ?_)
        refine rl_ltI (av_sub ix3 tn_2 (by omega) (by omega)) (fun x4 ix4 => ?_)
        refine rl_ltI (av_sar 2 i2 (by decide)) (fun x5 ix5 => ?_)
        refine rl_ltI (av_sub ix5 tn_2 (by omega) (by omega)) (fun x6 ix6 => ?_)
        refine rl_ltI (av_add i3 tn_5 (by omega) (by omega)) (fun x7 ix7 => ?_)
        refine rl_bnd (r_fillWindow t ⟨rfl, rfl⟩ hq0 ix7 (by omega) (by omega)) ?_
        rintro y8 y8r ⟨uy8', vW_y8⟩
        have uy8 : Up mu 144 M N y8 y8r := uy8'
        have ty8 := cx_up t uy8
        refine rl_bnd (Q := fun (y z : Int32 × DD) => y.1 = z.1 ∧ (0 ≤ y.1.toInt ∧ y.1.toInt ≤ 0) ∧ Up mu 144 y8 y8r y.2 z.2) ?_ ?_
        · refine rl_if (fun c128 => ?_) (fun c128 => ?_)
          · have dc128 := tl_eq ix2 tn_0 c128
            exfalso
            omega
          · refine rl_bnd (Q := fun (y z : Int32 × DD) => y.1 = z.1 ∧ (0 ≤ y.1.toInt ∧ y.1.toInt ≤ 0) ∧ Up mu 144 y8 y8r y.2 z.2) ?_ ?_
            · refine rl_if (fun c129 => ?_) (fun c129 => ?_)
              · have dc129 := tl_eq ix1 tn_0 c129
                exfalso
                omega
              · exact rl_some ⟨rfl, (ti_bd tn_0 (by omega) (by omega)), (up_0 mu (κ := 144) _ _)⟩
            · rintro ⟨y42_1, y42_2⟩ ⟨y42_1r, y42_2r⟩ ⟨ey42_1, ly42_1, uy42_2⟩
              obtain rfl : y42_1 = y42_1r := ey42_1
              have ly42_1 : 0 ≤ y42_1.toInt ∧ y42_1.toInt ≤ 0 := ly42_1
              have iy42_1 : TI y42_1 (0) := ti_c ly42_1
              have uy42_2 : Up mu 144 y8 y8r y42_2 y42_2r := uy42_2
              have ty42_2 := cx_up ty8 uy42_2
              have wW_y42_2 := wq_up uy42_2 vW_y8
              exact rl_some ⟨rfl, (ti_bd iy42_1 (by omega) (by omega)), uy42_2⟩
        · rintro ⟨y9_1, y9_2⟩ ⟨y9_1r, y9_2r⟩ ⟨ey9_1, ly9_1, uy9_2⟩
          obtain rfl : y9_1 = y9_1r := ey9_1
          have ly9_1 : 0 ≤ y9_1.toInt ∧ y9_1.toInt ≤ 0 := ly9_1
          have iy9_1 : TI y9_1 (0) := ti_c ly9_1
          have uy9_2 : Up mu 144 y8 y8r y9_2 y9_2r := uy9_2
          have ty9_2 := cx_up ty8 uy9_2
          have wW_y9_2 := wq_up uy9_2 vW_y8
          refine rl_bnd (Q := fun (y z : Int32 × DD) => y.1 = z.1 ∧ (0 ≤ y.1.toInt ∧ y.1.toInt ≤ 0) ∧ Up mu 144 y9_2 y9_2r y.2 z.2) ?_ ?_
          · refine rl_if (fun c130 => ?_) (fun c130 => ?_)
            · have dc130 := tl_eq ix1 tn_0 c130
              exfalso
              omega
            · refine rl_bnd (Q := fun (y z : Int32 × DD) => y.1 = z.1 ∧ (0 ≤ y.1.toInt ∧ y.1.toInt ≤ 0) ∧ Up mu 144 y9_2 y9_2r y.2 z.2) ?_ ?_
              · refine rl_if (fun c131 => ?_) (fun c131 => ?_)
                · have dc131 := tl_eq ix2 tn_2 c131
                  exact rl_some ⟨rfl, (ti_bd iy9_1 (by omega) (by omega)), (up_0 mu (κ := 144) _ _)⟩
                · have dc131 := tl_ne ix2 tn_2 c131
                  exfalso
                  omega
              · rintro ⟨y35_1, y35_2⟩ ⟨y35_1r, y35_2r⟩ ⟨ey35_1, ly35_1, uy35_2⟩
                obtain rfl : y35_1 = y35_1r := ey35_1
                have ly35_1 : 0 ≤ y35_1.toInt ∧ y35_1.toInt ≤ 0 := ly35_1
                have iy35_1 : TI y35_1 (0) := ti_c ly35_1
                have uy35_2 : Up mu 144 y9_2 y9_2r y35_2 y35_2r := uy35_2
                have ty35_2 := cx_up ty9_2 uy35_2
                have wW_y35_2 := wq_up uy35_2 wW_y9_2
                exact rl_some ⟨rfl, (ti_bd iy35_1 (by omega) (by omega)), uy35_2⟩
          · rintro ⟨y10_1, y10_2⟩ ⟨y10_1r, y10_2r⟩ ⟨ey10_1, ly10_1, uy10_2⟩
            obtain rfl : y10_1 = y10_1r := ey10_1
            have ly10_1 : 0 ≤ y10_1.toInt ∧ y10_1.toInt ≤ 0 := ly10_1
            have iy10_1 : TI y10_1 (0) := ti_c ly10_1
            have uy10_2 : Up mu 144 y9_2 y9_2r y10_2 y10_2r := uy10_2
            have ty10_2 := cx_up ty9_2 uy10_2
            have wW_y10_2 := wq_up uy10_2 wW_y9_2
            refine rl_bnd (Q := fun (y z : Int32 × DD) => y.1 = z.1 ∧ (0 ≤ y.1.toInt ∧ y.1.toInt ≤ 0) ∧ Up mu 144 y10_2 y10_2r y.2 z.2) ?_ ?_
            · refine rl_if (fun c132 => ?_) (fun c132 => ?_)
              · have dc132 := tl_eq ix2 tn_0 c132
                exfalso
                omega
              · refine rl_bnd (Q := fun (y z : Int32 × DD) => y.1 = z.1 ∧ (0 ≤ y.1.toInt ∧ y.1.toInt ≤ 0) ∧ Up mu 144 y10_2 y10_2r y.2 z.2) ?_ ?_
                · refine rl_if (fun c133 => ?_) (fun c133 => ?_)
                  · have dc133 := tl_eq ix1 tn_2 c133
                    exact rl_some ⟨rfl, (ti_bd iy10_1 (by omega) (by omega)), (up_0 mu (κ := 144) _ _)⟩
                  · have dc133 := tl_ne ix1 tn_2 c133
                    exfalso
                    omega
                · rintro ⟨y28_1, y28_2⟩ ⟨y28_1r, y28_2r⟩ ⟨ey28_1, ly28_1, uy28_2⟩
                  obtain rfl : y28_1 = y28_1r := ey28_1
                  have ly28_1 : 0 ≤ y28_1.toInt ∧ y28_1.toInt ≤ 0 := ly28_1
                  have iy28_1 : TI y28_1 (0) := ti_c ly28_1
                  have uy28_2 : Up mu 144 y10_2 y10_2r y28_2 y28_2r := uy28_2
                  have ty28_2 := cx_up ty10_2 uy28_2
                  have wW_y28_2 := wq_up uy28_2 wW_y10_2
                  exact rl_some ⟨rfl, (ti_bd iy28_1 (by omega) (by omega)), uy28_2⟩
            · rintro ⟨y11_1, y11_2⟩ ⟨y11_1r, y11_2r⟩ ⟨ey11_1, ly11_1, uy11_2⟩
              obtain rfl : y11_1 = y11_1r := ey11_1
              have ly11_1 : 0 ≤ y11_1.toInt ∧ y11_1.toInt ≤ 0 := ly11_1
              have iy11_1 : TI y11_1 (0) := ti_c ly11_1
              have uy11_2 : Up mu 144 y10_2 y10_2r y11_2 y11_2r := uy11_2
              have ty11_2 := cx_up ty10_2 uy11_2
              have wW_y11_2 := wq_up uy11_2 wW_y10_2
              refine rl_bnd (Q := fun (y z : DD) => Up mu 144 y11_2 y11_2r y z ∧ WG mu y z c4 0 (4 * 4) (fun j => a5 + j / 4 * 16 + j % 4)) ?_ ?_
              · refine rl_if (fun c134 => ?_) (fun c134 => ?_)
                · have dc134 := tl_eq ix1 tn_2 c134
                  refine rl_bnd (Q := fun (y z : DD) => Up mu 144 y11_2 y11_2r y z ∧ WG mu y z c4 0 (4 * 4) (fun j => a5 + j / 4 * 16 + j % 4)) ?_ ?_
                  · refine rl_if (fun c135 => ?_) (fun c135 => ?_)
                    · have dc135 := tl_eq ix2 tn_0 c135
                      exfalso
                      omega
                    · refine rl_bnd (r_tapBoth ty11_2 i3 ⟨rfl, rfl⟩ hc4 i5 (by omega) (by omega) (by omega) wW_y11_2 (fun h => absurd (by first | rfl | assumption | omega) h)) ?_
                      rintro y21 y21r ⟨uy21', vT_y21'⟩
                      have uy21 : Up mu 144 y11_2 y11_2r y21 y21r := uy21'
                      have ty21 := cx_up ty11_2 uy21
                      have wW_y21 := wq_up uy21 wW_y11_2
                      have vT_y21 : WG mu y21 y21r c4 0 (4 * 4) (fun j => a5 + j / 4 * 16 + j % 4) := wg_cs vT_y21' (by omega) (by omega) (fun j h1 h2 => by (try dsimp only) <;> omega)
                      exact rl_some ⟨uy21, vT_y21⟩
                  · rintro y19 y19r ⟨uy19, wT_y19⟩
                    have uy19 : Up mu 144 y11_2 y11_2r y19 y19r := uy19
                    have ty19 := cx_up ty11_2 uy19
                    have wW_y19 := wq_up uy19 wW_y11_2
                    have wT_y19 : WG mu y19 y19r c4 0 (4 * 4) (fun j => a5 + j / 4 * 16 + j % 4) := wT_y19
                    exact rl_some ⟨uy19, wT_y19⟩
                · have dc134 := tl_ne ix1 tn_2 c134
                  exfalso
                  omega
              · rintro y12 y12r ⟨uy12, wT_y12⟩
                have uy12 : Up mu 144 y11_2 y11_2r y12 y12r := uy12
                have ty12 := cx_up ty11_2 uy12
                have wW_y12 := wq_up uy12 wW_y11_2
                have wT_y12 : WG mu y12 y12r c4 0 (4 * 4) (fun j => a5 + j / 4 * 16 + j % 4) := wT_y12
                exact rl_some ⟨(up_tr (up_tr (up_tr (up_tr uy8 uy9_2) uy10_2) uy11_2) uy12), wT_y12⟩
      · clear ix2 zx2
        have ix2 : TI x2 3 := yx2
        refine rl_ltI (av_sar 2 i1 (by decide)) (fun x3 ix3 => ?_)
        refine rl_ltI (av_sub ix3 tn_2 (by omega) (by omega)) (fun x4 ix4 => ?_)
        refine rl_ltI (av_sar 2 i2 (by decide)) (fun x5 ix5 => ?_)
        refine rl_ltI (av_sub ix5 tn_2 (by omega) (by omega)) (fun x6 ix6 => ?_)
        refine rl_ltI (av_add i3 tn_5 (by omega) (by omega)) (fun x7 ix7 => ?_)
        refine rl_bnd (r_fillWindow t ⟨rfl, rfl⟩ hq0 ix7 (by omega) (by omega)) ?_
        rintro y8 y8r ⟨uy8', vW_y8⟩
        have uy8 : Up mu 144 M N y8 y8r := uy8'
        have ty8 := cx_up t uy8
        refine rl_bnd (Q := fun (y z : Int32 × DD) => y.1 = z.1 ∧ (0 ≤ y.1.toInt ∧ y.1.toInt ≤ 0) ∧ Up mu 144 y8 y8r y.2 z.2) ?_ ?_
        · refine rl_if (fun c136 => ?_) (fun c136 => ?_)
          · have dc136 := tl_eq ix2 tn_0 c136
            exfalso
            omega
          · refine rl_bnd (Q := fun (y z : Int32 × DD) => y.1 = z.1 ∧ (0 ≤ y.1.toInt ∧ y.1.toInt ≤ 0) ∧ Up mu 144 y8 y8r y.2 z.2) ?_ ?_
            · refine rl_if (fun c137 => ?_) (fun c137 => ?_)
              · have dc137 := tl_eq ix1 tn_0 c137
                exfalso
                omega
              · exact rl_some ⟨rfl, (ti_bd tn_0 (by omega) (by omega)), (up_0 mu (κ := 144) _ _)⟩
            · rintro ⟨y42_1, y42_2⟩ ⟨y42_1r, y42_2r⟩ ⟨ey42_1, ly42_1, uy42_2⟩
              obtain rfl : y42_1 = y42_1r := ey42_1
              have ly42_1 : 0 ≤ y42_1.toInt ∧ y42_1.toInt ≤ 0 := ly42_1
              have iy42_1 : TI y42_1 (0) := ti_c ly42_1
              have uy42_2 : Up mu 144 y8 y8r y42_2 y42_2r := uy42_2
              have ty42_2 := cx_up ty8 uy42_2
              have wW_y42_2 := wq_up uy42_2 vW_y8
              exact rl_some ⟨rfl, (ti_bd iy42_1 (by omega) (by omega)), uy42_2⟩
        · rintro ⟨y9_1, y9_2⟩ ⟨y9_1r, y9_2r⟩ ⟨ey9_1, ly9_1, uy9_2⟩
          obtain rfl : y9_1 = y9_1r := ey9_1
          have ly9_1 : 0 ≤ y9_1.toInt ∧ y9_1.toInt ≤ 0 := ly9_1
          have iy9_1 : TI y9_1 (0) := ti_c ly9_1
          have uy9_2 : Up mu 144 y8 y8r y9_2 y9_2r := uy9_2
          have ty9_2 := cx_up ty8 uy9_2
          have wW_y9_2 := wq_up uy9_2 vW_y8
          refine rl_bnd (Q := fun (y z : Int32 × DD) => y.1 = z.1 ∧ (1 ≤ y.1.toInt ∧ y.1.toInt ≤ 1) ∧ Up mu 144 y9_2 y9_2r y.2 z.2 ∧ WG mu y.2 z.2 c4 0 (4 * 4) (fun j => a5 + j / 4 * 16 + j % 4)) ?_ ?_
          · refine rl_if (fun c138 => ?_) (fun c138 => ?_)
            · have dc138 := tl_eq ix1 tn_0 c138
              exfalso
              omega
            · refine rl_bnd (Q := fun (y z : Int32 × DD) => y.1 = z.1 ∧ (1 ≤ y.1.toInt ∧ y.1.toInt ≤ 1) ∧ Up mu 144 y9_2 y9_2r y.2 z.2 ∧ WG mu y.2 z.2 c4 0 (4 * 4) (fun j => a5 + j / 4 * 16 + j % 4)) ?_ ?_
              · refine rl_if (fun c139 => ?_) (fun c139 => ?_)
                · have dc139 := tl_eq ix2 tn_2 c139
                  exfalso
                  omega
                · refine rl_bnd (Q := fun (y z : Int32) => y = z ∧ (1 ≤ y.toInt ∧ y.toInt ≤ 1)) ?_ ?_
                  · refine rl_if (fun c140 => ?_) (fun c140 => ?_)
                    · have dc140 := tl_eq ix2 tn_3 c140
                      exact rl_some ⟨rfl, (ti_bd tn_1 (by omega) (by omega))⟩
                    · have dc140 := tl_ne ix2 tn_3 c140
                      exfalso
                      omega
                  · rintro y37 y37r ⟨ey37, ly37⟩
                    obtain rfl : y37 = y37r := ey37
                    have ly37 : 1 ≤ y37.toInt ∧ y37.toInt ≤ 1 := ly37
                    have iy37 : TI y37 (1) := ti_c ly37
                    refine rl_ltI (av_add tn_2 iy37 (by omega) (by omega)) (fun x38 ix38 => ?_)
                    refine rl_bnd (r_tapRows ty9_2 i3 ix38 ⟨rfl, rfl⟩ hc4 i5 (by omega) (by omega) (by omega) (by omega) (by omega) wW_y9_2 (fun h => absurd (by first | rfl | assumption | omega) h)) ?_
                    rintro y39 y39r ⟨uy39', vT_y39'⟩
                    have uy39 : Up mu 144 y9_2 y9_2r y39 y39r := uy39'
                    have ty39 := cx_up ty9_2 uy39
                    have wW_y39 := wq_up uy39 wW_y9_2
                    have vT_y39 : WG mu y39 y39r c4 0 (4 * 4) (fun j => a5 + j / 4 * 16 + j % 4) := wg_cs vT_y39' (by omega) (by omega) (fun j h1 h2 => by (try dsimp only) <;> omega)
                    exact rl_some ⟨rfl, (ti_bd tn_1 (by omega) (by omega)), uy39, vT_y39⟩
              · rintro ⟨y35_1, y35_2⟩ ⟨y35_1r, y35_2r⟩ ⟨ey35_1, ly35_1, uy35_2, wT_y35_2⟩
                obtain rfl : y35_1 = y35_1r := ey35_1
                have ly35_1 : 1 ≤ y35_1.toInt ∧ y35_1.toInt ≤ 1 := ly35_1
                have iy35_1 : TI y35_1 (1) := ti_c ly35_1
                have uy35_2 : Up mu 144 y9_2 y9_2r y35_2 y35_2r := uy35_2
                have ty35_2 := cx_up ty9_2 uy35_2
                have wW_y35_2 := wq_up uy35_2 wW_y9_2
                have wT_y35_2 : WG mu y35_2 y35_2r c4 0 (4 * 4) (fun j => a5 + j / 4 * 16 + j % 4) := wT_y35_2
                exact rl_some ⟨rfl, (ti_bd iy35_1 (by omega) (by omega)), uy35_2, wT_y35_2⟩
          · rintro ⟨y10_1, y10_2⟩ ⟨y10_1r, y10_2r⟩ ⟨ey10_1, ly10_1, uy10_2, wT_y10_2⟩
            obtain rfl : y10_1 = y10_1r := ey10_1
            have ly10_1 : 1 ≤ y10_1.toInt ∧ y10_1.toInt ≤ 1 := ly10_1
            have iy10_1 : TI y10_1 (1) := ti_c ly10_1
            have uy10_2 : Up mu 144 y9_2 y9_2r y10_2 y10_2r := uy10_2
            have ty10_2 := cx_up ty9_2 uy10_2
            have wW_y10_2 := wq_up uy10_2 wW_y9_2
            have wT_y10_2 : WG mu y10_2 y10_2r c4 0 (4 * 4) (fun j => a5 + j / 4 * 16 + j % 4) := wT_y10_2
            refine rl_bnd (Q := fun (y z : Int32 × DD) => y.1 = z.1 ∧ (1 ≤ y.1.toInt ∧ y.1.toInt ≤ 1) ∧ Up mu 144 y10_2 y10_2r y.2 z.2) ?_ ?_
            · refine rl_if (fun c141 => ?_) (fun c141 => ?_)
              · have dc141 := tl_eq ix2 tn_0 c141
                exfalso
                omega
              · refine rl_bnd (Q := fun (y z : Int32 × DD) => y.1 = z.1 ∧ (1 ≤ y.1.toInt ∧ y.1.toInt ≤ 1) ∧ Up mu 144 y10_2 y10_2r y.2 z.2) ?_ ?_
                · refine rl_if (fun c142 => ?_) (fun c142 => ?_)
                  · have dc142 := tl_eq ix1 tn_2 c142
                    exact rl_some ⟨rfl, (ti_bd iy10_1 (by omega) (by omega)), (up_0 mu (κ := 144) _ _)⟩
                  · have dc142 := tl_ne ix1 tn_2 c142
                    exfalso
                    omega
                · rintro ⟨y28_1, y28_2⟩ ⟨y28_1r, y28_2r⟩ ⟨ey28_1, ly28_1, uy28_2⟩
                  obtain rfl : y28_1 = y28_1r := ey28_1
                  have ly28_1 : 1 ≤ y28_1.toInt ∧ y28_1.toInt ≤ 1 := ly28_1
                  have iy28_1 : TI y28_1 (1) := ti_c ly28_1
                  have uy28_2 : Up mu 144 y10_2 y10_2r y28_2 y28_2r := uy28_2
                  have ty28_2 := cx_up ty10_2 uy28_2
                  have wW_y28_2 := wq_up uy28_2 wW_y10_2
                  have wT_y28_2 := wg_up uy28_2 wT_y10_2
                  exact rl_some ⟨rfl, (ti_bd iy28_1 (by omega) (by omega)), uy28_2⟩
            · rintro ⟨y11_1, y11_2⟩ ⟨y11_1r, y11_2r⟩ ⟨ey11_1, ly11_1, uy11_2⟩
              obtain rfl : y11_1 = y11_1r := ey11_1
              have ly11_1 : 1 ≤ y11_1.toInt ∧ y11_1.toInt ≤ 1 := ly11_1
              have iy11_1 : TI y11_1 (1) := ti_c ly11_1
              have uy11_2 : Up mu 144 y10_2 y10_2r y11_2 y11_2r := uy11_2
              have ty11_2 := cx_up ty10_2 uy11_2
              have wW_y11_2 := wq_up uy11_2 wW_y10_2
              have wT_y11_2 := wg_up uy11_2 wT_y10_2
              refine rl_bnd (Q := fun (y z : DD) => Up mu 144 y11_2 y11_2r y z) ?_ ?_
              · refine rl_if (fun c143 => ?_) (fun c143 => ?_)
                · have dc143 := tl_eq ix1 tn_2 c143
                  refine rl_bnd (Q := fun (y z : DD) => Up mu 144 y11_2 y11_2r y z) ?_ ?_
                  · refine rl_if (fun c144 => ?_) (fun c144 => ?_)
                    · have dc144 := tl_eq ix2 tn_0 c144
                      exfalso
                      omega
                    · refine rl_bnd (r_tapBoth ty11_2 i3 ⟨rfl, rfl⟩ hc4 i5 (by omega) (by omega) (by omega) wW_y11_2 (fun _ => wg_cs wT_y11_2 (by omega) (by omega) (fun j h1 h2 => by (try dsimp only) <;> omega))) ?_
                      rintro y21 y21r ⟨uy21', vT_y21'⟩
                      have uy21 : Up mu 144 y11_2 y11_2r y21 y21r := uy21'
                      have ty21 := cx_up ty11_2 uy21
                      have wW_y21 := wq_up uy21 wW_y11_2
                      have wT_y21 := wg_up uy21 wT_y11_2
                      have vT_y21 : WG mu y21 y21r c4 0 (4 * 4) (fun j => a5 + j / 4 * 16 + j % 4) := wg_cs vT_y21' (by omega) (by omega) (fun j h1 h2 => by (try dsimp only) <;> omega)
                      exact rl_some uy21
                  · rintro y19 y19r uy19
                    have uy19 : Up mu 144 y11_2 y11_2r y19 y19r := uy19
                    have ty19 := cx_up ty11_2 uy19
                    have wW_y19 := wq_up uy19 wW_y11_2
                    have wT_y19 := wg_up uy19 wT_y11_2
                    exact rl_some uy19
                · have dc143 := tl_ne ix1 tn_2 c143
                  exfalso
                  omega
              · rintro y12 y12r uy12
                have uy12 : Up mu 144 y11_2 y11_2r y12 y12r := uy12
                have ty12 := cx_up ty11_2 uy12
                have wW_y12 := wq_up uy12 wW_y11_2
                have wT_y12 := wg_up uy12 wT_y11_2
                exact rl_some ⟨(up_tr (up_tr (up_tr (up_tr uy8 uy9_2) uy10_2) uy11_2) uy12), wT_y12⟩
    · clear ix1 zx1
      have ix1 : TI x1 3 := yx1
      refine rl_ltI (av_and 2 i2 (by decide) (by decide)) (fun x2 ix2 => ?_)
      have zx2 : x2.toInt = _ := ix2
      rcases (by omega : x2.toInt = 0 ∨ x2.toInt = 1 ∨ x2.toInt = 2 ∨ x2.toInt = 3) with yx2 | yx2 | yx2 | yx2
      · clear ix2 zx2
        have ix2 : TI x2 0 := yx2
        refine rl_ltI (av_sar 2 i1 (by decide)) (fun x3 ix3 => ?_)
        refine rl_ltI (av_sub ix3 tn_2 (by omega) (by omega)) (fun x4 ix4 => ?_)
        refine rl_ltI (av_sar 2 i2 (by decide)) (fun x5 ix5 => ?_)
        refine rl_ltI (av_sub ix5 tn_2 (by omega) (by omega)) (fun x6 ix6 => ?_)
        refine rl_ltI (av_add i3 tn_5 (by omega) (by omega)) (fun x7 ix7 => ?_)
        refine rl_bnd (r_fillWindow t ⟨rfl, rfl⟩ hq0 ix7 (by omega) (by omega)) ?_
        rintro y8 y8r ⟨uy8', vW_y8⟩
        have uy8 : Up mu 144 M N y8 y8r := uy8'
        have ty8 := cx_up t uy8
        refine rl_bnd (Q := fun (y z : Int32 × DD) => y.1 = z.1 ∧ (1 ≤ y.1.toInt ∧ y.1.toInt ≤ 1) ∧ Up mu 144 y8 y8r y.2 z.2 ∧ WG mu y.2 z.2 c4 0 (4 * 4) (fun j => a5 + j / 4 * 16 + j % 4)) ?_ ?_
        · refine rl_if (fun c145 => ?_) (fun c145 => ?_)
          · have dc145 := tl_eq ix2 tn_0 c145
            refine rl_bnd (Q := fun (y z : Int32 × DD) => y.1 = z.1 ∧ (1 ≤ y.1.toInt ∧ y.1.toInt ≤ 1) ∧ Up mu 144 y8 y8r y.2 z.2 ∧ WG mu y.2 z.2 c4 0 (4 * 4) (fun j => a5 + j / 4 * 16 + j % 4)) ?_ ?_
            · refine rl_if (fun c146 => ?_) (fun c146 => ?_)
              · have dc146 := tl_eq ix1 tn_2 c146
                exfalso
                omega
              · refine rl_bnd (Q := fun (y z : Int32) => y = z ∧ (0 ≤ y.toInt ∧ y.toInt ≤ 0)) ?_ ?_
                · refine rl_if (fun c147 => ?_) (fun c147 => ?_)
                  · have dc147 := tl_eq ix2 tn_3 c147
                    exfalso
                    omega
                  · exact rl_some ⟨rfl, (ti_bd tn_0 (by omega) (by omega))⟩
                · rintro y77 y77r ⟨ey77, ly77⟩
                  obtain rfl : y77 = y77r := ey77
                  have ly77 : 0 ≤ y77.toInt ∧ y77.toInt ≤ 0 := ly77
                  have iy77 : TI y77 (0) := ti_c ly77
                  have ky77 : y77.toInt = _ := iy77
                  refine rl_ltI (av_add tn_2 iy77 (by omega) (by omega)) (fun x78 ix78 => ?_)
                  refine rl_ltI (av_mul ix78 tn_21 (by omega) (by omega)) (fun x79 ix79 => ?_)
                  refine rl_ltI (av_add ix79 tn_2 (by omega) (by omega)) (fun x80 ix80 => ?_)
                  refine rl_bnd (Q := fun (y z : Int32) => y = z ∧ (1 ≤ y.toInt ∧ y.toInt ≤ 1)) ?_ ?_
                  · refine rl_if (fun c148 => ?_) (fun c148 => ?_)
                    · have dc148 := tl_eq ix1 tn_3 c148
                      exact rl_some ⟨rfl, (ti_bd tn_1 (by omega) (by omega))⟩
                    · have dc148 := tl_ne ix1 tn_3 c148
                      exfalso
                      omega
                  · rintro y81 y81r ⟨ey81, ly81⟩
                    obtain rfl : y81 = y81r := ey81
                    have ly81 : 1 ≤ y81.toInt ∧ y81.toInt ≤ 1 := ly81
                    have iy81 : TI y81 (1) := ti_c ly81
                    have ky81 : y81.toInt = _ := iy81
                    refine rl_ltI (av_add ix80 iy81 (by omega) (by omega)) (fun x82 ix82 => ?_)
                    refine rl_bnd (Q := fun (y z : Int32 × DD) => y.1 = z.1 ∧ (0 ≤ y.1.toInt ∧ y.1.toInt ≤ (4 * 4)) ∧ Up mu 144 y8 y8r y.2 z.2 ∧ WG mu y.2 z.2 c4 (0) (4 * 4) (fun j => a5 + j / 4 * 16 + j % 4)) (rl_itr (fun (y z : Int32 × DD) => y.1 = z.1 ∧ (0 ≤ y.1.toInt ∧ y.1.toInt ≤ (4 * 4)) ∧ Up mu 144 y8 y8r y.2 z.2 ∧ WG mu y.2 z.2 c4 (0) (y.1.toInt) (fun j => a5 + j / 4 * 16 + j % 4)) _ ?_ _ _ _ ?_) ?_
                    · rintro ⟨s84_1, s84_2⟩ ⟨s84_1r, s84_2r⟩ ⟨es84_1, ls84_1, us84_2, vT_s84_2⟩
                      obtain rfl : s84_1 = s84_1r := es84_1
                      have ls84_1 : 0 ≤ s84_1.toInt ∧ s84_1.toInt ≤ (4 * 4) := ls84_1
                      have is84_1 : TI s84_1 s84_1.toInt := rfl
                      have us84_2 : Up mu 144 y8 y8r s84_2 s84_2r := us84_2
                      have ts84_2 := cx_up ty8 us84_2
                      have wW_s84_2 := wq_up us84_2 vW_y8
                      have vT_s84_2 : WG mu s84_2 s84_2r c4 (0) (s84_1.toInt) (fun j => a5 + j / 4 * 16 + j % 4) := vT_s84_2
                      refine rl_ltI (av_mul i3 i3 (by omega) (by omega)) (fun x87 ix87 => ?_)
                      refine rl_if (fun c149 => ?_) (fun c149 => ?_)
                      · have dc149 := tl_le ix87 is84_1 c149
                        exact rl_inr ⟨rfl, (ti_bd is84_1 (by omega) (by omega)), us84_2, (wg_sub vT_s84_2 (by omega) (by omega))⟩
                      · have dc149 := tl_nle ix87 is84_1 c149
                        refine rl_chk (fun h => h) (fun k150 => ?_)
                        refine rl_ltI (av_div is84_1 i3 (by omega) (by omega)) (fun x89 ix89 => ?_)
                        refine rl_ltI (av_mul ix89 tn_16 (by omega) (by omega)) (fun x90 ix90 => ?_)
                        refine rl_ltI (av_add i5 ix90 (by omega) (by omega)) (fun x91 ix91 => ?_)
                        refine rl_chk (fun h => h) (fun k151 => ?_)
                        refine rl_ltI (av_mod is84_1 i3 (by omega) (by omega)) (fun x92 ix92 => ?_)
                        refine rl_ltI (av_add ix91 ix92 (by omega) (by omega)) (fun x93 ix93 => ?_)
                        refine rl_chk (fun h => h) (fun k152 => ?_)
                        refine rl_ltI (av_div is84_1 i3 (by omega) (by omega)) (fun x94 ix94 => ?_)
                        refine rl_ltI (av_mul ix94 tn_21 (by omega) (by omega)) (fun x95 ix95 => ?_)
                        refine rl_ltI (av_add ix82 ix95 (by omega) (by omega)) (fun x96 ix96 => ?_)
                        refine rl_chk (fun h => h) (fun k153 => ?_)
                        refine rl_ltI (av_mod is84_1 i3 (by omega) (by omega)) (fun x97 ix97 => ?_)
                        refine rl_ltI (av_add ix96 ix97 (by omega) (by omega)) (fun x98 ix98 => ?_)
                        refine rl_dr (cx_U ts84_2) (rx_c (a := 138) (k := 3) (b := 142) ts84_2 (Or.inr (Or.inl rfl)) rfl (by decide)) (fun gb99 => ?_)
                        refine rl_chk (chkl (cx_U ts84_2) gb99) (fun k154 => ?_)
                        refine rl_rd (wq_use wW_s84_2 ix98 (s84_1.toInt / 4 + 2 + y77.toInt) (s84_1.toInt % 4 + 2 + y81.toInt) (by omega) (by omega) (by omega) (by omega) (by (try dsimp only) <;> omega)) (fun x100 => ?_)
                        refine rl_dr (cx_U ts84_2) ⟨rfl, rfl⟩ (fun gb101 => ?_)
                        refine rl_chk (chkl (cx_U ts84_2) gb101) (fun k155 => ?_)
                        refine rl_w (κ := 144) (cx_U ts84_2) (by rcases hc4 with h | h <;> omega) (fun M102 M102r uM102 AM102 nM102 => ?_)
                        have tM102 := cx_up ts84_2 uM102
                        have wW_M102 := wq_up uM102 wW_s84_2
                        have wT_M102 := wg_up uM102 vT_s84_2
                        refine rl_ltI (av_add is84_1 tn_1 (by omega) (by omega)) (fun x103 ix103 => ?_)
                        exact rl_inl ⟨rfl, (ti_bd ix103 (by omega) (by omega)), (up_tr us84_2 uM102), (wg_ext wT_M102 ix93 (ag_up (up_0 mu (κ := 144) _ _) AM102) (by (try dsimp only) <;> omega) (by have q : _ = _ := ix103; (try dsimp only) <;> omega))⟩
                    · exact ⟨rfl, (ti_bd tn_0 (by omega) (by omega)), (up_0 mu (κ := 144) _ _), (wg_0 (by have q : _ = _ := tn_0; (try dsimp only) <;> omega))⟩
                    · rintro ⟨y83_1, y83_2⟩ ⟨y83_1r, y83_2r⟩ ⟨ey83_1, ly83_1, uy83_2, vT_y83_2⟩
                      obtain rfl : y83_1 = y83_1r := ey83_1
                      have ly83_1 : 0 ≤ y83_1.toInt ∧ y83_1.toInt ≤ (4 * 4) := ly83_1
                      have iy83_1 : TI y83_1 y83_1.toInt := rfl
                      have uy83_2 : Up mu 144 y8 y8r y83_2 y83_2r := uy83_2
                      have ty83_2 := cx_up ty8 uy83_2
                      have wW_y83_2 := wq_up uy83_2 vW_y8
                      have vT_y83_2 : WG mu y83_2 y83_2r c4 (0) (4 * 4) (fun j => a5 + j / 4 * 16 + j % 4) := vT_y83_2
                      exact rl_some ⟨rfl, (ti_bd tn_1 (by omega) (by omega)), uy83_2, vT_y83_2⟩
            · rintro ⟨y75_1, y75_2⟩ ⟨y75_1r, y75_2r⟩ ⟨ey75_1, ly75_1, uy75_2, wT_y75_2⟩
              obtain rfl : y75_1 = y75_1r := ey75_1
              have ly75_1 : 1 ≤ y75_1.toInt ∧ y75_1.toInt ≤ 1 := ly75_1
              have iy75_1 : TI y75_1 (1) := ti_c ly75_1
              have uy75_2 : Up mu 144 y8 y8r y75_2 y75_2r := uy75_2
              have ty75_2 := cx_up ty8 uy75_2
              have wW_y75_2 := wq_up uy75_2 vW_y8
              have wT_y75_2 : WG mu y75_2 y75_2r c4 0 (4 * 4) (fun j => a5 + j / 4 * 16 + j % 4) := wT_y75_2
              exact rl_some ⟨rfl, (ti_bd iy75_1 (by omega) (by omega)), uy75_2, wT_y75_2⟩
          · have dc145 := tl_ne ix2 tn_0 c145
            exfalso
            omega
        · rintro ⟨y9_1, y9_2⟩ ⟨y9_1r, y9_2r⟩ ⟨ey9_1, ly9_1, uy9_2, wT_y9_2⟩
          obtain rfl : y9_1 = y9_1r := ey9_1
          have ly9_1 : 1 ≤ y9_1.toInt ∧ y9_1.toInt ≤ 1 := ly9_1
          have iy9_1 : TI y9_1 (1) := ti_c ly9_1
          have uy9_2 : Up mu 144 y8 y8r y9_2 y9_2r := uy9_2
          have ty9_2 := cx_up ty8 uy9_2
          have wW_y9_2 := wq_up uy9_2 vW_y8
          have wT_y9_2 : WG mu y9_2 y9_2r c4 0 (4 * 4) (fun j => a5 + j / 4 * 16 + j % 4) := wT_y9_2
          refine rl_bnd (Q := fun (y z : Int32 × DD) => y.1 = z.1 ∧ (1 ≤ y.1.toInt ∧ y.1.toInt ≤ 1) ∧ Up mu 144 y9_2 y9_2r y.2 z.2) ?_ ?_
          · refine rl_if (fun c156 => ?_) (fun c156 => ?_)
            · have dc156 := tl_eq ix1 tn_0 c156
              exfalso
              omega
            · refine rl_bnd (Q := fun (y z : Int32 × DD) => y.1 = z.1 ∧ (1 ≤ y.1.toInt ∧ y.1.toInt ≤ 1) ∧ Up mu 144 y9_2 y9_2r y.2 z.2) ?_ ?_
              · refine rl_if (fun c157 => ?_) (fun c157 => ?_)
                · have dc157 := tl_eq ix2 tn_2 c157
                  exfalso
                  omega
                · refine rl_bnd (Q := fun (y z : Int32) => y = z ∧ (0 ≤ y.toInt ∧ y.toInt ≤ 0)) ?_ ?_
                  · refine rl_if (fun c158 => ?_) (fun c158 => ?_)
                    · have dc158 := tl_eq ix2 tn_3 c158
                      exfalso
                      omega
                    · exact rl_some ⟨rfl, (ti_bd tn_0 (by omega) (by omega))⟩
                  · rintro y37 y37r ⟨ey37, ly37⟩
                    obtain rfl : y37 = y37r := ey37
                    have ly37 : 0 ≤ y37.toInt ∧ y37.toInt ≤ 0 := ly37
                    have iy37 : TI y37 (0) := ti_c ly37
                    refine rl_ltI (av_add tn_2 iy37 (by omega) (by omega)) (fun x38 ix38 => ?_)
                    refine rl_bnd (r_tapRows ty9_2 i3 ix38 ⟨rfl, rfl⟩ hc4 i5 (by omega) (by omega) (by omega) (by omega) (by omega) wW_y9_2 (fun _ => wg_cs wT_y9_2 (by omega) (by omega) (fun j h1 h2 => by (try dsimp only) <;> omega))) ?_
                    rintro y39 y39r ⟨uy39', vT_y39'⟩
                    have uy39 : Up mu 144 y9_2 y9_2r y39 y39r := uy39'
                    have ty39 := cx_up ty9_2 uy39
                    have wW_y39 := wq_up uy39 wW_y9_2
                    have wT_y39 := wg_up uy39 wT_y9_2
                    have vT_y39 : WG mu y39 y39r c4 0 (4 * 4) (fun j => a5 + j / 4 * 16 + j % 4) := wg_cs vT_y39' (by omega) (by omega) (fun j h1 h2 => by (try dsimp only) <;> omega)
                    exact rl_some ⟨rfl, (ti_bd tn_1 (by omega) (by omega)), uy39⟩
              · rintro ⟨y35_1, y35_2⟩ ⟨y35_1r, y35_2r⟩ ⟨ey35_1, ly35_1, uy35_2⟩
                obtain rfl : y35_1 = y35_1r := ey35_1
                have ly35_1 : 1 ≤ y35_1.toInt ∧ y35_1.toInt ≤ 1 := ly35_1
                have iy35_1 : TI y35_1 (1) := ti_c ly35_1
                have uy35_2 : Up mu 144 y9_2 y9_2r y35_2 y35_2r := uy35_2
                have ty35_2 := cx_up ty9_2 uy35_2
                have wW_y35_2 := wq_up uy35_2 wW_y9_2
                have wT_y35_2 := wg_up uy35_2 wT_y9_2
                exact rl_some ⟨rfl, (ti_bd iy35_1 (by omega) (by omega)), uy35_2⟩
          · rintro ⟨y10_1, y10_2⟩ ⟨y10_1r, y10_2r⟩ ⟨ey10_1, ly10_1, uy10_2⟩
            obtain rfl : y10_1 = y10_1r := ey10_1
            have ly10_1 : 1 ≤ y10_1.toInt ∧ y10_1.toInt ≤ 1 := ly10_1
            have iy10_1 : TI y10_1 (1) := ti_c ly10_1
            have uy10_2 : Up mu 144 y9_2 y9_2r y10_2 y10_2r := uy10_2
            have ty10_2 := cx_up ty9_2 uy10_2
            have wW_y10_2 := wq_up uy10_2 wW_y9_2
            have wT_y10_2 := wg_up uy10_2 wT_y9_2
            refine rl_bnd (Q := fun (y z : Int32 × DD) => y.1 = z.1 ∧ (1 ≤ y.1.toInt ∧ y.1.toInt ≤ 1) ∧ Up mu 144 y10_2 y10_2r y.2 z.2) ?_ ?_
            · refine rl_if (fun c159 => ?_) (fun c159 => ?_)
              · have dc159 := tl_eq ix2 tn_0 c159
                exact rl_some ⟨rfl, (ti_bd iy10_1 (by omega) (by omega)), (up_0 mu (κ := 144) _ _)⟩
              · have dc159 := tl_ne ix2 tn_0 c159
                exfalso
                omega
            · rintro ⟨y11_1, y11_2⟩ ⟨y11_1r, y11_2r⟩ ⟨ey11_1, ly11_1, uy11_2⟩
              obtain rfl : y11_1 = y11_1r := ey11_1
              have ly11_1 : 1 ≤ y11_1.toInt ∧ y11_1.toInt ≤ 1 := ly11_1
              have iy11_1 : TI y11_1 (1) := ti_c ly11_1
              have uy11_2 : Up mu 144 y10_2 y10_2r y11_2 y11_2r := uy11_2
              have ty11_2 := cx_up ty10_2 uy11_2
              have wW_y11_2 := wq_up uy11_2 wW_y10_2
              have wT_y11_2 := wg_up uy11_2 wT_y10_2
              refine rl_bnd (Q := fun (y z : DD) => Up mu 144 y11_2 y11_2r y z) ?_ ?_
              · refine rl_if (fun c160 => ?_) (fun c160 => ?_)
                · have dc160 := tl_eq ix1 tn_2 c160
                  exfalso
                  omega
                · refine rl_bnd (Q := fun (y z : DD) => Up mu 144 y11_2 y11_2r y z) ?_ ?_
                  · refine rl_if (fun c161 => ?_) (fun c161 => ?_)
                    · have dc161 := tl_eq ix2 tn_2 c161
                      exfalso
                      omega
                    · exact rl_some (up_0 mu (κ := 144) _ _)
                  · rintro y14 y14r uy14
                    have uy14 : Up mu 144 y11_2 y11_2r y14 y14r := uy14
                    have ty14 := cx_up ty11_2 uy14
                    have wW_y14 := wq_up uy14 wW_y11_2
                    have wT_y14 := wg_up uy14 wT_y11_2
                    exact rl_some uy14
              · rintro y12 y12r uy12
                have uy12 : Up mu 144 y11_2 y11_2r y12 y12r := uy12
                have ty12 := cx_up ty11_2 uy12
                have wW_y12 := wq_up uy12 wW_y11_2
                have wT_y12 := wg_up uy12 wT_y11_2
                exact rl_some ⟨(up_tr (up_tr (up_tr (up_tr uy8 uy9_2) uy10_2) uy11_2) uy12), wT_y12⟩
      · clear ix2 zx2
        have ix2 : TI x2 1 := yx2
        refine rl_ltI (av_sar 2 i1 (by decide)) (fun x3 ix3 => ?_)
        refine rl_ltI (av_sub ix3 tn_2 (by omega) (by omega)) (fun x4 ix4 => ?_)
        refine rl_ltI (av_sar 2 i2 (by decide)) (fun x5 ix5 => ?_)
        refine rl_ltI (av_sub ix5 tn_2 (by omega) (by omega)) (fun x6 ix6 => ?_)
        refine rl_ltI (av_add i3 tn_5 (by omega) (by omega)) (fun x7 ix7 => ?_)
        refine rl_bnd (r_fillWindow t ⟨rfl, rfl⟩ hq0 ix7 (by omega) (by omega)) ?_
        rintro y8 y8r ⟨uy8', vW_y8⟩
        have uy8 : Up mu 144 M N y8 y8r := uy8'
        have ty8 := cx_up t uy8
        refine rl_bnd (Q := fun (y z : Int32 × DD) => y.1 = z.1 ∧ (0 ≤ y.1.toInt ∧ y.1.toInt ≤ 0) ∧ Up mu 144 y8 y8r y.2 z.2) ?_ ?_
        · refine rl_if (fun c162 => ?_) (fun c162 => ?_)
          · have dc162 := tl_eq ix2 tn_0 c162
            exfalso
            omega
          · refine rl_bnd (Q := fun (y z : Int32 × DD) => y.1 = z.1 ∧ (0 ≤ y.1.toInt ∧ y.1.toInt ≤ 0) ∧ Up mu 144 y8 y8r y.2 z.2) ?_ ?_
            · refine rl_if (fun c163 => ?_) (fun c163 => ?_)
              · have dc163 := tl_eq ix1 tn_0 c163
                exfalso
                omega
              · exact rl_some ⟨rfl, (ti_bd tn_0 (by omega) (by omega)), (up_0 mu (κ := 144) _ _)⟩
            · rintro ⟨y42_1, y42_2⟩ ⟨y42_1r, y42_2r⟩ ⟨ey42_1, ly42_1, uy42_2⟩
              obtain rfl : y42_1 = y42_1r := ey42_1
              have ly42_1 : 0 ≤ y42_1.toInt ∧ y42_1.toInt ≤ 0 := ly42_1
              have iy42_1 : TI y42_1 (0) := ti_c ly42_1
              have uy42_2 : Up mu 144 y8 y8r y42_2 y42_2r := uy42_2
              have ty42_2 := cx_up ty8 uy42_2
              have wW_y42_2 := wq_up uy42_2 vW_y8
              exact rl_some ⟨rfl, (ti_bd iy42_1 (by omega) (by omega)), uy42_2⟩
        · rintro ⟨y9_1, y9_2⟩ ⟨y9_1r, y9_2r⟩ ⟨ey9_1, ly9_1, uy9_2⟩
          obtain rfl : y9_1 = y9_1r := ey9_1
          have ly9_1 : 0 ≤ y9_1.toInt ∧ y9_1.toInt ≤ 0 := ly9_1
          have iy9_1 : TI y9_1 (0) := ti_c ly9_1
          have uy9_2 : Up mu 144 y8 y8r y9_2 y9_2r := uy9_2
          have ty9_2 := cx_up ty8 uy9_2
          have wW_y9_2 := wq_up uy9_2 vW_y8
          refine rl_bnd (Q := fun (y z : Int32 × DD) => y.1 = z.1 ∧ (1 ≤ y.1.toInt ∧ y.1.toInt ≤ 1) ∧ Up mu 144 y9_2 y9_2r y.2 z.2 ∧ WG mu y.2 z.2 c4 0 (4 * 4) (fun j => a5 + j / 4 * 16 + j % 4)) ?_ ?_
          · refine rl_if (fun c164 => ?_) (fun c164 => ?_)
            · have dc164 := tl_eq ix1 tn_0 c164
              exfalso
              omega
            · refine rl_bnd (Q := fun (y z : Int32 × DD) => y.1 = z.1 ∧ (1 ≤ y.1.toInt ∧ y.1.toInt ≤ 1) ∧ Up mu 144 y9_2 y9_2r y.2 z.2 ∧ WG mu y.2 z.2 c4 0 (4 * 4) (fun j => a5 + j / 4 * 16 + j % 4)) ?_ ?_
              · refine rl_if (fun c165 => ?_) (fun c165 => ?_)
                · have dc165 := tl_eq ix2 tn_2 c165
                  exfalso
                  omega
                · refine rl_bnd (Q := fun (y z : Int32) => y = z ∧ (0 ≤ y.toInt ∧ y.toInt ≤ 0)) ?_ ?_
                  · refine rl_if (fun c166 => ?_) (fun c166 => ?_)
                    · have dc166 := tl_eq ix2 tn_3 c166
                      exfalso
                      omega
                    · exact rl_some ⟨rfl, (ti_bd tn_0 (by omega) (by omega))⟩
                  · rintro y37 y37r ⟨ey37, ly37⟩
                    obtain rfl : y37 = y37r := ey37
                    have ly37 : 0 ≤ y37.toInt ∧ y37.toInt ≤ 0 := ly37
                    have iy37 : TI y37 (0) := ti_c ly37
                    refine rl_ltI (av_add tn_2 iy37 (by omega) (by omega)) (fun x38 ix38 => ?_)
                    refine rl_bnd (r_tapRows ty9_2 i3 ix38 ⟨rfl, rfl⟩ hc4 i5 (by omega) (by omega) (by omega) (by omega) (by omega) wW_y9_2 (fun h => absurd (by first | rfl | assumption | omega) h)) ?_
                    rintro y39 y39r ⟨uy39', vT_y39'⟩
                    have uy39 : Up mu 144 y9_2 y9_2r y39 y39r := uy39'
                    have ty39 := cx_up ty9_2 uy39
                    have wW_y39 := wq_up uy39 wW_y9_2
                    have vT_y39 : WG mu y39 y39r c4 0 (4 * 4) (fun j => a5 + j / 4 * 16 + j % 4) := wg_cs vT_y39' (by omega) (by omega) (fun j h1 h2 => by (try dsimp only) <;> omega)
                    exact rl_some ⟨rfl, (ti_bd tn_1 (by omega) (by omega)), uy39, vT_y39⟩
              · rintro ⟨y35_1, y35_2⟩ ⟨y35_1r, y35_2r⟩ ⟨ey35_1, ly35_1, uy35_2, wT_y35_2⟩
                obtain rfl : y35_1 = y35_1r := ey35_1
                have ly35_1 : 1 ≤ y35_1.toInt ∧ y35_1.toInt ≤ 1 := ly35_1
                have iy35_1 : TI y35_1 (1) := ti_c ly35_1
                have uy35_2 : Up mu 144 y9_2 y9_2r y35_2 y35_2r := uy35_2
                have ty35_2 := cx_up ty9_2 uy35_2
                have wW_y35_2 := wq_up uy35_2 wW_y9_2
                have wT_y35_2 : WG mu y35_2 y35_2r c4 0 (4 * 4) (fun j => a5 + j / 4 * 16 + j % 4) := wT_y35_2
                exact rl_some ⟨rfl, (ti_bd iy35_1 (by omega) (by omega)), uy35_2, wT_y35_2⟩
          · rintro ⟨y10_1, y10_2⟩ ⟨y10_1r, y10_2r⟩ ⟨ey10_1, ly10_1, uy10_2, wT_y10_2⟩
            obtain rfl : y10_1 = y10_1r := ey10_1
            have ly10_1 : 1 ≤ y10_1.toInt ∧ y10_1.toInt ≤ 1 := ly10_1
            have iy10_1 : TI y10_1 (1) := ti_c ly10_1
            have uy10_2 : Up mu 144 y9_2 y9_2r y10_2 y10_2r := uy10_2
            have ty10_2 := cx_up ty9_2 uy10_2
            have wW_y10_2 := wq_up uy10_2 wW_y9_2
            have wT_y10_2 : WG mu y10_2 y10_2r c4 0 (4 * 4) (fun j => a5 + j / 4 * 16 + j % 4) := wT_y10_2
            refine rl_bnd (Q := fun (y z : Int32 × DD) => y.1 = z.1 ∧ (1 ≤ y.1.toInt ∧ y.1.toInt ≤ 1) ∧ Up mu 144 y10_2 y10_2r y.2 z.2) ?_ ?_
            · refine rl_if (fun c167 => ?_) (fun c167 => ?_)
              · have dc167 := tl_eq ix2 tn_0 c167
                exfalso
                omega
              · refine rl_bnd (Q := fun (y z : Int32 × DD) => y.1 = z.1 ∧ (1 ≤ y.1.toInt ∧ y.1.toInt ≤ 1) ∧ Up mu 144 y10_2 y10_2r y.2 z.2) ?_ ?_
                · refine rl_if (fun c168 => ?_) (fun c168 => ?_)
                  · have dc168 := tl_eq ix1 tn_2 c168
                    exfalso
                    omega
                  · refine rl_bnd (Q := fun (y z : Int32) => y = z ∧ (1 ≤ y.toInt ∧ y.toInt ≤ 1)) ?_ ?_
                    · refine rl_if (fun c169 => ?_) (fun c169 => ?_)
                      · have dc169 := tl_eq ix1 tn_3 c169
                        exact rl_some ⟨rfl, (ti_bd tn_1 (by omega) (by omega))⟩
                      · have dc169 := tl_ne ix1 tn_3 c169
                        exfalso
                        omega
                    · rintro y30 y30r ⟨ey30, ly30⟩
                      obtain rfl : y30 = y30r := ey30
                      have ly30 : 1 ≤ y30.toInt ∧ y30.toInt ≤ 1 := ly30
                      have iy30 : TI y30 (1) := ti_c ly30
                      refine rl_ltI (av_add tn_2 iy30 (by omega) (by omega)) (fun x31 ix31 => ?_)
                      refine rl_bnd (r_tapColumns ty10_2 i3 ix31 ⟨rfl, rfl⟩ hc4 i5 (by omega) (by omega) (by omega) (by omega) (by omega) wW_y10_2 (fun _ => wg_cs wT_y10_2 (by omega) (by omega) (fun j h1 h2 => by (try dsimp only) <;> omega))) ?_
                      rintro y32 y32r ⟨uy32', vT_y32'⟩
                      have uy32 : Up mu 144 y10_2 y10_2r y32 y32r := uy32'
                      have ty32 := cx_up ty10_2 uy32
                      have wW_y32 := wq_up uy32 wW_y10_2
                      have wT_y32 := wg_up uy32 wT_y10_2
                      have vT_y32 : WG mu y32 y32r c4 0 (4 * 4) (fun j => a5 + j / 4 * 16 + j % 4) := wg_cs vT_y32' (by omega) (by omega) (fun j h1 h2 => by (try dsimp only) <;> omega)
                      exact rl_some ⟨rfl, (ti_bd tn_1 (by omega) (by omega)), uy32⟩
                · rintro ⟨y28_1, y28_2⟩ ⟨y28_1r, y28_2r⟩ ⟨ey28_1, ly28_1, uy28_2⟩
                  obtain rfl : y28_1 = y28_1r := ey28_1
                  have ly28_1 : 1 ≤ y28_1.toInt ∧ y28_1.toInt ≤ 1 := ly28_1
                  have iy28_1 : TI y28_1 (1) := ti_c ly28_1
                  have uy28_2 : Up mu 144 y10_2 y10_2r y28_2 y28_2r := uy28_2
                  have ty28_2 := cx_up ty10_2 uy28_2
                  have wW_y28_2 := wq_up uy28_2 wW_y10_2
                  have wT_y28_2 := wg_up uy28_2 wT_y10_2
                  exact rl_some ⟨rfl, (ti_bd iy28_1 (by omega) (by omega)), uy28_2⟩
            · rintro ⟨y11_1, y11_2⟩ ⟨y11_1r, y11_2r⟩ ⟨ey11_1, ly11_1, uy11_2⟩
              obtain rfl : y11_1 = y11_1r := ey11_1
              have ly11_1 : 1 ≤ y11_1.toInt ∧ y11_1.toInt ≤ 1 := ly11_1
              have iy11_1 : TI y11_1 (1) := ti_c ly11_1
              have uy11_2 : Up mu 144 y10_2 y10_2r y11_2 y11_2r := uy11_2
              have ty11_2 := cx_up ty10_2 uy11_2
              have wW_y11_2 := wq_up uy11_2 wW_y10_2
              have wT_y11_2 := wg_up uy11_2 wT_y10_2
              refine rl_bnd (Q := fun (y z : DD) => Up mu 144 y11_2 y11_2r y z) ?_ ?_
              · refine rl_if (fun c170 => ?_) (fun c170 => ?_)
                · have dc170 := tl_eq ix1 tn_2 c170
                  exfalso
                  omega
                · refine rl_bnd (Q := fun (y z : DD) => Up mu 144 y11_2 y11_2r y z) ?_ ?_
                  · refine rl_if (fun c171 => ?_) (fun c171 => ?_)
                    · have dc171 := tl_eq ix2 tn_2 c171
                      exfalso
                      omega
                    · exact rl_some (up_0 mu (κ := 144) _ _)
                  · rintro y14 y14r uy14
                    have uy14 : Up mu 144 y11_2 y11_2r y14 y14r := uy14
                    have ty14 := cx_up ty11_2 uy14
                    have wW_y14 := wq_up uy14 wW_y11_2
                    have wT_y14 := wg_up uy14 wT_y11_2
                    exact rl_some uy14
              · rintro y12 y12r uy12
                have uy12 : Up mu 144 y11_2 y11_2r y12 y12r := uy12
                have ty12 := cx_up ty11_2 uy12
                have wW_y12 := wq_up uy12 wW_y11_2
                have wT_y12 := wg_up uy12 wT_y11_2
                exact rl_some ⟨(up_tr (up_tr (up_tr (up_tr uy8 uy9_2) uy10_2) uy11_2) uy12), wT_y12⟩
      · clear ix2 zx2
        have ix2 : TI x2 2 := yx2
        refine rl_ltI (av_sar 2 i1 (by decide)) (fun x3 ix3 => ?_)
        refine rl_ltI (av_sub ix3 tn_2 (by omega) (by omega)) (fun x4 ix4 => ?_)
        refine rl_ltI (av_sar 2 i2 (by decide)) (fun x5 ix5 => ?_)
        refine rl_ltI (av_sub ix5 tn_2 (by omega) (by omega)) (fun x6 ix6 => ?_)
        refine rl_ltI (av_add i3 tn_5 (by omega) (by omega)) (fun x7 ix7 => ?_)
        refine rl_bnd (r_fillWindow t ⟨rfl, rfl⟩ hq0 ix7 (by omega) (by omega)) ?_
        rintro y8 y8r ⟨uy8', vW_y8⟩
        have uy8 : Up mu 144 M N y8 y8r := uy8'
        have ty8 := cx_up t uy8
        refine rl_bnd (Q := fun (y z : Int32 × DD) => y.1 = z.1 ∧ (0 ≤ y.1.toInt ∧ y.1.toInt ≤ 0) ∧ Up mu 144 y8 y8r y.2 z.2) ?_ ?_
        · refine rl_if (fun c172 => ?_) (fun c172 => ?_)
          · have dc172 := tl_eq ix2 tn_0 c172
            exfalso
            omega
          · refine rl_bnd (Q := fun (y z : Int32 × DD) => y.1 = z.1 ∧ (0 ≤ y.1.toInt ∧ y.1.toInt ≤ 0) ∧ Up mu 144 y8 y8r y.2 z.2) ?_ ?_
            · refine rl_if (fun c173 => ?_) (fun c173 => ?_)
              · have dc173 := tl_eq ix1 tn_0 c173
                exfalso
                omega
              · exact rl_some ⟨rfl, (ti_bd tn_0 (by omega) (by omega)), (up_0 mu (κ := 144) _ _)⟩
            · rintro ⟨y42_1, y42_2⟩ ⟨y42_1r, y42_2r⟩ ⟨ey42_1, ly42_1, uy42_2⟩
              obtain rfl : y42_1 = y42_1r := ey42_1
              have ly42_1 : 0 ≤ y42_1.toInt ∧ y42_1.toInt ≤ 0 := ly42_1
              have iy42_1 : TI y42_1 (0) := ti_c ly42_1
              have uy42_2 : Up mu 144 y8 y8r y42_2 y42_2r := uy42_2
              have ty42_2 := cx_up ty8 uy42_2
              have wW_y42_2 := wq_up uy42_2 vW_y8
              exact rl_some ⟨rfl, (ti_bd iy42_1 (by omega) (by omega)), uy42_2⟩
        · rintro ⟨y9_1, y9_2⟩ ⟨y9_1r, y9_2r⟩ ⟨ey9_1, ly9_1, uy9_2⟩
          obtain rfl : y9_1 = y9_1r := ey9_1
          have ly9_1 : 0 ≤ y9_1.toInt ∧ y9_1.toInt ≤ 0 := ly9_1
          have iy9_1 : TI y9_1 (0) := ti_c ly9_1
          have uy9_2 : Up mu 144 y8 y8r y9_2 y9_2r := uy9_2
          have ty9_2 := cx_up ty8 uy9_2
          have wW_y9_2 := wq_up uy9_2 vW_y8
          refine rl_bnd (Q := fun (y z : Int32 × DD) => y.1 = z.1 ∧ (0 ≤ y.1.toInt ∧ y.1.toInt ≤ 0) ∧ Up mu 144 y9_2 y9_2r y.2 z.2) ?_ ?_
          · refine rl_if (fun c174 => ?_) (fun c174 => ?_)
            · have dc174 := tl_eq ix1 tn_0 c174
              exfalso
              omega
            · refine rl_bnd (Q := fun (y z : Int32 × DD) => y.1 = z.1 ∧ (0 ≤ y.1.toInt ∧ y.1.toInt ≤ 0) ∧ Up mu 144 y9_2 y9_2r y.2 z.2) ?_ ?_
              · refine rl_if (fun c175 => ?_) (fun c175 => ?_)
                · have dc175 := tl_eq ix2 tn_2 c175
                  exact rl_some ⟨rfl, (ti_bd iy9_1 (by omega) (by omega)), (up_0 mu (κ := 144) _ _)⟩
                · have dc175 := tl_ne ix2 tn_2 c175
                  exfalso
                  omega
              · rintro ⟨y35_1, y35_2⟩ ⟨y35_1r, y35_2r⟩ ⟨ey35_1, ly35_1, uy35_2⟩
                obtain rfl : y35_1 = y35_1r := ey35_1
                have ly35_1 : 0 ≤ y35_1.toInt ∧ y35_1.toInt ≤ 0 := ly35_1
                have iy35_1 : TI y35_1 (0) := ti_c ly35_1
                have uy35_2 : Up mu 144 y9_2 y9_2r y35_2 y35_2r := uy35_2
                have ty35_2 := cx_up ty9_2 uy35_2
                have wW_y35_2 := wq_up uy35_2 wW_y9_2
                exact rl_some ⟨rfl, (ti_bd iy35_1 (by omega) (by omega)), uy35_2⟩
          · rintro ⟨y10_1, y10_2⟩ ⟨y10_1r, y10_2r⟩ ⟨ey10_1, ly10_1, uy10_2⟩
            obtain rfl : y10_1 = y10_1r := ey10_1
            have ly10_1 : 0 ≤ y10_1.toInt ∧ y10_1.toInt ≤ 0 := ly10_1
            have iy10_1 : TI y10_1 (0) := ti_c ly10_1
            have uy10_2 : Up mu 144 y9_2 y9_2r y10_2 y10_2r := uy10_2
            have ty10_2 := cx_up ty9_2 uy10_2
            have wW_y10_2 := wq_up uy10_2 wW_y9_2
            refine rl_bnd (Q := fun (y z : Int32 × DD) => y.1 = z.1 ∧ (1 ≤ y.1.toInt ∧ y.1.toInt ≤ 1) ∧ Up mu 144 y10_2 y10_2r y.2 z.2 ∧ WG mu y.2 z.2 c4 0 (4 * 4) (fun j => a5 + j / 4 * 16 + j % 4)) ?_ ?_
            · refine rl_if (fun c176 => ?_) (fun c176 => ?_)
              · have dc176 := tl_eq ix2 tn_0 c176
                exfalso
                omega
              · refine rl_bnd (Q := fun (y z : Int32 × DD) => y.1 = z.1 ∧ (1 ≤ y.1.toInt ∧ y.1.toInt ≤ 1) ∧ Up mu 144 y10_2 y10_2r y.2 z.2 ∧ WG mu y.2 z.2 c4 0 (4 * 4) (fun j => a5 + j / 4 * 16 + j % 4)) ?_ ?_
                · refine rl_if (fun c177 => ?_) (fun c177 => ?_)
                  · have dc177 := tl_eq ix1 tn_2 c177
                    exfalso
                    omega
                  · refine rl_bnd (Q := fun (y z : Int32) => y = z ∧ (1 ≤ y.toInt ∧ y.toInt ≤ 1)) ?_ ?_
                    · refine rl_if (fun c178 => ?_) (fun c178 => ?_)
                      · have dc178 := tl_eq ix1 tn_3 c178
                        exact rl_some ⟨rfl, (ti_bd tn_1 (by omega) (by omega))⟩
                      · have dc178 := tl_ne ix1 tn_3 c178
                        exfalso
                        omega
                    · rintro y30 y30r ⟨ey30, ly30⟩
                      obtain rfl : y30 = y30r := ey30
                      have ly30 : 1 ≤ y30.toInt ∧ y30.toInt ≤ 1 := ly30
                      have iy30 : TI y30 (1) := ti_c ly30
                      refine rl_ltI (av_add tn_2 iy30 (by omega) (by omega)) (fun x31 ix31 => ?_)
                      refine rl_bnd (r_tapColumns ty10_2 i3 ix31 ⟨rfl, rfl⟩ hc4 i5 (by omega) (by omega) (by omega) (by omega) (by omega) wW_y10_2 (fun h => absurd (by first | rfl | assumption | omega) h)) ?_
                      rintro y32 y32r ⟨uy32', vT_y32'⟩
                      have uy32 : Up mu 144 y10_2 y10_2r y32 y32r := uy32'
                      have ty32 := cx_up ty10_2 uy32
                      have wW_y32 := wq_up uy32 wW_y10_2
                      have vT_y32 : WG mu y32 y32r c4 0 (4 * 4) (fun j => a5 + j / 4 * 16 + j % 4) := wg_cs vT_y32' (by omega) (by omega) (fun j h1 h2 => by (try dsimp only) <;> omega)
                      exact rl_some ⟨rfl, (ti_bd tn_1 (by omega) (by omega)), uy32, vT_y32⟩
                · rintro ⟨y28_1, y28_2⟩ ⟨y28_1r, y28_2r⟩ ⟨ey28_1, ly28_1, uy28_2, wT_y28_2⟩
                  obtain rfl : y28_1 = y28_1r := ey28_1
                  have ly28_1 : 1 ≤ y28_1.toInt ∧ y28_1.toInt ≤ 1 := ly28_1
                  have iy28_1 : TI y28_1 (1) := ti_c ly28_1
                  have uy28_2 : Up mu 144 y10_2 y10_2r y28_2 y28_2r := uy28_2
                  have ty28_2 := cx_up ty10_2 uy28_2
                  have wW_y28_2 := wq_up uy28_2 wW_y10_2
                  have wT_y28_2 : WG mu y28_2 y28_2r c4 0 (4 * 4) (fun j => a5 + j / 4 * 16 + j % 4) := wT_y28_2
                  exact rl_some ⟨rfl, (ti_bd iy28_1 (by omega) (by omega)), uy28_2, wT_y28_2⟩
            · rintro ⟨y11_1, y11_2⟩ ⟨y11_1r, y11_2r⟩ ⟨ey11_1, ly11_1, uy11_2, wT_y11_2⟩
              obtain rfl : y11_1 = y11_1r := ey11_1
              have ly11_1 : 1 ≤ y11_1.toInt ∧ y11_1.toInt ≤ 1 := ly11_1
              have iy11_1 : TI y11_1 (1) := ti_c ly11_1
              have uy11_2 : Up mu 144 y10_2 y10_2r y11_2 y11_2r := uy11_2
              have ty11_2 := cx_up ty10_2 uy11_2
              have wW_y11_2 := wq_up uy11_2 wW_y10_2
              have wT_y11_2 : WG mu y11_2 y11_2r c4 0 (4 * 4) (fun j => a5 + j / 4 * 16 + j % 4) := wT_y11_2
              refine rl_bnd (Q := fun (y z : DD) => Up mu 144 y11_2 y11_2r y z) ?_ ?_
              · refine rl_if (fun c179 => ?_) (fun c179 => ?_)
                · have dc179 := tl_eq ix1 tn_2 c179
                  exfalso
                  omega
                · refine rl_bnd (Q := fun (y z : DD) => Up mu 144 y11_2 y11_2r y z) ?_ ?_
                  · refine rl_if (fun c180 => ?_) (fun c180 => ?_)
                    · have dc180 := tl_eq ix2 tn_2 c180
                      refine rl_bnd (Q := fun (y z : DD) => Up mu 144 y11_2 y11_2r y z) ?_ ?_
                      · refine rl_if (fun c181 => ?_) (fun c181 => ?_)
                        · have dc181 := tl_eq ix1 tn_0 c181
                          exfalso
                          omega
                        · refine rl_bnd (r_tapBoth ty11_2 i3 ⟨rfl, rfl⟩ hc4 i5 (by omega) (by omega) (by omega) wW_y11_2 (fun _ => wg_cs wT_y11_2 (by omega) (by omega) (fun j h1 h2 => by (try dsimp only) <;> omega))) ?_
                          rintro y18 y18r ⟨uy18', vT_y18'⟩
                          have uy18 : Up mu 144 y11_2 y11_2r y18 y18r := uy18'
                          have ty18 := cx_up ty11_2 uy18
                          have wW_y18 := wq_up uy18 wW_y11_2
                          have wT_y18 := wg_up uy18 wT_y11_2
                          have vT_y18 : WG mu y18 y18r c4 0 (4 * 4) (fun j => a5 + j / 4 * 16 + j % 4) := wg_cs vT_y18' (by omega) (by omega) (fun j h1 h2 => by (try dsimp only) <;> omega)
                          exact rl_some uy18
                      · rintro y16 y16r uy16
                        have uy16 : Up mu 144 y11_2 y11_2r y16 y16r := uy16
                        have ty16 := cx_up ty11_2 uy16
                        have wW_y16 := wq_up uy16 wW_y11_2
                        have wT_y16 := wg_up uy16 wT_y11_2
                        exact rl_some uy16
                    · have dc180 := tl_ne ix2 tn_2 c180
                      exfalso
                      omega
                  · rintro y14 y14r uy14
                    have uy14 : Up mu 144 y11_2 y11_2r y14 y14r := uy14
                    have ty14 := cx_up ty11_2 uy14
                    have wW_y14 := wq_up uy14 wW_y11_2
                    have wT_y14 := wg_up uy14 wT_y11_2
                    exact rl_some uy14
              · rintro y12 y12r uy12
                have uy12 : Up mu 144 y11_2 y11_2r y12 y12r := uy12
                have ty12 := cx_up ty11_2 uy12
                have wW_y12 := wq_up uy12 wW_y11_2
                have wT_y12 := wg_up uy12 wT_y11_2
                exact rl_some ⟨(up_tr (up_tr (up_tr (up_tr uy8 uy9_2) uy10_2) uy11_2) uy12), wT_y12⟩
      · clear ix2 zx2
        have ix2 : TI x2 3 := yx2
        refine rl_ltI (av_sar 2 i1 (by decide)) (fun x3 ix3 => ?_)
        refine rl_ltI (av_sub ix3 tn_2 (by omega) (by omega)) (fun x4 ix4 => ?_)
        refine rl_ltI (av_sar 2 i2 (by decide)) (fun x5 ix5 => ?_)
        refine rl_ltI (av_sub ix5 tn_2 (by omega) (by omega)) (fun x6 ix6 => ?_)
        refine rl_ltI (av_add i3 tn_5 (by omega) (by omega)) (fun x7 ix7 => ?_)
        refine rl_bnd (r_fillWindow t ⟨rfl, rfl⟩ hq0 ix7 (by omega) (by omega)) ?_
        rintro y8 y8r ⟨uy8', vW_y8⟩
        have uy8 : Up mu 144 M N y8 y8r := uy8'
        have ty8 := cx_up t uy8
        refine rl_bnd (Q := fun (y z : Int32 × DD) => y.1 = z.1 ∧ (0 ≤ y.1.toInt ∧ y.1.toInt ≤ 0) ∧ Up mu 144 y8 y8r y.2 z.2) ?_ ?_
        · refine rl_if (fun c182 => ?_) (fun c182 => ?_)
          · have dc182 := tl_eq ix2 tn_0 c182
            exfalso
            omega
          · refine rl_bnd (Q := fun (y z : Int32 × DD) => y.1 = z.1 ∧ (0 ≤ y.1.toInt ∧ y.1.toInt ≤ 0) ∧ Up mu 144 y8 y8r y.2 z.2) ?_ ?_
            · refine rl_if (fun c183 => ?_) (fun c183 => ?_)
              · have dc183 := tl_eq ix1 tn_0 c183
                exfalso
                omega
              · exact rl_some ⟨rfl, (ti_bd tn_0 (by omega) (by omega)), (up_0 mu (κ := 144) _ _)⟩
            · rintro ⟨y42_1, y42_2⟩ ⟨y42_1r, y42_2r⟩ ⟨ey42_1, ly42_1, uy42_2⟩
              obtain rfl : y42_1 = y42_1r := ey42_1
              have ly42_1 : 0 ≤ y42_1.toInt ∧ y42_1.toInt ≤ 0 := ly42_1
              have iy42_1 : TI y42_1 (0) := ti_c ly42_1
              have uy42_2 : Up mu 144 y8 y8r y42_2 y42_2r := uy42_2
              have ty42_2 := cx_up ty8 uy42_2
              have wW_y42_2 := wq_up uy42_2 vW_y8
              exact rl_some ⟨rfl, (ti_bd iy42_1 (by omega) (by omega)), uy42_2⟩
        · rintro ⟨y9_1, y9_2⟩ ⟨y9_1r, y9_2r⟩ ⟨ey9_1, ly9_1, uy9_2⟩
          obtain rfl : y9_1 = y9_1r := ey9_1
          have ly9_1 : 0 ≤ y9_1.toInt ∧ y9_1.toInt ≤ 0 := ly9_1
          have iy9_1 : TI y9_1 (0) := ti_c ly9_1
          have uy9_2 : Up mu 144 y8 y8r y9_2 y9_2r := uy9_2
          have ty9_2 := cx_up ty8 uy9_2
          have wW_y9_2 := wq_up uy9_2 vW_y8
          refine rl_bnd (Q := fun (y z : Int32 × DD) => y.1 = z.1 ∧ (1 ≤ y.1.toInt ∧ y.1.toInt ≤ 1) ∧ Up mu 144 y9_2 y9_2r y.2 z.2 ∧ WG mu y.2 z.2 c4 0 (4 * 4) (fun j => a5 + j / 4 * 16 + j % 4)) ?_ ?_
          · refine rl_if (fun c184 => ?_) (fun c184 => ?_)
            · have dc184 := tl_eq ix1 tn_0 c184
              exfalso
              omega
            · refine rl_bnd (Q := fun (y z : Int32 × DD) => y.1 = z.1 ∧ (1 ≤ y.1.toInt ∧ y.1.toInt ≤ 1) ∧ Up mu 144 y9_2 y9_2r y.2 z.2 ∧ WG mu y.2 z.2 c4 0 (4 * 4) (fun j => a5 + j / 4 * 16 + j % 4)) ?_ ?_
              · refine rl_if (fun c185 => ?_) (fun c185 => ?_)
                · have dc185 := tl_eq ix2 tn_2 c185
                  exfalso
                  omega
                · refine rl_bnd (Q := fun (y z : Int32) => y = z ∧ (1 ≤ y.toInt ∧ y.toInt ≤ 1)) ?_ ?_
                  · refine rl_if (fun c186 => ?_) (fun c186 => ?_)
                    · have dc186 := tl_eq ix2 tn_3 c186
                      exact rl_some ⟨rfl, (ti_bd tn_1 (by omega) (by omega))⟩
                    · have dc186 := tl_ne ix2 tn_3 c186
                      exfalso
                      omega
                  · rintro y37 y37r ⟨ey37, ly37⟩
                    obtain rfl : y37 = y37r := ey37
                    have ly37 : 1 ≤ y37.toInt ∧ y37.toInt ≤ 1 := ly37
                    have iy37 : TI y37 (1) := ti_c ly37
                    refine rl_ltI (av_add tn_2 iy37 (by omega) (by omega)) (fun x38 ix38 => ?_)
                    refine rl_bnd (r_tapRows ty9_2 i3 ix38 ⟨rfl, rfl⟩ hc4 i5 (by omega) (by omega) (by omega) (by omega) (by omega) wW_y9_2 (fun h => absurd (by first | rfl | assumption | omega) h)) ?_
                    rintro y39 y39r ⟨uy39', vT_y39'⟩
                    have uy39 : Up mu 144 y9_2 y9_2r y39 y39r := uy39'
                    have ty39 := cx_up ty9_2 uy39
                    have wW_y39 := wq_up uy39 wW_y9_2
                    have vT_y39 : WG mu y39 y39r c4 0 (4 * 4) (fun j => a5 + j / 4 * 16 + j % 4) := wg_cs vT_y39' (by omega) (by omega) (fun j h1 h2 => by (try dsimp only) <;> omega)
                    exact rl_some ⟨rfl, (ti_bd tn_1 (by omega) (by omega)), uy39, vT_y39⟩
              · rintro ⟨y35_1, y35_2⟩ ⟨y35_1r, y35_2r⟩ ⟨ey35_1, ly35_1, uy35_2, wT_y35_2⟩
                obtain rfl : y35_1 = y35_1r := ey35_1
                have ly35_1 : 1 ≤ y35_1.toInt ∧ y35_1.toInt ≤ 1 := ly35_1
                have iy35_1 : TI y35_1 (1) := ti_c ly35_1
                have uy35_2 : Up mu 144 y9_2 y9_2r y35_2 y35_2r := uy35_2
                have ty35_2 := cx_up ty9_2 uy35_2
                have wW_y35_2 := wq_up uy35_2 wW_y9_2
                have wT_y35_2 : WG mu y35_2 y35_2r c4 0 (4 * 4) (fun j => a5 + j / 4 * 16 + j % 4) := wT_y35_2
                exact rl_some ⟨rfl, (ti_bd iy35_1 (by omega) (by omega)), uy35_2, wT_y35_2⟩
          · rintro ⟨y10_1, y10_2⟩ ⟨y10_1r, y10_2r⟩ ⟨ey10_1, ly10_1, uy10_2, wT_y10_2⟩
            obtain rfl : y10_1 = y10_1r := ey10_1
            have ly10_1 : 1 ≤ y10_1.toInt ∧ y10_1.toInt ≤ 1 := ly10_1
            have iy10_1 : TI y10_1 (1) := ti_c ly10_1
            have uy10_2 : Up mu 144 y9_2 y9_2r y10_2 y10_2r := uy10_2
            have ty10_2 := cx_up ty9_2 uy10_2
            have wW_y10_2 := wq_up uy10_2 wW_y9_2
            have wT_y10_2 : WG mu y10_2 y10_2r c4 0 (4 * 4) (fun j => a5 + j / 4 * 16 + j % 4) := wT_y10_2
            refine rl_bnd (Q := fun (y z : Int32 × DD) => y.1 = z.1 ∧ (1 ≤ y.1.toInt ∧ y.1.toInt ≤ 1) ∧ Up mu 144 y10_2 y10_2r y.2 z.2) ?_ ?_
            · refine rl_if (fun c187 => ?_) (fun c187 => ?_)
              · have dc187 := tl_eq ix2 tn_0 c187
                exfalso
                omega
              · refine rl_bnd (Q := fun (y z : Int32 × DD) => y.1 = z.1 ∧ (1 ≤ y.1.toInt ∧ y.1.toInt ≤ 1) ∧ Up mu 144 y10_2 y10_2r y.2 z.2) ?_ ?_
                · refine rl_if (fun c188 => ?_) (fun c188 => ?_)
                  · have dc188 := tl_eq ix1 tn_2 c188
                    exfalso
                    omega
                  · refine rl_bnd (Q := fun (y z : Int32) => y = z ∧ (1 ≤ y.toInt ∧ y.toInt ≤ 1)) ?_ ?_
                    · refine rl_if (fun c189 => ?_) (fun c189 => ?_)
                      · have dc189 := tl_eq ix1 tn_3 c189
                        exact rl_some ⟨rfl, (ti_bd tn_1 (by omega) (by omega))⟩
                      · have dc189 := tl_ne ix1 tn_3 c189
                        exfalso
                        omega
                    · rintro y30 y30r ⟨ey30, ly30⟩
                      obtain rfl : y30 = y30r := ey30
                      have ly30 : 1 ≤ y30.toInt ∧ y30.toInt ≤ 1 := ly30
                      have iy30 : TI y30 (1) := ti_c ly30
                      refine rl_ltI (av_add tn_2 iy30 (by omega) (by omega)) (fun x31 ix31 => ?_)
                      refine rl_bnd (r_tapColumns ty10_2 i3 ix31 ⟨rfl, rfl⟩ hc4 i5 (by omega) (by omega) (by omega) (by omega) (by omega) wW_y10_2 (fun _ => wg_cs wT_y10_2 (by omega) (by omega) (fun j h1 h2 => by (try dsimp only) <;> omega))) ?_
                      rintro y32 y32r ⟨uy32', vT_y32'⟩
                      have uy32 : Up mu 144 y10_2 y10_2r y32 y32r := uy32'
                      have ty32 := cx_up ty10_2 uy32
                      have wW_y32 := wq_up uy32 wW_y10_2
                      have wT_y32 := wg_up uy32 wT_y10_2
                      have vT_y32 : WG mu y32 y32r c4 0 (4 * 4) (fun j => a5 + j / 4 * 16 + j % 4) := wg_cs vT_y32' (by omega) (by omega) (fun j h1 h2 => by (try dsimp only) <;> omega)
                      exact rl_some ⟨rfl, (ti_bd tn_1 (by omega) (by omega)), uy32⟩
                · rintro ⟨y28_1, y28_2⟩ ⟨y28_1r, y28_2r⟩ ⟨ey28_1, ly28_1, uy28_2⟩
                  obtain rfl : y28_1 = y28_1r := ey28_1
                  have ly28_1 : 1 ≤ y28_1.toInt ∧ y28_1.toInt ≤ 1 := ly28_1
                  have iy28_1 : TI y28_1 (1) := ti_c ly28_1
                  have uy28_2 : Up mu 144 y10_2 y10_2r y28_2 y28_2r := uy28_2
                  have ty28_2 := cx_up ty10_2 uy28_2
                  have wW_y28_2 := wq_up uy28_2 wW_y10_2
                  have wT_y28_2 := wg_up uy28_2 wT_y10_2
                  exact rl_some ⟨rfl, (ti_bd iy28_1 (by omega) (by omega)), uy28_2⟩
            · rintro ⟨y11_1, y11_2⟩ ⟨y11_1r, y11_2r⟩ ⟨ey11_1, ly11_1, uy11_2⟩
              obtain rfl : y11_1 = y11_1r := ey11_1
              have ly11_1 : 1 ≤ y11_1.toInt ∧ y11_1.toInt ≤ 1 := ly11_1
              have iy11_1 : TI y11_1 (1) := ti_c ly11_1
              have uy11_2 : Up mu 144 y10_2 y10_2r y11_2 y11_2r := uy11_2
              have ty11_2 := cx_up ty10_2 uy11_2
              have wW_y11_2 := wq_up uy11_2 wW_y10_2
              have wT_y11_2 := wg_up uy11_2 wT_y10_2
              refine rl_bnd (Q := fun (y z : DD) => Up mu 144 y11_2 y11_2r y z) ?_ ?_
              · refine rl_if (fun c190 => ?_) (fun c190 => ?_)
                · have dc190 := tl_eq ix1 tn_2 c190
                  exfalso
                  omega
                · refine rl_bnd (Q := fun (y z : DD) => Up mu 144 y11_2 y11_2r y z) ?_ ?_
                  · refine rl_if (fun c191 => ?_) (fun c191 => ?_)
                    · have dc191 := tl_eq ix2 tn_2 c191
                      exfalso
                      omega
                    · exact rl_some (up_0 mu (κ := 144) _ _)
                  · rintro y14 y14r uy14
                    have uy14 : Up mu 144 y11_2 y11_2r y14 y14r := uy14
                    have ty14 := cx_up ty11_2 uy14
                    have wW_y14 := wq_up uy14 wW_y11_2
                    have wT_y14 := wg_up uy14 wT_y11_2
                    exact rl_some uy14
              · rintro y12 y12r uy12
                have uy12 : Up mu 144 y11_2 y11_2r y12 y12r := uy12
                have ty12 := cx_up ty11_2 uy12
                have wW_y12 := wq_up uy12 wW_y11_2
                have wT_y12 := wg_up uy12 wT_y11_2
                exact rl_some ⟨(up_tr (up_tr (up_tr (up_tr uy8 uy9_2) uy10_2) uy11_2) uy12), wT_y12⟩
  · refine rl_ltI (av_and 2 i1 (by decide) (by decide)) (fun x1 ix1 => ?_)
    have zx1 : x1.toInt = _ := ix1
    rcases (by omega : x1.toInt = 0 ∨ x1.toInt = 1 ∨ x1.toInt = 2 ∨ x1.toInt = 3) with yx1 | yx1 | yx1 | yx1
    · clear ix1 zx1
      have ix1 : TI x1 0 := yx1
      refine rl_ltI (av_and 2 i2 (by decide) (by decide)) (fun x2 ix2 => ?_)
      have zx2 : x2.toInt = _ := ix2
      rcases (by omega : x2.toInt = 0 ∨ x2.toInt = 1 ∨ x2.toInt = 2 ∨ x2.toInt = 3) with yx2 | yx2 | yx2 | yx2
      · clear ix2 zx2
        have ix2 : TI x2 0 := yx2
        refine rl_ltI (av_sar 2 i1 (by decide)) (fun x3 ix3 => ?_)
        refine rl_ltI (av_sub ix3 tn_2 (by omega) (by omega)) (fun x4 ix4 => ?_)
        refine rl_ltI (av_sar 2 i2 (by decide)) (fun x5 ix5 => ?_)
        refine rl_ltI (av_sub ix5 tn_2 (by omega) (by omega)) (fun x6 ix6 => ?_)
        refine rl_ltI (av_add i3 tn_5 (by omega) (by omega)) (fun x7 ix7 => ?_)
        refine rl_bnd (r_fillWindow t ⟨rfl, rfl⟩ hq0 ix7 (by omega) (by omega)) ?_
        rintro y8 y8r ⟨uy8', vW_y8⟩
        have uy8 : Up mu 144 M N y8 y8r := uy8'
        have ty8 := cx_up t uy8
        refine rl_bnd (Q := fun (y z : Int32 × DD) => y.1 = z.1 ∧ (1 ≤ y.1.toInt ∧ y.1.toInt ≤ 1) ∧ Up mu 144 y8 y8r y.2 z.2 ∧ WG mu y.2 z.2 c4 0 (8 * 8) (fun j => a5 + j / 8 * 16 + j % 8)) ?_ ?_
        · refine rl_if (fun c1 => ?_) (fun c1 => ?_)
          · have dc1 := tl_eq ix2 tn_0 c1
            refine rl_bnd (Q := fun (y z : Int32 × DD) => y.1 = z.1 ∧ (1 ≤ y.1.toInt ∧ y.1.toInt ≤ 1) ∧ Up mu 144 y8 y8r y.2 z.2 ∧ WG mu y.2 z.2 c4 0 (8 * 8) (fun j => a5 + j / 8 * 16 + j % 8)) ?_ ?_
            · refine rl_if (fun c2 => ?_) (fun c2 => ?_)
              · have dc2 := tl_eq ix1 tn_2 c2
                exfalso
                omega
              · refine rl_bnd (Q := fun (y z : Int32) => y = z ∧ (0 ≤ y.toInt ∧ y.toInt ≤ 0)) ?_ ?_
                · refine rl_if (fun c3 => ?_) (fun c3 => ?_)
                  · have dc3 := tl_eq ix2 tn_3 c3
                    exfalso
                    omega
                  · exact rl_some ⟨rfl, (ti_bd tn_0 (by omega) (by omega))⟩
                · rintro y77 y77r ⟨ey77, ly77⟩
                  obtain rfl : y77 = y77r := ey77
                  have ly77 : 0 ≤ y77.toInt ∧ y77.toInt ≤ 0 := ly77
                  have iy77 : TI y77 (0) := ti_c ly77
                  have ky77 : y77.toInt = _ := iy77
                  refine rl_ltI (av_add tn_2 iy77 (by omega) (by omega)) (fun x78 ix78 => ?_)
                  refine rl_ltI (av_mul ix78 tn_21 (by omega) (by omega)) (fun x79 ix79 => ?_)
                  refine rl_ltI (av_add ix79 tn_2 (by omega) (by omega)) (fun x80 ix80 => ?_)
                  refine rl_bnd (Q := fun (y z : Int32) => y = z ∧ (0 ≤ y.toInt ∧ y.toInt ≤ 0)) ?_ ?_
                  · refine rl_if (fun c4 => ?_) (fun c4 => ?_)
                    · have dc4 := tl_eq ix1 tn_3 c4
                      exfalso
                      omega
                    · exact rl_some ⟨rfl, (ti_bd tn_0 (by omega) (by omega))⟩
                  · rintro y81 y81r ⟨ey81, ly81⟩
                    obtain rfl : y81 = y81r := ey81
                    have ly81 : 0 ≤ y81.toInt ∧ y81.toInt ≤ 0 := ly81
                    have iy81 : TI y81 (0) := ti_c ly81
                    have ky81 : y81.toInt = _ := iy81
                    refine rl_ltI (av_add ix80 iy81 (by omega) (by omega)) (fun x82 ix82 => ?_)
                    refine rl_bnd (Q := fun (y z : Int32 × DD) => y.1 = z.1 ∧ (0 ≤ y.1.toInt ∧ y.1.toInt ≤ (8 * 8)) ∧ Up mu 144 y8 y8r y.2 z.2 ∧ WG mu y.2 z.2 c4 (0) (8 * 8) (fun j => a5 + j / 8 * 16 + j % 8)) (rl_itr (fun (y z : Int32 × DD) => y.1 = z.1 ∧ (0 ≤ y.1.toInt ∧ y.1.toInt ≤ (8 * 8)) ∧ Up mu 144 y8 y8r y.2 z.2 ∧ WG mu y.2 z.2 c4 (0) (y.1.toInt) (fun j => a5 + j / 8 * 16 + j % 8)) _ ?_ _ _ _ ?_) ?_
                    · rintro ⟨s84_1, s84_2⟩ ⟨s84_1r, s84_2r⟩ ⟨es84_1, ls84_1, us84_2, vT_s84_2⟩
                      obtain rfl : s84_1 = s84_1r := es84_1
                      have ls84_1 : 0 ≤ s84_1.toInt ∧ s84_1.toInt ≤ (8 * 8) := ls84_1
                      have is84_1 : TI s84_1 s84_1.toInt := rfl
                      have us84_2 : Up mu 144 y8 y8r s84_2 s84_2r := us84_2
                      have ts84_2 := cx_up ty8 us84_2
                      have wW_s84_2 := wq_up us84_2 vW_y8
                      have vT_s84_2 : WG mu s84_2 s84_2r c4 (0) (s84_1.toInt) (fun j => a5 + j / 8 * 16 + j % 8) := vT_s84_2
                      refine rl_ltI (av_mul i3 i3 (by omega) (by omega)) (fun x87 ix87 => ?_)
                      refine rl_if (fun c5 => ?_) (fun c5 => ?_)
                      · have dc5 := tl_le ix87 is84_1 c5
                        exact rl_inr ⟨rfl, (ti_bd is84_1 (by omega) (by omega)), us84_2, (wg_sub vT_s84_2 (by omega) (by omega))⟩
                      · have dc5 := tl_nle ix87 is84_1 c5
                        refine rl_chk (fun h => h) (fun k6 => ?_)
                        refine rl_ltI (av_div is84_1 i3 (by omega) (by omega)) (fun x89 ix89 => ?_)
                        refine rl_ltI (av_mul ix89 tn_16 (by omega) (by omega)) (fun x90 ix90 => ?_)
                        refine rl_ltI (av_add i5 ix90 (by omega) (by omega)) (fun x91 ix91 => ?_)
                        refine rl_chk (fun h => h) (fun k7 => ?_)
                        refine rl_ltI (av_mod is84_1 i3 (by omega) (by omega)) (fun x92 ix92 => ?_)
                        refine rl_ltI (av_add ix91 ix92 (by omega) (by omega)) (fun x93 ix93 => ?_)
                        refine rl_chk (fun h => h) (fun k8 => ?_)
                        refine rl_ltI (av_div is84_1 i3 (by omega) (by omega)) (fun x94 ix94 => ?_)
                        refine rl_ltI (av_mul ix94 tn_21 (by omega) (by omega)) (fun x95 ix95 => ?_)
                        refine rl_ltI (av_add ix82 ix95 (by omega) (by omega)) (fun x96 ix96 => ?_)
                        refine rl_chk (fun h => h) (fun k9 => ?_)
                        refine rl_ltI (av_mod is84_1 i3 (by omega) (by omega)) (fun x97 ix97 => ?_)
                        refine rl_ltI (av_add ix96 ix97 (by omega) (by omega)) (fun x98 ix98 => ?_)
                        refine rl_dr (cx_U ts84_2) (rx_c (a := 138) (k := 3) (b := 142) ts84_2 (Or.inr (Or.inl rfl)) rfl (by decide)) (fun gb99 => ?_)
                        refine rl_chk (chkl (cx_U ts84_2) gb99) (fun k10 => ?_)
                        refine rl_rd (wq_use wW_s84_2 ix98 (s84_1.toInt / 8 + 2 + y77.toInt) (s84_1.toInt % 8 + 2 + y81.toInt) (by omega) (by omega) (by omega) (by omega) (by (try dsimp only) <;> omega)) (fun x100 => ?_)
                        refine rl_dr (cx_U ts84_2) ⟨rfl, rfl⟩ (fun gb101 => ?_)
                        refine rl_chk (chkl (cx_U ts84_2) gb101) (fun k11 => ?_)
                        refine rl_w (κ := 144) (cx_U ts84_2) (by rcases hc4 with h | h <;> omega) (fun M102 M102r uM102 AM102 nM102 => ?_)
                        have tM102 := cx_up ts84_2 uM102
                        have wW_M102 := wq_up uM102 wW_s84_2
                        have wT_M102 := wg_up uM102 vT_s84_2
                        refine rl_ltI (av_add is84_1 tn_1 (by omega) (by omega)) (fun x103 ix103 => ?_)
                        exact rl_inl ⟨rfl, (ti_bd ix103 (by omega) (by omega)), (up_tr us84_2 uM102), (wg_ext wT_M102 ix93 (ag_up (up_0 mu (κ := 144) _ _) AM102) (by (try dsimp only) <;> omega) (by have q : _ = _ := ix103; (try dsimp only) <;> omega))⟩
                    · exact ⟨rfl, (ti_bd tn_0 (by omega) (by omega)), (up_0 mu (κ := 144) _ _), (wg_0 (by have q : _ = _ := tn_0; (try dsimp only) <;> omega))⟩
                    · rintro ⟨y83_1, y83_2⟩ ⟨y83_1r, y83_2r⟩ ⟨ey83_1, ly83_1, uy83_2, vT_y83_2⟩
                      obtain rfl : y83_1 = y83_1r := ey83_1
                      have ly83_1 : 0 ≤ y83_1.toInt ∧ y83_1.toInt ≤ (8 * 8) := ly83_1
                      have iy83_1 : TI y83_1 y83_1.toInt := rfl
                      have uy83_2 : Up mu 144 y8 y8r y83_2 y83_2r := uy83_2
                      have ty83_2 := cx_up ty8 uy83_2
                      have wW_y83_2 := wq_up uy83_2 vW_y8
                      have vT_y83_2 : WG mu y83_2 y83_2r c4 (0) (8 * 8) (fun j => a5 + j / 8 * 16 + j % 8) := vT_y83_2
                      exact rl_some ⟨rfl, (ti_bd tn_1 (by omega) (by omega)), uy83_2, vT_y83_2⟩
            · rintro ⟨y75_1, y75_2⟩ ⟨y75_1r, y75_2r⟩ ⟨ey75_1, ly75_1, uy75_2, wT_y75_2⟩
              obtain rfl : y75_1 = y75_1r := ey75_1
              have ly75_1 : 1 ≤ y75_1.toInt ∧ y75_1.toInt ≤ 1 := ly75_1
              have iy75_1 : TI y75_1 (1) := ti_c ly75_1
              have uy75_2 : Up mu 144 y8 y8r y75_2 y75_2r := uy75_2
              have ty75_2 := cx_up ty8 uy75_2
              have wW_y75_2 := wq_up uy75_2 vW_y8
              have wT_y75_2 : WG mu y75_2 y75_2r c4 0 (8 * 8) (fun j => a5 + j / 8 * 16 + j % 8) := wT_y75_2
              exact rl_some ⟨rfl, (ti_bd iy75_1 (by omega) (by omega)), uy75_2, wT_y75_2⟩
          · have dc1 := tl_ne ix2 tn_0 c1
            exfalso
            omega
        · rintro ⟨y9_1, y9_2⟩ ⟨y9_1r, y9_2r⟩ ⟨ey9_1, ly9_1, uy9_2, wT_y9_2⟩
          obtain rfl : y9_1 = y9_1r := ey9_1
          have ly9_1 : 1 ≤ y9_1.toInt ∧ y9_1.toInt ≤ 1 := ly9_1
          have iy9_1 : TI y9_1 (1) := ti_c ly9_1
          have uy9_2 : Up mu 144 y8 y8r y9_2 y9_2r := uy9_2
          have ty9_2 := cx_up ty8 uy9_2
          have wW_y9_2 := wq_up uy9_2 vW_y8
          have wT_y9_2 : WG mu y9_2 y9_2r c4 0 (8 * 8) (fun j => a5 + j / 8 * 16 + j % 8) := wT_y9_2
          refine rl_bnd (Q := fun (y z : Int32 × DD) => y.1 = z.1 ∧ (1 ≤ y.1.toInt ∧ y.1.toInt ≤ 1) ∧ Up mu 144 y9_2 y9_2r y.2 z.2) ?_ ?_
          · refine rl_if (fun c12 => ?_) (fun c12 => ?_)
            · have dc12 := tl_eq ix1 tn_0 c12
              exact rl_some ⟨rfl, (ti_bd iy9_1 (by omega) (by omega)), (up_0 mu (κ := 144) _ _)⟩
            · have dc12 := tl_ne ix1 tn_0 c12
              exfalso
              omega
          · rintro ⟨y10_1, y10_2⟩ ⟨y10_1r, y10_2r⟩ ⟨ey10_1, ly10_1, uy10_2⟩
            obtain rfl : y10_1 = y10_1r := ey10_1
            have ly10_1 : 1 ≤ y10_1.toInt ∧ y10_1.toInt ≤ 1 := ly10_1
            have iy10_1 : TI y10_1 (1) := ti_c ly10_1
            have uy10_2 : Up mu 144 y9_2 y9_2r y10_2 y10_2r := uy10_2
            have ty10_2 := cx_up ty9_2 uy10_2
            have wW_y10_2 := wq_up uy10_2 wW_y9_2
            have wT_y10_2 := wg_up uy10_2 wT_y9_2
            refine rl_bnd (Q := fun (y z : Int32 × DD) => y.1 = z.1 ∧ (1 ≤ y.1.toInt ∧ y.1.toInt ≤ 1) ∧ Up mu 144 y10_2 y10_2r y.2 z.2) ?_ ?_
            · refine rl_if (fun c13 => ?_) (fun c13 => ?_)
              · have dc13 := tl_eq ix2 tn_0 c13
                exact rl_some ⟨rfl, (ti_bd iy10_1 (by omega) (by omega)), (up_0 mu (κ := 144) _ _)⟩
              · have dc13 := tl_ne ix2 tn_0 c13
                exfalso
                omega
            · rintro ⟨y11_1, y11_2⟩ ⟨y11_1r, y11_2r⟩ ⟨ey11_1, ly11_1, uy11_2⟩
              obtain rfl : y11_1 = y11_1r := ey11_1
              have ly11_1 : 1 ≤ y11_1.toInt ∧ y11_1.toInt ≤ 1 := ly11_1
              have iy11_1 : TI y11_1 (1) := ti_c ly11_1
              have uy11_2 : Up mu 144 y10_2 y10_2r y11_2 y11_2r := uy11_2
              have ty11_2 := cx_up ty10_2 uy11_2
              have wW_y11_2 := wq_up uy11_2 wW_y10_2
              have wT_y11_2 := wg_up uy11_2 wT_y10_2
              refine rl_bnd (Q := fun (y z : DD) => Up mu 144 y11_2 y11_2r y z) ?_ ?_
              · refine rl_if (fun c14 => ?_) (fun c14 => ?_)
                · have dc14 := tl_eq ix1 tn_2 c14
                  exfalso
                  omega
                · refine rl_bnd (Q := fun (y z : DD) => Up mu 144 y11_2 y11_2r y z) ?_ ?_
                  · refine rl_if (fun c15 => ?_) (fun c15 => ?_)
                    · have dc15 := tl_eq ix2 tn_2 c15
                      exfalso
                      omega
                    · exact rl_some (up_0 mu (κ := 144) _ _)
                  · rintro y14 y14r uy14
                    have uy14 : Up mu 144 y11_2 y11_2r y14 y14r := uy14
                    have ty14 := cx_up ty11_2 uy14
                    have wW_y14 := wq_up uy14 wW_y11_2
                    have wT_y14 := wg_up uy14 wT_y11_2
                    exact rl_some uy14
              · rintro y12 y12r uy12
                have uy12 : Up mu 144 y11_2 y11_2r y12 y12r := uy12
                have ty12 := cx_up ty11_2 uy12
                have wW_y12 := wq_up uy12 wW_y11_2
                have wT_y12 := wg_up uy12 wT_y11_2
                exact rl_some ⟨(up_tr (up_tr (up_tr (up_tr uy8 uy9_2) uy10_2) uy11_2) uy12), wT_y12⟩
      · clear ix2 zx2
        have ix2 : TI x2 1 := yx2
        refine rl_ltI (av_sar 2 i1 (by decide)) (fun x3 ix3 => ?_)
        refine rl_ltI (av_sub ix3 tn_2 (by omega) (by omega)) (fun x4 ix4 => ?_)
        refine rl_ltI (av_sar 2 i2 (by decide)) (fun x5 ix5 => ?_)
        refine rl_ltI (av_sub ix5 tn_2 (by omega) (by omega)) (fun x6 ix6 => ?_)
        refine rl_ltI (av_add i3 tn_5 (by omega) (by omega)) (fun x7 ix7 => ?_)
        refine rl_bnd (r_fillWindow t ⟨rfl, rfl⟩ hq0 ix7 (by omega) (by omega)) ?_
        rintro y8 y8r ⟨uy8', vW_y8⟩
        have uy8 : Up mu 144 M N y8 y8r := uy8'
        have ty8 := cx_up t uy8
        refine rl_bnd (Q := fun (y z : Int32 × DD) => y.1 = z.1 ∧ (1 ≤ y.1.toInt ∧ y.1.toInt ≤ 1) ∧ Up mu 144 y8 y8r y.2 z.2 ∧ WG mu y.2 z.2 c4 0 (8 * 8) (fun j => a5 + j / 8 * 16 + j % 8)) ?_ ?_
        · refine rl_if (fun c16 => ?_) (fun c16 => ?_)
          · have dc16 := tl_eq ix2 tn_0 c16
            exfalso
            omega
          · refine rl_bnd (Q := fun (y z : Int32 × DD) => y.1 = z.1 ∧ (1 ≤ y.1.toInt ∧ y.1.toInt ≤ 1) ∧ Up mu 144 y8 y8r y.2 z.2 ∧ WG mu y.2 z.2 c4 0 (8 * 8) (fun j => a5 + j / 8 * 16 + j % 8)) ?_ ?_
            · refine rl_if (fun c17 => ?_) (fun c17 => ?_)
              · have dc17 := tl_eq ix1 tn_0 c17
                refine rl_bnd (Q := fun (y z : Int32 × DD) => y.1 = z.1 ∧ (1 ≤ y.1.toInt ∧ y.1.toInt ≤ 1) ∧ Up mu 144 y8 y8r y.2 z.2 ∧ WG mu y.2 z.2 c4 0 (8 * 8) (fun j => a5 + j / 8 * 16 + j % 8)) ?_ ?_
                · refine rl_if (fun c18 => ?_) (fun c18 => ?_)
                  · have dc18 := tl_eq ix2 tn_2 c18
                    exfalso
                    omega
                  · refine rl_bnd (Q := fun (y z : Int32) => y = z ∧ (0 ≤ y.toInt ∧ y.toInt ≤ 0)) ?_ ?_
                    · refine rl_if (fun c19 => ?_) (fun c19 => ?_)
                      · have dc19 := tl_eq ix2 tn_3 c19
                        exfalso
                        omega
                      · exact rl_some ⟨rfl, (ti_bd tn_0 (by omega) (by omega))⟩
                    · rintro y46 y46r ⟨ey46, ly46⟩
                      obtain rfl : y46 = y46r := ey46
                      have ly46 : 0 ≤ y46.toInt ∧ y46.toInt ≤ 0 := ly46
                      have iy46 : TI y46 (0) := ti_c ly46
                      have ky46 : y46.toInt = _ := iy46
                      refine rl_ltI (av_add tn_2 iy46 (by omega) (by omega)) (fun x47 ix47 => ?_)
                      refine rl_ltI (av_mul ix47 tn_21 (by omega) (by omega)) (fun x48 ix48 => ?_)
                      refine rl_ltI (av_add ix48 tn_2 (by omega) (by omega)) (fun x49 ix49 => ?_)
                      refine rl_bnd (Q := fun (y z : Int32) => y = z ∧ (0 ≤ y.toInt ∧ y.toInt ≤ 0)) ?_ ?_
                      · refine rl_if (fun c20 => ?_) (fun c20 => ?_)
                        · have dc20 := tl_eq ix1 tn_3 c20
                          exfalso
                          omega
                        · exact rl_some ⟨rfl, (ti_bd tn_0 (by omega) (by omega))⟩
                      · rintro y50 y50r ⟨ey50, ly50⟩
                        obtain rfl : y50 = y50r := ey50
                        have ly50 : 0 ≤ y50.toInt ∧ y50.toInt ≤ 0 := ly50
                        have iy50 : TI y50 (0) := ti_c ly50
                        have ky50 : y50.toInt = _ := iy50
                        refine rl_ltI (av_add ix49 iy50 (by omega) (by omega)) (fun x51 ix51 => ?_)
                        refine rl_bnd (Q := fun (y z : Int32 × DD) => y.1 = z.1 ∧ (0 ≤ y.1.toInt ∧ y.1.toInt ≤ (8 * 8)) ∧ Up mu 144 y8 y8r y.2 z.2 ∧ WG mu y.2 z.2 c4 (0) (8 * 8) (fun j => a5 + j / 8 * 16 + j % 8)) (rl_itr (fun (y z : Int32 × DD) => y.1 = z.1 ∧ (0 ≤ y.1.toInt ∧ y.1.toInt ≤ (8 * 8)) ∧ Up mu 144 y8 y8r y.2 z.2 ∧ WG mu y.2 z.2 c4 (0) (y.1.toInt) (fun j => a5 + j / 8 * 16 + j % 8)) _ ?_ _ _ _ ?_) ?_
                        · rintro ⟨s53_1, s53_2⟩ ⟨s53_1r, s53_2r⟩ ⟨es53_1, ls53_1, us53_2, vT_s53_2⟩
                          obtain rfl : s53_1 = s53_1r := es53_1
                          have ls53_1 : 0 ≤ s53_1.toInt ∧ s53_1.toInt ≤ (8 * 8) := ls53_1
                          have is53_1 : TI s53_1 s53_1.toInt := rfl
                          have us53_2 : Up mu 144 y8 y8r s53_2 s53_2r := us53_2
                          have ts53_2 := cx_up ty8 us53_2
                          have wW_s53_2 := wq_up us53_2 vW_y8
                          have vT_s53_2 : WG mu s53_2 s53_2r c4 (0) (s53_1.toInt) (fun j => a5 + j / 8 * 16 + j % 8) := vT_s53_2
                          refine rl_ltI (av_mul i3 i3 (by omega) (by omega)) (fun x56 ix56 => ?_)
                          refine rl_if (fun c21 => ?_) (fun c21 => ?_)
                          · have dc21 := tl_le ix56 is53_1 c21
                            exact rl_inr ⟨rfl, (ti_bd is53_1 (by omega) (by omega)), us53_2, (wg_sub vT_s53_2 (by omega) (by omega))⟩
                          · have dc21 := tl_nle ix56 is53_1 c21
                            refine rl_chk (fun h => h) (fun k22 => ?_)
                            refine rl_ltI (av_div is53_1 i3 (by omega) (by omega)) (fun x58 ix58 => ?_)
                            refine rl_ltI (av_mul ix58 tn_16 (by omega) (by omega)) (fun x59 ix59 => ?_)
                            refine rl_ltI (av_add i5 ix59 (by omega) (by omega)) (fun x60 ix60 => ?_)
                            refine rl_chk (fun h => h) (fun k23 => ?_)
                            refine rl_ltI (av_mod is53_1 i3 (by omega) (by omega)) (fun x61 ix61 => ?_)
                            refine rl_ltI (av_add ix60 ix61 (by omega) (by omega)) (fun x62 ix62 => ?_)
                            refine rl_chk (fun h => h) (fun k24 => ?_)
                            refine rl_ltI (av_div is53_1 i3 (by omega) (by omega)) (fun x63 ix63 => ?_)
                            refine rl_ltI (av_mul ix63 tn_21 (by omega) (by omega)) (fun x64 ix64 => ?_)
                            refine rl_ltI (av_add ix51 ix64 (by omega) (by omega)) (fun x65 ix65 => ?_)
                            refine rl_chk (fun h => h) (fun k25 => ?_)
                            refine rl_ltI (av_mod is53_1 i3 (by omega) (by omega)) (fun x66 ix66 => ?_)
                            refine rl_ltI (av_add ix65 ix66 (by omega) (by omega)) (fun x67 ix67 => ?_)
                            refine rl_dr (cx_U ts53_2) (rx_c (a := 138) (k := 3) (b := 142) ts53_2 (Or.inr (Or.inl rfl)) rfl (by decide)) (fun gb68 => ?_)
                            refine rl_chk (chkl (cx_U ts53_2) gb68) (fun k26 => ?_)
                            refine rl_rd (wq_use wW_s53_2 ix67 (s53_1.toInt / 8 + 2 + y46.toInt) (s53_1.toInt % 8 + 2 + y50.toInt) (by omega) (by omega) (by omega) (by omega) (by (try dsimp only) <;> omega)) (fun x69 => ?_)
                            refine rl_dr (cx_U ts53_2) ⟨rfl, rfl⟩ (fun gb70 => ?_)
                            refine rl_chk (chkl (cx_U ts53_2) gb70) (fun k27 => ?_)
                            refine rl_w (κ := 144) (cx_U ts53_2) (by rcases hc4 with h | h <;> omega) (fun M71 M71r uM71 AM71 nM71 => ?_)
                            have tM71 := cx_up ts53_2 uM71
                            have wW_M71 := wq_up uM71 wW_s53_2
                            have wT_M71 := wg_up uM71 vT_s53_2
                            refine rl_ltI (av_add is53_1 tn_1 (by omega) (by omega)) (fun x72 ix72 => ?_)
                            exact rl_inl ⟨rfl, (ti_bd ix72 (by omega) (by omega)), (up_tr us53_2 uM71), (wg_ext wT_M71 ix62 (ag_up (up_0 mu (κ := 144) _ _) AM71) (by (try dsimp only) <;> omega) (by have q : _ = _ := ix72; (try dsimp only) <;> omega))⟩
                        · exact ⟨rfl, (ti_bd tn_0 (by omega) (by omega)), (up_0 mu (κ := 144) _ _), (wg_0 (by have q : _ = _ := tn_0; (try dsimp only) <;> omega))⟩
                        · rintro ⟨y52_1, y52_2⟩ ⟨y52_1r, y52_2r⟩ ⟨ey52_1, ly52_1, uy52_2, vT_y52_2⟩
                          obtain rfl : y52_1 = y52_1r := ey52_1
                          have ly52_1 : 0 ≤ y52_1.toInt ∧ y52_1.toInt ≤ (8 * 8) := ly52_1
                          have iy52_1 : TI y52_1 y52_1.toInt := rfl
                          have uy52_2 : Up mu 144 y8 y8r y52_2 y52_2r := uy52_2
                          have ty52_2 := cx_up ty8 uy52_2
                          have wW_y52_2 := wq_up uy52_2 vW_y8
                          have vT_y52_2 : WG mu y52_2 y52_2r c4 (0) (8 * 8) (fun j => a5 + j / 8 * 16 + j % 8) := vT_y52_2
                          exact rl_some ⟨rfl, (ti_bd tn_1 (by omega) (by omega)), uy52_2, vT_y52_2⟩
                · rintro ⟨y44_1, y44_2⟩ ⟨y44_1r, y44_2r⟩ ⟨ey44_1, ly44_1, uy44_2, wT_y44_2⟩
                  obtain rfl : y44_1 = y44_1r := ey44_1
                  have ly44_1 : 1 ≤ y44_1.toInt ∧ y44_1.toInt ≤ 1 := ly44_1
                  have iy44_1 : TI y44_1 (1) := ti_c ly44_1
                  have uy44_2 : Up mu 144 y8 y8r y44_2 y44_2r := uy44_2
                  have ty44_2 := cx_up ty8 uy44_2
                  have wW_y44_2 := wq_up uy44_2 vW_y8
                  have wT_y44_2 : WG mu y44_2 y44_2r c4 0 (8 * 8) (fun j => a5 + j / 8 * 16 + j % 8) := wT_y44_2
                  exact rl_some ⟨rfl, (ti_bd iy44_1 (by omega) (by omega)), uy44_2, wT_y44_2⟩
              · have dc17 := tl_ne ix1 tn_0 c17
                exfalso
                omega
            · rintro ⟨y42_1, y42_2⟩ ⟨y42_1r, y42_2r⟩ ⟨ey42_1, ly42_1, uy42_2, wT_y42_2⟩
              obtain rfl : y42_1 = y42_1r := ey42_1
              have ly42_1 : 1 ≤ y42_1.toInt ∧ y42_1.toInt ≤ 1 := ly42_1
              have iy42_1 : TI y42_1 (1) := ti_c ly42_1
              have uy42_2 : Up mu 144 y8 y8r y42_2 y42_2r := uy42_2
              have ty42_2 := cx_up ty8 uy42_2
              have wW_y42_2 := wq_up uy42_2 vW_y8
              have wT_y42_2 : WG mu y42_2 y42_2r c4 0 (8 * 8) (fun j => a5 + j / 8 * 16 + j % 8) := wT_y42_2
              exact rl_some ⟨rfl, (ti_bd iy42_1 (by omega) (by omega)), uy42_2, wT_y42_2⟩
        · rintro ⟨y9_1, y9_2⟩ ⟨y9_1r, y9_2r⟩ ⟨ey9_1, ly9_1, uy9_2, wT_y9_2⟩
          obtain rfl : y9_1 = y9_1r := ey9_1
          have ly9_1 : 1 ≤ y9_1.toInt ∧ y9_1.toInt ≤ 1 := ly9_1
          have iy9_1 : TI y9_1 (1) := ti_c ly9_1
          have uy9_2 : Up mu 144 y8 y8r y9_2 y9_2r := uy9_2
          have ty9_2 := cx_up ty8 uy9_2
          have wW_y9_2 := wq_up uy9_2 vW_y8
          have wT_y9_2 : WG mu y9_2 y9_2r c4 0 (8 * 8) (fun j => a5 + j / 8 * 16 + j % 8) := wT_y9_2
          refine rl_bnd (Q := fun (y z : Int32 × DD) => y.1 = z.1 ∧ (1 ≤ y.1.toInt ∧ y.1.toInt ≤ 1) ∧ Up mu 144 y9_2 y9_2r y.2 z.2) ?_ ?_
          · refine rl_if (fun c28 => ?_) (fun c28 => ?_)
            · have dc28 := tl_eq ix1 tn_0 c28
              exact rl_some ⟨rfl, (ti_bd iy9_1 (by omega) (by omega)), (up_0 mu (κ := 144) _ _)⟩
            · have dc28 := tl_ne ix1 tn_0 c28
              exfalso
              omega
          · rintro ⟨y10_1, y10_2⟩ ⟨y10_1r, y10_2r⟩ ⟨ey10_1, ly10_1, uy10_2⟩
            obtain rfl : y10_1 = y10_1r := ey10_1
            have ly10_1 : 1 ≤ y10_1.toInt ∧ y10_1.toInt ≤ 1 := ly10_1
            have iy10_1 : TI y10_1 (1) := ti_c ly10_1
            have uy10_2 : Up mu 144 y9_2 y9_2r y10_2 y10_2r := uy10_2
            have ty10_2 := cx_up ty9_2 uy10_2
            have wW_y10_2 := wq_up uy10_2 wW_y9_2
            have wT_y10_2 := wg_up uy10_2 wT_y9_2
            refine rl_bnd (Q := fun (y z : Int32 × DD) => y.1 = z.1 ∧ (1 ≤ y.1.toInt ∧ y.1.toInt ≤ 1) ∧ Up mu 144 y10_2 y10_2r y.2 z.2) ?_ ?_
            · refine rl_if (fun c29 => ?_) (fun c29 => ?_)
              · have dc29 := tl_eq ix2 tn_0 c29
                exfalso
                omega
              · refine rl_bnd (Q := fun (y z : Int32 × DD) => y.1 = z.1 ∧ (1 ≤ y.1.toInt ∧ y.1.toInt ≤ 1) ∧ Up mu 144 y10_2 y10_2r y.2 z.2) ?_ ?_
                · refine rl_if (fun c30 => ?_) (fun c30 => ?_)
                  · have dc30 := tl_eq ix1 tn_2 c30
                    exfalso
                    omega
                  · refine rl_bnd (Q := fun (y z : Int32) => y = z ∧ (0 ≤ y.toInt ∧ y.toInt ≤ 0)) ?_ ?_
                    · refine rl_if (fun c31 => ?_) (fun c31 => ?_)
                      · have dc31 := tl_eq ix1 tn_3 c31
                        exfalso
                        omega
                      · exact rl_some ⟨rfl, (ti_bd tn_0 (by omega) (by omega))⟩
                    · rintro y30 y30r ⟨ey30, ly30⟩
                      obtain rfl : y30 = y30r := ey30
                      have ly30 : 0 ≤ y30.toInt ∧ y30.toInt ≤ 0 := ly30
                      have iy30 : TI y30 (0) := ti_c ly30
                      refine rl_ltI (av_add tn_2 iy30 (by omega) (by omega)) (fun x31 ix31 => ?_)
                      refine rl_bnd (r_tapColumns ty10_2 i3 ix31 ⟨rfl, rfl⟩ hc4 i5 (by omega) (by omega) (by omega) (by omega) (by omega) wW_y10_2 (fun _ => wg_cs wT_y10_2 (by omega) (by omega) (fun j h1 h2 => by (try dsimp only) <;> omega))) ?_
                      rintro y32 y32r ⟨uy32', vT_y32'⟩
                      have uy32 : Up mu 144 y10_2 y10_2r y32 y32r := uy32'
                      have ty32 := cx_up ty10_2 uy32
                      have wW_y32 := wq_up uy32 wW_y10_2
                      have wT_y32 := wg_up uy32 wT_y10_2
                      have vT_y32 : WG mu y32 y32r c4 0 (8 * 8) (fun j => a5 + j / 8 * 16 + j % 8) := wg_cs vT_y32' (by omega) (by omega) (fun j h1 h2 => by (try dsimp only) <;> omega)
                      exact rl_some ⟨rfl, (ti_bd tn_1 (by omega) (by omega)), uy32⟩
                · rintro ⟨y28_1, y28_2⟩ ⟨y28_1r, y28_2r⟩ ⟨ey28_1, ly28_1, uy28_2⟩
                  obtain rfl : y28_1 = y28_1r := ey28_1
                  have ly28_1 : 1 ≤ y28_1.toInt ∧ y28_1.toInt ≤ 1 := ly28_1
                  have iy28_1 : TI y28_1 (1) := ti_c ly28_1
                  have uy28_2 : Up mu 144 y10_2 y10_2r y28_2 y28_2r := uy28_2
                  have ty28_2 := cx_up ty10_2 uy28_2
                  have wW_y28_2 := wq_up uy28_2 wW_y10_2
                  have wT_y28_2 := wg_up uy28_2 wT_y10_2
                  exact rl_some ⟨rfl, (ti_bd iy28_1 (by omega) (by omega)), uy28_2⟩
            · rintro ⟨y11_1, y11_2⟩ ⟨y11_1r, y11_2r⟩ ⟨ey11_1, ly11_1, uy11_2⟩
              obtain rfl : y11_1 = y11_1r := ey11_1
              have ly11_1 : 1 ≤ y11_1.toInt ∧ y11_1.toInt ≤ 1 := ly11_1
              have iy11_1 : TI y11_1 (1) := ti_c ly11_1
              have uy11_2 : Up mu 144 y10_2 y10_2r y11_2 y11_2r := uy11_2
              have ty11_2 := cx_up ty10_2 uy11_2
              have wW_y11_2 := wq_up uy11_2 wW_y10_2
              have wT_y11_2 := wg_up uy11_2 wT_y10_2
              refine rl_bnd (Q := fun (y z : DD) => Up mu 144 y11_2 y11_2r y z) ?_ ?_
              · refine rl_if (fun c32 => ?_) (fun c32 => ?_)
                · have dc32 := tl_eq ix1 tn_2 c32
                  exfalso
                  omega
                · refine rl_bnd (Q := fun (y z : DD) => Up mu 144 y11_2 y11_2r y z) ?_ ?_
                  · refine rl_if (fun c33 => ?_) (fun c33 => ?_)
                    · have dc33 := tl_eq ix2 tn_2 c33
                      exfalso
                      omega
                    · exact rl_some (up_0 mu (κ := 144) _ _)
                  · rintro y14 y14r uy14
                    have uy14 : Up mu 144 y11_2 y11_2r y14 y14r := uy14
                    have ty14 := cx_up ty11_2 uy14
                    have wW_y14 := wq_up uy14 wW_y11_2
                    have wT_y14 := wg_up uy14 wT_y11_2
                    exact rl_some uy14
              · rintro y12 y12r uy12
                have uy12 : Up mu 144 y11_2 y11_2r y12 y12r := uy12
                have ty12 := cx_up ty11_2 uy12
                have wW_y12 := wq_up uy12 wW_y11_2
                have wT_y12 := wg_up uy12 wT_y11_2
                exact rl_some ⟨(up_tr (up_tr (up_tr (up_tr uy8 uy9_2) uy10_2) uy11_2) uy12), wT_y12⟩
      · clear ix2 zx2
        have ix2 : TI x2 2 := yx2
        refine rl_ltI (av_sar 2 i1 (by decide)) (fun x3 ix3 => ?_)
        refine rl_ltI (av_sub ix3 tn_2 (by omega) (by omega)) (fun x4 ix4 => ?_)
        refine rl_ltI (av_sar 2 i2 (by decide)) (fun x5 ix5 => ?_)
        refine rl_ltI (av_sub ix5 tn_2 (by omega) (by omega)) (fun x6 ix6 => ?_)
        refine rl_ltI (av_add i3 tn_5 (by omega) (by omega)) (fun x7 ix7 => ?_)
        refine rl_bnd (r_fillWindow t ⟨rfl, rfl⟩ hq0 ix7 (by omega) (by omega)) ?_
        rintro y8 y8r ⟨uy8', vW_y8⟩
        have uy8 : Up mu 144 M N y8 y8r := uy8'
        have ty8 := cx_up t uy8
        refine rl_bnd (Q := fun (y z : Int32 × DD) => y.1 = z.1 ∧ (0 ≤ y.1.toInt ∧ y.1.toInt ≤ 0) ∧ Up mu 144 y8 y8r y.2 z.2) ?_ ?_
        · refine rl_if (fun c34 => ?_) (fun c34 => ?_)
          · have dc34 := tl_eq ix2 tn_0 c34
            exfalso
            omega
          · refine rl_bnd (Q := fun (y z : Int32 × DD) => y.1 = z.1 ∧ (0 ≤ y.1.toInt ∧ y.1.toInt ≤ 0) ∧ Up mu 144 y8 y8r y.2 z.2) ?_ ?_
            · refine rl_if (fun c35 => ?_) (fun c35 => ?_)
              · have dc35 := tl_eq ix1 tn_0 c35
                refine rl_bnd (Q := fun (y z : Int32 × DD) => y.1 = z.1 ∧ (0 ≤ y.1.toInt ∧ y.1.toInt ≤ 0) ∧ Up mu 144 y8 y8r y.2 z.2) ?_ ?_
                · refine rl_if (fun c36 => ?_) (fun c36 => ?_)
                  · have dc36 := tl_eq ix2 tn_2 c36
                    exact rl_some ⟨rfl, (ti_bd tn_0 (by omega) (by omega)), (up_0 mu (κ := 144) _ _)⟩
                  · have dc36 := tl_ne ix2 tn_2 c36
                    exfalso
                    omega
                · rintro ⟨y44_1, y44_2⟩ ⟨y44_1r, y44_2r⟩ ⟨ey44_1, ly44_1, uy44_2⟩
                  obtain rfl : y44_1 = y44_1r := ey44_1
                  have ly44_1 : 0 ≤ y44_1.toInt ∧ y44_1.toInt ≤ 0 := ly44_1
                  have iy44_1 : TI y44_1 (0) := ti_c ly44_1
                  have uy44_2 : Up mu 144 y8 y8r y44_2 y44_2r := uy44_2
                  have ty44_2 := cx_up ty8 uy44_2
                  have wW_y44_2 := wq_up uy44_2 vW_y8
                  exact rl_some ⟨rfl, (ti_bd iy44_1 (by omega) (by omega)), uy44_2⟩
              · have dc35 := tl_ne ix1 tn_0 c35
                exfalso
                omega
            · rintro ⟨y42_1, y42_2⟩ ⟨y42_1r, y42_2r⟩ ⟨ey42_1, ly42_1, uy42_2⟩
              obtain rfl : y42_1 = y42_1r := ey42_1
              have ly42_1 : 0 ≤ y42_1.toInt ∧ y42_1.toInt ≤ 0 := ly42_1
              have iy42_1 : TI y42_1 (0) := ti_c ly42_1
              have uy42_2 : Up mu 144 y8 y8r y42_2 y42_2r := uy42_2
              have ty42_2 := cx_up ty8 uy42_2
              have wW_y42_2 := wq_up uy42_2 vW_y8
              exact rl_some ⟨rfl, (ti_bd iy42_1 (by omega) (by omega)), uy42_2⟩
        · rintro ⟨y9_1, y9_2⟩ ⟨y9_1r, y9_2r⟩ ⟨ey9_1, ly9_1, uy9_2⟩
          obtain rfl : y9_1 = y9_1r := ey9_1
          have ly9_1 : 0 ≤ y9_1.toInt ∧ y9_1.toInt ≤ 0 := ly9_1
          have iy9_1 : TI y9_1 (0) := ti_c ly9_1
          have uy9_2 : Up mu 144 y8 y8r y9_2 y9_2r := uy9_2
          have ty9_2 := cx_up ty8 uy9_2
          have wW_y9_2 := wq_up uy9_2 vW_y8
          refine rl_bnd (Q := fun (y z : Int32 × DD) => y.1 = z.1 ∧ (0 ≤ y.1.toInt ∧ y.1.toInt ≤ 0) ∧ Up mu 144 y9_2 y9_2r y.2 z.2) ?_ ?_
          · refine rl_if (fun c37 => ?_) (fun c37 => ?_)
            · have dc37 := tl_eq ix1 tn_0 c37
              exact rl_some ⟨rfl, (ti_bd iy9_1 (by omega) (by omega)), (up_0 mu (κ := 144) _ _)⟩
            · have dc37 := tl_ne ix1 tn_0 c37
              exfalso
              omega
          · rintro ⟨y10_1, y10_2⟩ ⟨y10_1r, y10_2r⟩ ⟨ey10_1, ly10_1, uy10_2⟩
            obtain rfl : y10_1 = y10_1r := ey10_1
            have ly10_1 : 0 ≤ y10_1.toInt ∧ y10_1.toInt ≤ 0 := ly10_1
            have iy10_1 : TI y10_1 (0) := ti_c ly10_1
            have uy10_2 : Up mu 144 y9_2 y9_2r y10_2 y10_2r := uy10_2
            have ty10_2 := cx_up ty9_2 uy10_2
            have wW_y10_2 := wq_up uy10_2 wW_y9_2
            refine rl_bnd (Q := fun (y z : Int32 × DD) => y.1 = z.1 ∧ (1 ≤ y.1.toInt ∧ y.1.toInt ≤ 1) ∧ Up mu 144 y10_2 y10_2r y.2 z.2 ∧ WG mu y.2 z.2 c4 0 (8 * 8) (fun j => a5 + j / 8 * 16 + j % 8)) ?_ ?_
            · refine rl_if (fun c38 => ?_) (fun c38 => ?_)
              · have dc38 := tl_eq ix2 tn_0 c38
                exfalso
                omega
              · refine rl_bnd (Q := fun (y z : Int32 × DD) => y.1 = z.1 ∧ (1 ≤ y.1.toInt ∧ y.1.toInt ≤ 1) ∧ Up mu 144 y10_2 y10_2r y.2 z.2 ∧ WG mu y.2 z.2 c4 0 (8 * 8) (fun j => a5 + j / 8 * 16 + j % 8)) ?_ ?_
                · refine rl_if (fun c39 => ?_) (fun c39 => ?_)
                  · have dc39 := tl_eq ix1 tn_2 c39
                    exfalso
                    omega
                  · refine rl_bnd (Q := fun (y z : Int32) => y = z ∧ (0 ≤ y.toInt ∧ y.toInt ≤ 0)) ?_ ?_
                    · refine rl_if (fun c40 => ?_) (fun c40 => ?_)
                      · have dc40 := tl_eq ix1 tn_3 c40
                        exfalso
                        omega
                      · exact rl_some ⟨rfl, (ti_bd tn_0 (by omega) (by omega))⟩
                    · rintro y30 y30r ⟨ey30, ly30⟩
                      obtain rfl : y30 = y30r := ey30
                      have ly30 : 0 ≤ y30.toInt ∧ y30.toInt ≤ 0 := ly30
                      have iy30 : TI y30 (0) := ti_c ly30
                      refine rl_ltI (av_add tn_2 iy30 (by omega) (by omega)) (fun x31 ix31 => ?_)
                      refine rl_bnd (r_tapColumns ty10_2 i3 ix31 ⟨rfl, rfl⟩ hc4 i5 (by omega) (by omega) (by omega) (by omega) (by omega) wW_y10_2 (fun h => absurd (by first | rfl | assumption | omega) h)) ?_
                      rintro y32 y32r ⟨uy32', vT_y32'⟩
                      have uy32 : Up mu 144 y10_2 y10_2r y32 y32r := uy32'
                      have ty32 := cx_up ty10_2 uy32
                      have wW_y32 := wq_up uy32 wW_y10_2
                      have vT_y32 : WG mu y32 y32r c4 0 (8 * 8) (fun j => a5 + j / 8 * 16 + j % 8) := wg_cs vT_y32' (by omega) (by omega) (fun j h1 h2 => by (try dsimp only) <;> omega)
                      exact rl_some ⟨rfl, (ti_bd tn_1 (by omega) (by omega)), uy32, vT_y32⟩
                · rintro ⟨y28_1, y28_2⟩ ⟨y28_1r, y28_2r⟩ ⟨ey28_1, ly28_1, uy28_2, wT_y28_2⟩
                  obtain rfl : y28_1 = y28_1r := ey28_1
                  have ly28_1 : 1 ≤ y28_1.toInt ∧ y28_1.toInt ≤ 1 := ly28_1
                  have iy28_1 : TI y28_1 (1) := ti_c ly28_1
                  have uy28_2 : Up mu 144 y10_2 y10_2r y28_2 y28_2r := uy28_2
                  have ty28_2 := cx_up ty10_2 uy28_2
                  have wW_y28_2 := wq_up uy28_2 wW_y10_2
                  have wT_y28_2 : WG mu y28_2 y28_2r c4 0 (8 * 8) (fun j => a5 + j / 8 * 16 + j % 8) := wT_y28_2
                  exact rl_some ⟨rfl, (ti_bd iy28_1 (by omega) (by omega)), uy28_2, wT_y28_2⟩
            · rintro ⟨y11_1, y11_2⟩ ⟨y11_1r, y11_2r⟩ ⟨ey11_1, ly11_1, uy11_2, wT_y11_2⟩
              obtain rfl : y11_1 = y11_1r := ey11_1
              have ly11_1 : 1 ≤ y11_1.toInt ∧ y11_1.toInt ≤ 1 := ly11_1
              have iy11_1 : TI y11_1 (1) := ti_c ly11_1
              have uy11_2 : Up mu 144 y10_2 y10_2r y11_2 y11_2r := uy11_2
              have ty11_2 := cx_up ty10_2 uy11_2
              have wW_y11_2 := wq_up uy11_2 wW_y10_2
              have wT_y11_2 : WG mu y11_2 y11_2r c4 0 (8 * 8) (fun j => a5 + j / 8 * 16 + j % 8) := wT_y11_2
              refine rl_bnd (Q := fun (y z : DD) => Up mu 144 y11_2 y11_2r y z) ?_ ?_
              · refine rl_if (fun c41 => ?_) (fun c41 => ?_)
                · have dc41 := tl_eq ix1 tn_2 c41
                  exfalso
                  omega
                · refine rl_bnd (Q := fun (y z : DD) => Up mu 144 y11_2 y11_2r y z) ?_ ?_
                  · refine rl_if (fun c42 => ?_) (fun c42 => ?_)
                    · have dc42 := tl_eq ix2 tn_2 c42
                      refine rl_bnd (Q := fun (y z : DD) => Up mu 144 y11_2 y11_2r y z) ?_ ?_
                      · refine rl_if (fun c43 => ?_) (fun c43 => ?_)
                        · have dc43 := tl_eq ix1 tn_0 c43
                          exact rl_some (up_0 mu (κ := 144) _ _)
                        · have dc43 := tl_ne ix1 tn_0 c43
                          exfalso
                          omega
                      · rintro y16 y16r uy16
                        have uy16 : Up mu 144 y11_2 y11_2r y16 y16r := uy16
                        have ty16 := cx_up ty11_2 uy16
                        have wW_y16 := wq_up uy16 wW_y11_2
                        have wT_y16 := wg_up uy16 wT_y11_2
                        exact rl_some uy16
                    · have dc42 := tl_ne ix2 tn_2 c42
                      exfalso
                      omega
                  · rintro y14 y14r uy14
                    have uy14 : Up mu 144 y11_2 y11_2r y14 y14r := uy14
                    have ty14 := cx_up ty11_2 uy14
                    have wW_y14 := wq_up uy14 wW_y11_2
                    have wT_y14 := wg_up uy14 wT_y11_2
                    exact rl_some uy14
              · rintro y12 y12r uy12
                have uy12 : Up mu 144 y11_2 y11_2r y12 y12r := uy12
                have ty12 := cx_up ty11_2 uy12
                have wW_y12 := wq_up uy12 wW_y11_2
                have wT_y12 := wg_up uy12 wT_y11_2
                exact rl_some ⟨(up_tr (up_tr (up_tr (up_tr uy8 uy9_2) uy10_2) uy11_2) uy12), wT_y12⟩
      · clear ix2 zx2
        have ix2 : TI x2 3 := yx2
        refine rl_ltI (av_sar 2 i1 (by decide)) (fun x3 ix3 => ?_)
        refine rl_ltI (av_sub ix3 tn_2 (by omega) (by omega)) (fun x4 ix4 => ?_)
        refine rl_ltI (av_sar 2 i2 (by decide)) (fun x5 ix5 => ?_)
        refine rl_ltI (av_sub ix5 tn_2 (by omega) (by omega)) (fun x6 ix6 => ?_)
        refine rl_ltI (av_add i3 tn_5 (by omega) (by omega)) (fun x7 ix7 => ?_)
        refine rl_bnd (r_fillWindow t ⟨rfl, rfl⟩ hq0 ix7 (by omega) (by omega)) ?_
        rintro y8 y8r ⟨uy8', vW_y8⟩
        have uy8 : Up mu 144 M N y8 y8r := uy8'
        have ty8 := cx_up t uy8
        refine rl_bnd (Q := fun (y z : Int32 × DD) => y.1 = z.1 ∧ (1 ≤ y.1.toInt ∧ y.1.toInt ≤ 1) ∧ Up mu 144 y8 y8r y.2 z.2 ∧ WG mu y.2 z.2 c4 0 (8 * 8) (fun j => a5 + j / 8 * 16 + j % 8)) ?_ ?_
        · refine rl_if (fun c44 => ?_) (fun c44 => ?_)
          · have dc44 := tl_eq ix2 tn_0 c44
            exfalso
            omega
          · refine rl_bnd (Q := fun (y z : Int32 × DD) => y.1 = z.1 ∧ (1 ≤ y.1.toInt ∧ y.1.toInt ≤ 1) ∧ Up mu 144 y8 y8r y.2 z.2 ∧ WG mu y.2 z.2 c4 0 (8 * 8) (fun j => a5 + j / 8 * 16 + j % 8)) ?_ ?_
            · refine rl_if (fun c45 => ?_) (fun c45 => ?_)
              · have dc45 := tl_eq ix1 tn_0 c45
                refine rl_bnd (Q := fun (y z : Int32 × DD) => y.1 = z.1 ∧ (1 ≤ y.1.toInt ∧ y.1.toInt ≤ 1) ∧ Up mu 144 y8 y8r y.2 z.2 ∧ WG mu y.2 z.2 c4 0 (8 * 8) (fun j => a5 + j / 8 * 16 + j % 8)) ?_ ?_
                · refine rl_if (fun c46 => ?_) (fun c46 => ?_)
                  · have dc46 := tl_eq ix2 tn_2 c46
                    exfalso
                    omega
                  · refine rl_bnd (Q := fun (y z : Int32) => y = z ∧ (1 ≤ y.toInt ∧ y.toInt ≤ 1)) ?_ ?_
                    · refine rl_if (fun c47 => ?_) (fun c47 => ?_)
                      · have dc47 := tl_eq ix2 tn_3 c47
                        exact rl_some ⟨rfl, (ti_bd tn_1 (by omega) (by omega))⟩
                      · have dc47 := tl_ne ix2 tn_3 c47
                        exfalso
                        omega
                    · rintro y46 y46r ⟨ey46, ly46⟩
                      obtain rfl : y46 = y46r := ey46
                      have ly46 : 1 ≤ y46.toInt ∧ y46.toInt ≤ 1 := ly46
                      have iy46 : TI y46 (1) := ti_c ly46
                      have ky46 : y46.toInt = _ := iy46
                      refine rl_ltI (av_add tn_2 iy46 (by omega) (by omega)) (fun x47 ix47 => ?_)
                      refine rl_ltI (av_mul ix47 tn_21 (by omega) (by omega)) (fun x48 ix48 => ?_)
                      refine rl_ltI (av_add ix48 tn_2 (by omega) (by omega)) (fun x49 ix49 => ?_)
                      refine rl_bnd (Q := fun (y z : Int32) => y = z ∧ (0 ≤ y.toInt ∧ y.toInt ≤ 0)) ?_ ?_
                      · refine rl_if (fun c48 => ?_) (fun c48 => ?_)
                        · have dc48 := tl_eq ix1 tn_3 c48
                          exfalso
                          omega
                        · exact rl_some ⟨rfl, (ti_bd tn_0 (by omega) (by omega))⟩
                      · rintro y50 y50r ⟨ey50, ly50⟩
                        obtain rfl : y50 = y50r := ey50
                        have ly50 : 0 ≤ y50.toInt ∧ y50.toInt ≤ 0 := ly50
                        have iy50 : TI y50 (0) := ti_c ly50
                        have ky50 : y50.toInt = _ := iy50
                        refine rl_ltI (av_add ix49 iy50 (by omega) (by omega)) (fun x51 ix51 => ?_)
                        refine rl_bnd (Q := fun (y z : Int32 × DD) => y.1 = z.1 ∧ (0 ≤ y.1.toInt ∧ y.1.toInt ≤ (8 * 8)) ∧ Up mu 144 y8 y8r y.2 z.2 ∧ WG mu y.2 z.2 c4 (0) (8 * 8) (fun j => a5 + j / 8 * 16 + j % 8)) (rl_itr (fun (y z : Int32 × DD) => y.1 = z.1 ∧ (0 ≤ y.1.toInt ∧ y.1.toInt ≤ (8 * 8)) ∧ Up mu 144 y8 y8r y.2 z.2 ∧ WG mu y.2 z.2 c4 (0) (y.1.toInt) (fun j => a5 + j / 8 * 16 + j % 8)) _ ?_ _ _ _ ?_) ?_
                        · rintro ⟨s53_1, s53_2⟩ ⟨s53_1r, s53_2r⟩ ⟨es53_1, ls53_1, us53_2, vT_s53_2⟩
                          obtain rfl : s53_1 = s53_1r := es53_1
                          have ls53_1 : 0 ≤ s53_1.toInt ∧ s53_1.toInt ≤ (8 * 8) := ls53_1
                          have is53_1 : TI s53_1 s53_1.toInt := rfl
                          have us53_2 : Up mu 144 y8 y8r s53_2 s53_2r := us53_2
                          have ts53_2 := cx_up ty8 us53_2
                          have wW_s53_2 := wq_up us53_2 vW_y8
                          have vT_s53_2 : WG mu s53_2 s53_2r c4 (0) (s53_1.toInt) (fun j => a5 + j / 8 * 16 + j % 8) := vT_s53_2
                          refine rl_ltI (av_mul i3 i3 (by omega) (by omega)) (fun x56 ix56 => ?_)
                          refine rl_if (fun c49 => ?_) (fun c49 => ?_)
                          · have dc49 := tl_le ix56 is53_1 c49
                            exact rl_inr ⟨rfl, (ti_bd is53_1 (by omega) (by omega)), us53_2, (wg_sub vT_s53_2 (by omega) (by omega))⟩
                          · have dc49 := tl_nle ix56 is53_1 c49
                            refine rl_chk (fun h => h) (fun k50 => ?_)
                            refine rl_ltI (av_div is53_1 i3 (by omega) (by omega)) (fun x58 ix58 => ?_)
                            refine rl_ltI (av_mul ix58 tn_16 (by omega) (by omega)) (fun x59 ix59 => ?_)
                            refine rl_ltI (av_add i5 ix59 (by omega) (by omega)) (fun x60 ix60 => ?_)
                            refine rl_chk (fun h => h) (fun k51 => ?_)
                            refine rl_ltI (av_mod is53_1 i3 (by omega) (by omega)) (fun x61 ix61 => ?_)
                            refine rl_ltI (av_add ix60 ix61 (by omega) (by omega)) (fun x62 ix62 => ?_)
                            refine rl_chk (fun h => h) (fun k52 => ?_)
                            refine rl_ltI (av_div is53_1 i3 (by omega) (by omega)) (fun x63 ix63 => ?_)
                            refine rl_ltI (av_mul ix63 tn_21 (by omega) (by omega)) (fun x64 ix64 => ?_)
                            refine rl_ltI (av_add ix51 ix64 (by omega) (by omega)) (fun x65 ix65 => ?_)
                            refine rl_chk (fun h => h) (fun k53 => ?_)
                            refine rl_ltI (av_mod is53_1 i3 (by omega) (by omega)) (fun x66 ix66 => ?_)
                            refine rl_ltI (av_add ix65 ix66 (by omega) (by omega)) (fun x67 ix67 => ?_)
                            refine rl_dr (cx_U ts53_2) (rx_c (a := 138) (k := 3) (b := 142) ts53_2 (Or.inr (Or.inl rfl)) rfl (by decide)) (fun gb68 => ?_)
                            refine rl_chk (chkl (cx_U ts53_2) gb68) (fun k54 => ?_)
                            refine rl_rd (wq_use wW_s53_2 ix67 (s53_1.toInt / 8 + 2 + y46.toInt) (s53_1.toInt % 8 + 2 + y50.toInt) (by omega) (by omega) (by omega) (by omega) (by (try dsimp only) <;> omega)) (fun x69 => ?_)
                            refine rl_dr (cx_U ts53_2) ⟨rfl, rfl⟩ (fun gb70 => ?_)
                            refine rl_chk (chkl (cx_U ts53_2) gb70) (fun k55 => ?_)
                            refine rl_w (κ := 144) (cx_U ts53_2) (by rcases hc4 with h | h <;> omega) (fun M71 M71r uM71 AM71 nM71 => ?_)
                            have tM71 := cx_up ts53_2 uM71
                            have wW_M71 := wq_up uM71 wW_s53_2
                            have wT_M71 := wg_up uM71 vT_s53_2
                            refine rl_ltI (av_add is53_1 tn_1 (by omega) (by omega)) (fun x72 ix72 => ?_)
                            exact rl_inl ⟨rfl, (ti_bd ix72 (by omega) (by omega)), (up_tr us53_2 uM71), (wg_ext wT_M71 ix62 (ag_up (up_0 mu (κ := 144) _ _) AM71) (by (try dsimp only) <;> omega) (by have q : _ = _ := ix72; (try dsimp only) <;> omega))⟩
                        · exact ⟨rfl, (ti_bd tn_0 (by omega) (by omega)), (up_0 mu (κ := 144) _ _), (wg_0 (by have q : _ = _ := tn_0; (try dsimp only) <;> omega))⟩
                        · rintro ⟨y52_1, y52_2⟩ ⟨y52_1r, y52_2r⟩ ⟨ey52_1, ly52_1, uy52_2, vT_y52_2⟩
                          obtain rfl : y52_1 = y52_1r := ey52_1
                          have ly52_1 : 0 ≤ y52_1.toInt ∧ y52_1.toInt ≤ (8 * 8) := ly52_1
                          have iy52_1 : TI y52_1 y52_1.toInt := rfl
                          have uy52_2 : Up mu 144 y8 y8r y52_2 y52_2r := uy52_2
                          have ty52_2 := cx_up ty8 uy52_2
                          have wW_y52_2 := wq_up uy52_2 vW_y8
                          have vT_y52_2 : WG mu y52_2 y52_2r c4 (0) (8 * 8) (fun j => a5 + j / 8 * 16 + j % 8) := vT_y52_2
                          exact rl_some ⟨rfl, (ti_bd tn_1 (by omega) (by omega)), uy52_2, vT_y52_2⟩
                · rintro ⟨y44_1, y44_2⟩ ⟨y44_1r, y44_2r⟩ ⟨ey44_1, ly44_1, uy44_2, wT_y44_2⟩
                  obtain rfl : y44_1 = y44_1r := ey44_1
                  have ly44_1 : 1 ≤ y44_1.toInt ∧ y44_1.toInt ≤ 1 := ly44_1
                  have iy44_1 : TI y44_1 (1) := ti_c ly44_1
                  have uy44_2 : Up mu 144 y8 y8r y44_2 y44_2r := uy44_2
                  have ty44_2 := cx_up ty8 uy44_2
                  have wW_y44_2 := wq_up uy44_2 vW_y8
                  have wT_y44_2 : WG mu y44_2 y44_2r c4 0 (8 * 8) (fun j => a5 + j / 8 * 16 + j % 8) := wT_y44_2
                  exact rl_some ⟨rfl, (ti_bd iy44_1 (by omega) (by omega)), uy44_2, wT_y44_2⟩
              · have dc45 := tl_ne ix1 tn_0 c45
                exfalso
                omega
            · rintro ⟨y42_1, y42_2⟩ ⟨y42_1r, y42_2r⟩ ⟨ey42_1, ly42_1, uy42_2, wT_y42_2⟩
              obtain rfl : y42_1 = y42_1r := ey42_1
              have ly42_1 : 1 ≤ y42_1.toInt ∧ y42_1.toInt ≤ 1 := ly42_1
              have iy42_1 : TI y42_1 (1) := ti_c ly42_1
              have uy42_2 : Up mu 144 y8 y8r y42_2 y42_2r := uy42_2
              have ty42_2 := cx_up ty8 uy42_2
              have wW_y42_2 := wq_up uy42_2 vW_y8
              have wT_y42_2 : WG mu y42_2 y42_2r c4 0 (8 * 8) (fun j => a5 + j / 8 * 16 + j % 8) := wT_y42_2
              exact rl_some ⟨rfl, (ti_bd iy42_1 (by omega) (by omega)), uy42_2, wT_y42_2⟩
        · rintro ⟨y9_1, y9_2⟩ ⟨y9_1r, y9_2r⟩ ⟨ey9_1, ly9_1, uy9_2, wT_y9_2⟩
          obtain rfl : y9_1 = y9_1r := ey9_1
          have ly9_1 : 1 ≤ y9_1.toInt ∧ y9_1.toInt ≤ 1 := ly9_1
          have iy9_1 : TI y9_1 (1) := ti_c ly9_1
          have uy9_2 : Up mu 144 y8 y8r y9_2 y9_2r := uy9_2
          have ty9_2 := cx_up ty8 uy9_2
          have wW_y9_2 := wq_up uy9_2 vW_y8
          have wT_y9_2 : WG mu y9_2 y9_2r c4 0 (8 * 8) (fun j => a5 + j / 8 * 16 + j % 8) := wT_y9_2
          refine rl_bnd (Q := fun (y z : Int32 × DD) => y.1 = z.1 ∧ (1 ≤ y.1.toInt ∧ y.1.toInt ≤ 1) ∧ Up mu 144 y9_2 y9_2r y.2 z.2) ?_ ?_
          · refine rl_if (fun c56 => ?_) (fun c56 => ?_)
            · have dc56 := tl_eq ix1 tn_0 c56
              exact rl_some ⟨rfl, (ti_bd iy9_1 (by omega) (by omega)), (up_0 mu (κ := 144) _ _)⟩
            · have dc56 := tl_ne ix1 tn_0 c56
              exfalso
              omega
          · rintro ⟨y10_1, y10_2⟩ ⟨y10_1r, y10_2r⟩ ⟨ey10_1, ly10_1, uy10_2⟩
            obtain rfl : y10_1 = y10_1r := ey10_1
            have ly10_1 : 1 ≤ y10_1.toInt ∧ y10_1.toInt ≤ 1 := ly10_1
            have iy10_1 : TI y10_1 (1) := ti_c ly10_1
            have uy10_2 : Up mu 144 y9_2 y9_2r y10_2 y10_2r := uy10_2
            have ty10_2 := cx_up ty9_2 uy10_2
            have wW_y10_2 := wq_up uy10_2 wW_y9_2
            have wT_y10_2 := wg_up uy10_2 wT_y9_2
            refine rl_bnd (Q := fun (y z : Int32 × DD) => y.1 = z.1 ∧ (1 ≤ y.1.toInt ∧ y.1.toInt ≤ 1) ∧ Up mu 144 y10_2 y10_2r y.2 z.2) ?_ ?_
            · refine rl_if (fun c57 => ?_) (fun c57 => ?_)
              · have dc57 := tl_eq ix2 tn_0 c57
                exfalso
                omega
              · refine rl_bnd (Q := fun (y z : Int32 × DD) => y.1 = z.1 ∧ (1 ≤ y.1.toInt ∧ y.1.toInt ≤ 1) ∧ Up mu 144 y10_2 y10_2r y.2 z.2) ?_ ?_
                · refine rl_if (fun c58 => ?_) (fun c58 => ?_)
                  · have dc58 := tl_eq ix1 tn_2 c58
                    exfalso
                    omega
                  · refine rl_bnd (Q := fun (y z : Int32) => y = z ∧ (0 ≤ y.toInt ∧ y.toInt ≤ 0)) ?_ ?_
                    · refine rl_if (fun c59 => ?_) (fun c59 => ?_)
                      · have dc59 := tl_eq ix1 tn_3 c59
                        exfalso
                        omega
                      · exact rl_some ⟨rfl, (ti_bd tn_0 (by omega) (by omega))⟩
                    · rintro y30 y30r ⟨ey30, ly30⟩
                      obtain rfl : y30 = y30r := ey30
                      have ly30 : 0 ≤ y30.toInt ∧ y30.toInt ≤ 0 := ly30
                      have iy30 : TI y30 (0) := ti_c ly30
                      refine rl_ltI (av_add tn_2 iy30 (by omega) (by omega)) (fun x31 ix31 => ?_)
                      refine rl_bnd (r_tapColumns ty10_2 i3 ix31 ⟨rfl, rfl⟩ hc4 i5 (by omega) (by omega) (by omega) (by omega) (by omega) wW_y10_2 (fun _ => wg_cs wT_y10_2 (by omega) (by omega) (fun j h1 h2 => by (try dsimp only) <;> omega))) ?_
                      rintro y32 y32r ⟨uy32', vT_y32'⟩
                      have uy32 : Up mu 144 y10_2 y10_2r y32 y32r := uy32'
                      have ty32 := cx_up ty10_2 uy32
                      have wW_y32 := wq_up uy32 wW_y10_2
                      have wT_y32 := wg_up uy32 wT_y10_2
                      have vT_y32 : WG mu y32 y32r c4 0 (8 * 8) (fun j => a5 + j / 8 * 16 + j % 8) := wg_cs vT_y32' (by omega) (by omega) (fun j h1 h2 => by (try dsimp only) <;> omega)
                      exact rl_some ⟨rfl, (ti_bd tn_1 (by omega) (by omega)), uy32⟩
                · rintro ⟨y28_1, y28_2⟩ ⟨y28_1r, y28_2r⟩ ⟨ey28_1, ly28_1, uy28_2⟩
                  obtain rfl : y28_1 = y28_1r := ey28_1
                  have ly28_1 : 1 ≤ y28_1.toInt ∧ y28_1.toInt ≤ 1 := ly28_1
                  have iy28_1 : TI y28_1 (1) := ti_c ly28_1
                  have uy28_2 : Up mu 144 y10_2 y10_2r y28_2 y28_2r := uy28_2
                  have ty28_2 := cx_up ty10_2 uy28_2
                  have wW_y28_2 := wq_up uy28_2 wW_y10_2
                  have wT_y28_2 := wg_up uy28_2 wT_y10_2
                  exact rl_some ⟨rfl, (ti_bd iy28_1 (by omega) (by omega)), uy28_2⟩
            · rintro ⟨y11_1, y11_2⟩ ⟨y11_1r, y11_2r⟩ ⟨ey11_1, ly11_1, uy11_2⟩
              obtain rfl : y11_1 = y11_1r := ey11_1
              have ly11_1 : 1 ≤ y11_1.toInt ∧ y11_1.toInt ≤ 1 := ly11_1
              have iy11_1 : TI y11_1 (1) := ti_c ly11_1
              have uy11_2 : Up mu 144 y10_2 y10_2r y11_2 y11_2r := uy11_2
              have ty11_2 := cx_up ty10_2 uy11_2
              have wW_y11_2 := wq_up uy11_2 wW_y10_2
              have wT_y11_2 := wg_up uy11_2 wT_y10_2
              refine rl_bnd (Q := fun (y z : DD) => Up mu 144 y11_2 y11_2r y z) ?_ ?_
              · refine rl_if (fun c60 => ?_) (fun c60 => ?_)
                · have dc60 := tl_eq ix1 tn_2 c60
                  exfalso
                  omega
                · refine rl_bnd (Q := fun (y z : DD) => Up mu 144 y11_2 y11_2r y z) ?_ ?_
                  · refine rl_if (fun c61 => ?_) (fun c61 => ?_)
                    · have dc61 := tl_eq ix2 tn_2 c61
                      exfalso
                      omega
                    · exact rl_some (up_0 mu (κ := 144) _ _)
                  · rintro y14 y14r uy14
                    have uy14 : Up mu 144 y11_2 y11_2r y14 y14r := uy14
                    have ty14 := cx_up ty11_2 uy14
                    have wW_y14 := wq_up uy14 wW_y11_2
                    have wT_y14 := wg_up uy14 wT_y11_2
                    exact rl_some uy14
              · rintro y12 y12r uy12
                have uy12 : Up mu 144 y11_2 y11_2r y12 y12r := uy12
                have ty12 := cx_up ty11_2 uy12
                have wW_y12 := wq_up uy12 wW_y11_2
                have wT_y12 := wg_up uy12 wT_y11_2
                exact rl_some ⟨(up_tr (up_tr (up_tr (up_tr uy8 uy9_2) uy10_2) uy11_2) uy12), wT_y12⟩
    · clear ix1 zx1
      have ix1 : TI x1 1 := yx1
      refine rl_ltI (av_and 2 i2 (by decide) (by decide)) (fun x2 ix2 => ?_)
      have zx2 : x2.toInt = _ := ix2
      rcases (by omega : x2.toInt = 0 ∨ x2.toInt = 1 ∨ x2.toInt = 2 ∨ x2.toInt = 3) with yx2 | yx2 | yx2 | yx2
      · clear ix2 zx2
        have ix2 : TI x2 0 := yx2
        refine rl_ltI (av_sar 2 i1 (by decide)) (fun x3 ix3 => ?_)
        refine rl_ltI (av_sub ix3 tn_2 (by omega) (by omega)) (fun x4 ix4 => ?_)
        refine rl_ltI (av_sar 2 i2 (by decide)) (fun x5 ix5 => ?_)
        refine rl_ltI (av_sub ix5 tn_2 (by omega) (by omega)) (fun x6 ix6 => ?_)
        refine rl_ltI (av_add i3 tn_5 (by omega) (by omega)) (fun x7 ix7 => ?_)
        refine rl_bnd (r_fillWindow t ⟨rfl, rfl⟩ hq0 ix7 (by omega) (by omega)) ?_
        rintro y8 y8r ⟨uy8', vW_y8⟩
        have uy8 : Up mu 144 M N y8 y8r := uy8'
        have ty8 := cx_up t uy8
        refine rl_bnd (Q := fun (y z : Int32 × DD) => y.1 = z.1 ∧ (1 ≤ y.1.toInt ∧ y.1.toInt ≤ 1) ∧ Up mu 144 y8 y8r y.2 z.2 ∧ WG mu y.2 z.2 c4 0 (8 * 8) (fun j => a5 + j / 8 * 16 + j % 8)) ?_ ?_
        · refine rl_if (fun c62 => ?_) (fun c62 => ?_)
          · have dc62 := tl_eq ix2 tn_0 c62
            refine rl_bnd (Q := fun (y z : Int32 × DD) => y.1 = z.1 ∧ (1 ≤ y.1.toInt ∧ y.1.toInt ≤ 1) ∧ Up mu 144 y8 y8r y.2 z.2 ∧ WG mu y.2 z.2 c4 0 (8 * 8) (fun j => a5 + j / 8 * 16 + j % 8)) ?_ ?_
            · refine rl_if (fun c63 => ?_) (fun c63 => ?_)
              · have dc63 := tl_eq ix1 tn_2 c63
                exfalso
                omega
              · refine rl_bnd (Q := fun (y z : Int32) => y = z ∧ (0 ≤ y.toInt ∧ y.toInt ≤ 0)) ?_ ?_
                · refine rl_if (fun c64 => ?_) (fun c64 => ?_)
                  · have dc64 := tl_eq ix2 tn_3 c64
                    exfalso
                    omega
                  · exact rl_some ⟨rfl, (ti_bd tn_0 (by omega) (by omega))⟩
                · rintro y77 y77r ⟨ey77, ly77⟩
                  obtain rfl : y77 = y77r := ey77
                  have ly77 : 0 ≤ y77.toInt ∧ y77.toInt ≤ 0 := ly77
                  have iy77 : TI y77 (0) := ti_c ly77
                  have ky77 : y77.toInt = _ := iy77
                  refine rl_ltI (av_add tn_2 iy77 (by omega) (by omega)) (fun x78 ix78 => ?_)
                  refine rl_ltI (av_mul ix78 tn_21 (by omega) (by omega)) (fun x79 ix79 => ?_)
                  refine rl_ltI (av_add ix79 tn_2 (by omega) (by omega)) (fun x80 ix80 => ?_)
                  refine rl_bnd (Q := fun (y z : Int32) => y = z ∧ (0 ≤ y.toInt ∧ y.toInt ≤ 0)) ?_ ?_
                  · refine rl_if (fun c65 => ?_) (fun c65 => ?_)
                    · have dc65 := tl_eq ix1 tn_3 c65
                      exfalso
                      omega
                    · exact rl_some ⟨rfl, (ti_bd tn_0 (by omega) (by omega))⟩
                  · rintro y81 y81r ⟨ey81, ly81⟩
                    obtain rfl : y81 = y81r := ey81
                    have ly81 : 0 ≤ y81.toInt ∧ y81.toInt ≤ 0 := ly81
                    have iy81 : TI y81 (0) := ti_c ly81
                    have ky81 : y81.toInt = _ := iy81
                    refine rl_ltI (av_add ix80 iy81 (by omega) (by omega)) (fun x82 ix82 => ?_)
                    refine rl_bnd (Q := fun (y z : Int32 × DD) => y.1 = z.1 ∧ (0 ≤ y.1.toInt ∧ y.1.toInt ≤ (8 * 8)) ∧ Up mu 144 y8 y8r y.2 z.2 ∧ WG mu y.2 z.2 c4 (0) (8 * 8) (fun j => a5 + j / 8 * 16 + j % 8)) (rl_itr (fun (y z : Int32 × DD) => y.1 = z.1 ∧ (0 ≤ y.1.toInt ∧ y.1.toInt ≤ (8 * 8)) ∧ Up mu 144 y8 y8r y.2 z.2 ∧ WG mu y.2 z.2 c4 (0) (y.1.toInt) (fun j => a5 + j / 8 * 16 + j % 8)) _ ?_ _ _ _ ?_) ?_
                    · rintro ⟨s84_1, s84_2⟩ ⟨s84_1r, s84_2r⟩ ⟨es84_1, ls84_1, us84_2, vT_s84_2⟩
                      obtain rfl : s84_1 = s84_1r := es84_1
                      have ls84_1 : 0 ≤ s84_1.toInt ∧ s84_1.toInt ≤ (8 * 8) := ls84_1
                      have is84_1 : TI s84_1 s84_1.toInt := rfl
                      have us84_2 : Up mu 144 y8 y8r s84_2 s84_2r := us84_2
                      have ts84_2 := cx_up ty8 us84_2
                      have wW_s84_2 := wq_up us84_2 vW_y8
                      have vT_s84_2 : WG mu s84_2 s84_2r c4 (0) (s84_1.toInt) (fun j => a5 + j / 8 * 16 + j % 8) := vT_s84_2
                      refine rl_ltI (av_mul i3 i3 (by omega) (by omega)) (fun x87 ix87 => ?_)
                      refine rl_if (fun c66 => ?_) (fun c66 => ?_)
                      · have dc66 := tl_le ix87 is84_1 c66
                        exact rl_inr ⟨rfl, (ti_bd is84_1 (by omega) (by omega)), us84_2, (wg_sub vT_s84_2 (by omega) (by omega))⟩
                      · have dc66 := tl_nle ix87 is84_1 c66
                        refine rl_chk (fun h => h) (fun k67 => ?_)
                        refine rl_ltI (av_div is84_1 i3 (by omega) (by omega)) (fun x89 ix89 => ?_)
                        refine rl_ltI (av_mul ix89 tn_16 (by omega) (by omega)) (fun x90 ix90 => ?_)
                        refine rl_ltI (av_add i5 ix90 (by omega) (by omega)) (fun x91 ix91 => ?_)
                        refine rl_chk (fun h => h) (fun k68 => ?_)
                        refine rl_ltI (av_mod is84_1 i3 (by omega) (by omega)) (fun x92 ix92 => ?_)
                        refine rl_ltI (av_add ix91 ix92 (by omega) (by omega)) (fun x93 ix93 => ?_)
                        refine rl_chk (fun h => h) (fun k69 => ?_)
                        refine rl_ltI (av_div is84_1 i3 (by omega) (by omega)) (fun x94 ix94 => ?_)
                        refine rl_ltI (av_mul ix94 tn_21 (by omega) (by omega)) (fun x95 ix95 => ?_)
                        refine rl_ltI (av_add ix82 ix95 (by omega) (by omega)) (fun x96 ix96 => ?_)
                        refine rl_chk (fun h => h) (fun k70 => ?_)
                        refine rl_ltI (av_mod is84_1 i3 (by omega) (by omega)) (fun x97 ix97 => ?_)
                        refine rl_ltI (av_add ix96 ix97 (by omega) (by omega)) (fun x98 ix98 => ?_)
                        refine rl_dr (cx_U ts84_2) (rx_c (a := 138) (k := 3) (b := 142) ts84_2 (Or.inr (Or.inl rfl)) rfl (by decide)) (fun gb99 => ?_)
                        refine rl_chk (chkl (cx_U ts84_2) gb99) (fun k71 => ?_)
                        refine rl_rd (wq_use wW_s84_2 ix98 (s84_1.toInt / 8 + 2 + y77.toInt) (s84_1.toInt % 8 + 2 + y81.toInt) (by omega) (by omega) (by omega) (by omega) (by (try dsimp only) <;> omega)) (fun x100 => ?_)
                        refine rl_dr (cx_U ts84_2) ⟨rfl, rfl⟩ (fun gb101 => ?_)
                        refine rl_chk (chkl (cx_U ts84_2) gb101) (fun k72 => ?_)
                        refine rl_w (κ := 144) (cx_U ts84_2) (by rcases hc4 with h | h <;> omega) (fun M102 M102r uM102 AM102 nM102 => ?_)
                        have tM102 := cx_up ts84_2 uM102
                        have wW_M102 := wq_up uM102 wW_s84_2
                        have wT_M102 := wg_up uM102 vT_s84_2
                        refine rl_ltI (av_add is84_1 tn_1 (by omega) (by omega)) (fun x103 ix103 => ?_)
                        exact rl_inl ⟨rfl, (ti_bd ix103 (by omega) (by omega)), (up_tr us84_2 uM102), (wg_ext wT_M102 ix93 (ag_up (up_0 mu (κ := 144) _ _) AM102) (by (try dsimp only) <;> omega) (by have q : _ = _ := ix103; (try dsimp only) <;> omega))⟩
                    · exact ⟨rfl, (ti_bd tn_0 (by omega) (by omega)), (up_0 mu (κ := 144) _ _), (wg_0 (by have q : _ = _ := tn_0; (try dsimp only) <;> omega))⟩
                    · rintro ⟨y83_1, y83_2⟩ ⟨y83_1r, y83_2r⟩ ⟨ey83_1, ly83_1, uy83_2, vT_y83_2⟩
                      obtain rfl : y83_1 = y83_1r := ey83_1
                      have ly83_1 : 0 ≤ y83_1.toInt ∧ y83_1.toInt ≤ (8 * 8) := ly83_1
                      have iy83_1 : TI y83_1 y83_1.toInt := rfl
                      have uy83_2 : Up mu 144 y8 y8r y83_2 y83_2r := uy83_2
                      have ty83_2 := cx_up ty8 uy83_2
                      have wW_y83_2 := wq_up uy83_2 vW_y8
                      have vT_y83_2 : WG mu y83_2 y83_2r c4 (0) (8 * 8) (fun j => a5 + j / 8 * 16 + j % 8) := vT_y83_2
                      exact rl_some ⟨rfl, (ti_bd tn_1 (by omega) (by omega)), uy83_2, vT_y83_2⟩
            · rintro ⟨y75_1, y75_2⟩ ⟨y75_1r, y75_2r⟩ ⟨ey75_1, ly75_1, uy75_2, wT_y75_2⟩
              obtain rfl : y75_1 = y75_1r := ey75_1
              have ly75_1 : 1 ≤ y75_1.toInt ∧ y75_1.toInt ≤ 1 := ly75_1
              have iy75_1 : TI y75_1 (1) := ti_c ly75_1
              have uy75_2 : Up mu 144 y8 y8r y75_2 y75_2r := uy75_2
              have ty75_2 := cx_up ty8 uy75_2
              have wW_y75_2 := wq_up uy75_2 vW_y8
              have wT_y75_2 : WG mu y75_2 y75_2r c4 0 (8 * 8) (fun j => a5 + j / 8 * 16 + j % 8) := wT_y75_2
              exact rl_some ⟨rfl, (ti_bd iy75_1 (by omega) (by omega)), uy75_2, wT_y75_2⟩
          · have dc62 := tl_ne ix2 tn_0 c62
            exfalso
            omega
        · rintro ⟨y9_1, y9_2⟩ ⟨y9_1r, y9_2r⟩ ⟨ey9_1, ly9_1, uy9_2, wT_y9_2⟩
          obtain rfl : y9_1 = y9_1r := ey9_1
          have ly9_1 : 1 ≤ y9_1.toInt ∧ y9_1.toInt ≤ 1 := ly9_1
          have iy9_1 : TI y9_1 (1) := ti_c ly9_1
          have uy9_2 : Up mu 144 y8 y8r y9_2 y9_2r := uy9_2
          have ty9_2 := cx_up ty8 uy9_2
          have wW_y9_2 := wq_up uy9_2 vW_y8
          have wT_y9_2 : WG mu y9_2 y9_2r c4 0 (8 * 8) (fun j => a5 + j / 8 * 16 + j % 8) := wT_y9_2
          refine rl_bnd (Q := fun (y z : Int32 × DD) => y.1 = z.1 ∧ (1 ≤ y.1.toInt ∧ y.1.toInt ≤ 1) ∧ Up mu 144 y9_2 y9_2r y.2 z.2) ?_ ?_
          · refine rl_if (fun c73 => ?_) (fun c73 => ?_)
            · have dc73 := tl_eq ix1 tn_0 c73
              exfalso
              omega
            · refine rl_bnd (Q := fun (y z : Int32 × DD) => y.1 = z.1 ∧ (1 ≤ y.1.toInt ∧ y.1.toInt ≤ 1) ∧ Up mu 144 y9_2 y9_2r y.2 z.2) ?_ ?_
              · refine rl_if (fun c74 => ?_) (fun c74 => ?_)
                · have dc74 := tl_eq ix2 tn_2 c74
                  exfalso
                  omega
                · refine rl_bnd (Q := fun (y z : Int32) => y = z ∧ (0 ≤ y.toInt ∧ y.toInt ≤ 0)) ?_ ?_
                  · refine rl_if (fun c75 => ?_) (fun c75 => ?_)
                    · have dc75 := tl_eq ix2 tn_3 c75
                      exfalso
                      omega
                    · exact rl_some ⟨rfl, (ti_bd tn_0 (by omega) (by omega))⟩
                  · rintro y37 y37r ⟨ey37, ly37⟩
                    obtain rfl : y37 = y37r := ey37
                    have ly37 : 0 ≤ y37.toInt ∧ y37.toInt ≤ 0 := ly37
                    have iy37 : TI y37 (0) := ti_c ly37
                    refine rl_ltI (av_add tn_2 iy37 (by omega) (by omega)) (fun x38 ix38 => ?_)
                    refine rl_bnd (r_tapRows ty9_2 i3 ix38 ⟨rfl, rfl⟩ hc4 i5 (by omega) (by omega) (by omega) (by omega) (by omega) wW_y9_2 (fun _ => wg_cs wT_y9_2 (by omega) (by omega) (fun j h1 h2 => by (try dsimp only) <;> omega))) ?_
                    rintro y39 y39r ⟨uy39', vT_y39'⟩
                    have uy39 : Up mu 144 y9_2 y9_2r y39 y39r := uy39'
                    have ty39 := cx_up ty9_2 uy39
                    have wW_y39 := wq_up uy39 wW_y9_2
                    have wT_y39 := wg_up uy39 wT_y9_2
                    have vT_y39 : WG mu y39 y39r c4 0 (8 * 8) (fun j => a5 + j / 8 * 16 + j % 8) := wg_cs vT_y39' (by omega) (by omega) (fun j h1 h2 => by (try dsimp only) <;> omega)
                    exact rl_some ⟨rfl, (ti_bd tn_1 (by omega) (by omega)), uy39⟩
              · rintro ⟨y35_1, y35_2⟩ ⟨y35_1r, y35_2r⟩ ⟨ey35_1, ly35_1, uy35_2⟩
                obtain rfl : y35_1 = y35_1r := ey35_1
                have ly35_1 : 1 ≤ y35_1.toInt ∧ y35_1.toInt ≤ 1 := ly35_1
                have iy35_1 : TI y35_1 (1) := ti_c ly35_1
                have uy35_2 : Up mu 144 y9_2 y9_2r y35_2 y35_2r := uy35_2
                have ty35_2 := cx_up ty9_2 uy35_2
                have wW_y35_2 := wq_up uy35_2 wW_y9_2
                have wT_y35_2 := wg_up uy35_2 wT_y9_2
                exact rl_some ⟨rfl, (ti_bd iy35_1 (by omega) (by omega)), uy35_2⟩
          · rintro ⟨y10_1, y10_2⟩ ⟨y10_1r, y10_2r⟩ ⟨ey10_1, ly10_1, uy10_2⟩
            obtain rfl : y10_1 = y10_1r := ey10_1
            have ly10_1 : 1 ≤ y10_1.toInt ∧ y10_1.toInt ≤ 1 := ly10_1
            have iy10_1 : TI y10_1 (1) := ti_c ly10_1
            have uy10_2 : Up mu 144 y9_2 y9_2r y10_2 y10_2r := uy10_2
            have ty10_2 := cx_up ty9_2 uy10_2
            have wW_y10_2 := wq_up uy10_2 wW_y9_2
            have wT_y10_2 := wg_up uy10_2 wT_y9_2
            refine rl_bnd (Q := fun (y z : Int32 × DD) => y.1 = z.1 ∧ (1 ≤ y.1.toInt ∧ y.1.toInt ≤ 1) ∧ Up mu 144 y10_2 y10_2r y.2 z.2) ?_ ?_
            · refine rl_if (fun c76 => ?_) (fun c76 => ?_)
              · have dc76 := tl_eq ix2 tn_0 c76
                exact rl_some ⟨rfl, (ti_bd iy10_1 (by omega) (by omega)), (up_0 mu (κ := 144) _ _)⟩
              · have dc76 := tl_ne ix2 tn_0 c76
                exfalso
                omega
            · rintro ⟨y11_1, y11_2⟩ ⟨y11_1r, y11_2r⟩ ⟨ey11_1, ly11_1, uy11_2⟩
              obtain rfl : y11_1 = y11_1r := ey11_1
              have ly11_1 : 1 ≤ y11_1.toInt ∧ y11_1.toInt ≤ 1 := ly11_1
              have iy11_1 : TI y11_1 (1) := ti_c ly11_1
              have uy11_2 : Up mu 144 y10_2 y10_2r y11_2 y11_2r := uy11_2
              have ty11_2 := cx_up ty10_2 uy11_2
              have wW_y11_2 := wq_up uy11_2 wW_y10_2
              have wT_y11_2 := wg_up uy11_2 wT_y10_2
              refine rl_bnd (Q := fun (y z : DD) => Up mu 144 y11_2 y11_2r y z) ?_ ?_
              · refine rl_if (fun c77 => ?_) (fun c77 => ?_)
                · have dc77 := tl_eq ix1 tn_2 c77
                  exfalso
                  omega
                · refine rl_bnd (Q := fun (y z : DD) => Up mu 144 y11_2 y11_2r y z) ?_ ?_
                  · refine rl_if (fun c78 => ?_) (fun c78 => ?_)
                    · have dc78 := tl_eq ix2 tn_2 c78
                      exfalso
                      omega
                    · exact rl_some (up_0 mu (κ := 144) _ _)
                  · rintro y14 y14r uy14
                    have uy14 : Up mu 144 y11_2 y11_2r y14 y14r := uy14
                    have ty14 := cx_up ty11_2 uy14
                    have wW_y14 := wq_up uy14 wW_y11_2
                    have wT_y14 := wg_up uy14 wT_y11_2
                    exact rl_some uy14
              · rintro y12 y12r uy12
                have uy12 : Up mu 144 y11_2 y11_2r y12 y12r := uy12
                have ty12 := cx_up ty11_2 uy12
                have wW_y12 := wq_up uy12 wW_y11_2
                have wT_y12 := wg_up uy12 wT_y11_2
                exact rl_some ⟨(up_tr (up_tr (up_tr (up_tr uy8 uy9_2) uy10_2) uy11_2) uy12), wT_y12⟩
      · clear ix2 zx2
        have ix2 : TI x2 1 := yx2
        refine rl_ltI (av_sar 2 i1 (by decide)) (fun x3 ix3 => ?_)
        refine rl_ltI (av_sub ix3 tn_2 (by omega) (by omega)) (fun x4 ix4 => ?_)
        refine rl_ltI (av_sar 2 i2 (by decide)) (fun x5 ix5 => ?_)
        refine rl_ltI (av_sub ix5 tn_2 (by omega) (by omega)) (fun x6 ix6 => ?_)
        refine rl_ltI (av_add i3 tn_5 (by omega) (by omega)) (fun x7 ix7 => ?_)
        refine rl_bnd (r_fillWindow t ⟨rfl, rfl⟩ hq0 ix7 (by omega) (by omega)) ?_
        rintro y8 y8r ⟨uy8', vW_y8⟩
        have uy8 : Up mu 144 M N y8 y8r := uy8'
        have ty8 := cx_up t uy8
        refine rl_bnd (Q := fun (y z : Int32 × DD) => y.1 = z.1 ∧ (0 ≤ y.1.toInt ∧ y.1.toInt ≤ 0) ∧ Up mu 144 y8 y8r y.2 z.2) ?_ ?_
        · refine rl_if (fun c79 => ?_) (fun c79 => ?_)
          · have dc79 := tl_eq ix2 tn_0 c79
            exfalso
            omega
          · refine rl_bnd (Q := fun (y z : Int32 × DD) => y.1 = z.1 ∧ (0 ≤ y.1.toInt ∧ y.1.toInt ≤ 0) ∧ Up mu 144 y8 y8r y.2 z.2) ?_ ?_
            · refine rl_if (fun c80 => ?_) (fun c80 => ?_)
              · have dc80 := tl_eq ix1 tn_0 c80
                exfalso
                omega
              · exact rl_some ⟨rfl, (ti_bd tn_0 (by omega) (by omega)), (up_0 mu (κ := 144) _ _)⟩
            · rintro ⟨y42_1, y42_2⟩ ⟨y42_1r, y42_2r⟩ ⟨ey42_1, ly42_1, uy42_2⟩
              obtain rfl : y42_1 = y42_1r := ey42_1
              have ly42_1 : 0 ≤ y42_1.toInt ∧ y42_1.toInt ≤ 0 := ly42_1
              have iy42_1 : TI y42_1 (0) := ti_c ly42_1
              have uy42_2 : Up mu 144 y8 y8r y42_2 y42_2r := uy42_2
              have ty42_2 := cx_up ty8 uy42_2
              have wW_y42_2 := wq_up uy42_2 vW_y8
              exact rl_some ⟨rfl, (ti_bd iy42_1 (by omega) (by omega)), uy42_2⟩
        · rintro ⟨y9_1, y9_2⟩ ⟨y9_1r, y9_2r⟩ ⟨ey9_1, ly9_1, uy9_2⟩
          obtain rfl : y9_1 = y9_1r := ey9_1
          have ly9_1 : 0 ≤ y9_1.toInt ∧ y9_1.toInt ≤ 0 := ly9_1
          have iy9_1 : TI y9_1 (0) := ti_c ly9_1
          have uy9_2 : Up mu 144 y8 y8r y9_2 y9_2r := uy9_2
          have ty9_2 := cx_up ty8 uy9_2
          have wW_y9_2 := wq_up uy9_2 vW_y8
          refine rl_bnd (Q := fun (y z : Int32 × DD) => y.1 = z.1 ∧ (1 ≤ y.1.toInt ∧ y.1.toInt ≤ 1) ∧ Up mu 144 y9_2 y9_2r y.2 z.2 ∧ WG mu y.2 z.2 c4 0 (8 * 8) (fun j => a5 + j / 8 * 16 + j % 8)) ?_ ?_
          · refine rl_if (fun c81 => ?_) (fun c81 => ?_)
            · have dc81 := tl_eq ix1 tn_0 c81
              exfalso
              omega
            · refine rl_bnd (Q := fun (y z : Int32 × DD) => y.1 = z.1 ∧ (1 ≤ y.1.toInt ∧ y.1.toInt ≤ 1) ∧ Up mu 144 y9_2 y9_2r y.2 z.2 ∧ WG mu y.2 z.2 c4 0 (8 * 8) (fun j => a5 + j / 8 * 16 + j % 8)) ?_ ?_
              · refine rl_if (fun c82 => ?_) (fun c82 => ?_)
                · have dc82 := tl_eq ix2 tn_2 c82
                  exfalso
                  omega
                · refine rl_bnd (Q := fun (y z : Int32) => y = z ∧ (0 ≤ y.toInt ∧ y.toInt ≤ 0)) ?_ ?_
                  · refine rl_if (fun c83 => ?_) (fun c83 => ?_)
                    · have dc83 := tl_eq ix2 tn_3 c83
                      exfalso
                      omega
                    · exact rl_some ⟨rfl, (ti_bd tn_0 (by omega) (by omega))⟩
                  · rintro y37 y37r ⟨ey37, ly37⟩
                    obtain rfl : y37 = y37r := ey37
                    have ly37 : 0 ≤ y37.toInt ∧ y37.toInt ≤ 0 := ly37
                    have iy37 : TI y37 (0) := ti_c ly37
                    refine rl_ltI (av_add tn_2 iy37 (by omega) (by omega)) (fun x38 ix38 => ?_)
                    refine rl_bnd (r_tapRows ty9_2 i3 ix38 ⟨rfl, rfl⟩ hc4 i5 (by omega) (by omega) (by omega) (by omega) (by omega) wW_y9_2 (fun h => absurd (by first | rfl | assumption | omega) h)) ?_
                    rintro y39 y39r ⟨uy39', vT_y39'⟩
                    have uy39 : Up mu 144 y9_2 y9_2r y39 y39r := uy39'
                    have ty39 := cx_up ty9_2 uy39
                    have wW_y39 := wq_up uy39 wW_y9_2
                    have vT_y39 : WG mu y39 y39r c4 0 (8 * 8) (fun j => a5 + j / 8 * 16 + j % 8) := wg_cs vT_y39' (by omega) (by omega) (fun j h1 h2 => by (try dsimp only) <;> omega)
                    exact rl_some ⟨rfl, (ti_bd tn_1 (by omega) (by omega)), uy39, vT_y39⟩
              · rintro ⟨y35_1, y35_2⟩ ⟨y35_1r, y35_2r⟩ ⟨ey35_1, ly35_1, uy35_2, wT_y35_2⟩
                obtain rfl : y35_1 = y35_1r := ey35_1
                have ly35_1 : 1 ≤ y35_1.toInt ∧ y35_1.toInt ≤ 1 := ly35_1
                have iy35_1 : TI y35_1 (1) := ti_c ly35_1
                have uy35_2 : Up mu 144 y9_2 y9_2r y35_2 y35_2r := uy35_2
                have ty35_2 := cx_up ty9_2 uy35_2
                have wW_y35_2 := wq_up uy35_2 wW_y9_2
                have wT_y35_2 : WG mu y35_2 y35_2r c4 0 (8 * 8) (fun j => a5 + j / 8 * 16 + j % 8) := wT_y35_2
                exact rl_some ⟨rfl, (ti_bd iy35_1 (by omega) (by omega)), uy35_2, wT_y35_2⟩
          · rintro ⟨y10_1, y10_2⟩ ⟨y10_1r, y10_2r⟩ ⟨ey10_1, ly10_1, uy10_2, wT_y10_2⟩
            obtain rfl : y10_1 = y10_1r := ey10_1
            have ly10_1 : 1 ≤ y10_1.toInt ∧ y10_1.toInt ≤ 1 := ly10_1
            have iy10_1 : TI y10_1 (1) := ti_c ly10_1
            have uy10_2 : Up mu 144 y9_2 y9_2r y10_2 y10_2r := uy10_2
            have ty10_2 := cx_up ty9_2 uy10_2
            have wW_y10_2 := wq_up uy10_2 wW_y9_2
            have wT_y10_2 : WG mu y10_2 y10_2r c4 0 (8 * 8) (fun j => a5 + j / 8 * 16 + j % 8) := wT_y10_2
            refine rl_bnd (Q := fun (y z : Int32 × DD) => y.1 = z.1 ∧ (1 ≤ y.1.toInt ∧ y.1.toInt ≤ 1) ∧ Up mu 144 y10_2 y10_2r y.2 z.2) ?_ ?_
            · refine rl_if (fun c84 => ?_) (fun c84 => ?_)
              · have dc84 := tl_eq ix2 tn_0 c84
                exfalso
                omega
              · refine rl_bnd (Q := fun (y z : Int32 × DD) => y.1 = z.1 ∧ (1 ≤ y.1.toInt ∧ y.1.toInt ≤ 1) ∧ Up mu 144 y10_2 y10_2r y.2 z.2) ?_ ?_
                · refine rl_if (fun c85 => ?_) (fun c85 => ?_)
                  · have dc85 := tl_eq ix1 tn_2 c85
                    exfalso
                    omega
                  · refine rl_bnd (Q := fun (y z : Int32) => y = z ∧ (0 ≤ y.toInt ∧ y.toInt ≤ 0)) ?_ ?_
                    · refine rl_if (fun c86 => ?_) (fun c86 => ?_)
                      · have dc86 := tl_eq ix1 tn_3 c86
                        exfalso
                        omega
                      · exact rl_some ⟨rfl, (ti_bd tn_0 (by omega) (by omega))⟩
                    · rintro y30 y30r ⟨ey30, ly30⟩
                      obtain rfl : y30 = y30r := ey30
                      have ly30 : 0 ≤ y30.toInt ∧ y30.toInt ≤ 0 := ly30
                      have iy30 : TI y30 (0) := ti_c ly30
                      refine rl_ltI (av_add tn_2 iy30 (by omega) (by omega)) (fun x31 ix31 => ?_)
                      refine rl_bnd (r_tapColumns ty10_2 i3 ix31 ⟨rfl, rfl⟩ hc4 i5 (by omega) (by omega) (by omega) (by omega) (by omega) wW_y10_2 (fun _ => wg_cs wT_y10_2 (by omega) (by omega) (fun j h1 h2 => by (try dsimp only) <;> omega))) ?_
                      rintro y32 y32r ⟨uy32', vT_y32'⟩
                      have uy32 : Up mu 144 y10_2 y10_2r y32 y32r := uy32'
                      have ty32 := cx_up ty10_2 uy32
                      have wW_y32 := wq_up uy32 wW_y10_2
                      have wT_y32 := wg_up uy32 wT_y10_2
                      have vT_y32 : WG mu y32 y32r c4 0 (8 * 8) (fun j => a5 + j / 8 * 16 + j % 8) := wg_cs vT_y32' (by omega) (by omega) (fun j h1 h2 => by (try dsimp only) <;> omega)
                      exact rl_some ⟨rfl, (ti_bd tn_1 (by omega) (by omega)), uy32⟩
                · rintro ⟨y28_1, y28_2⟩ ⟨y28_1r, y28_2r⟩ ⟨ey28_1, ly28_1, uy28_2⟩
                  obtain rfl : y28_1 = y28_1r := ey28_1
                  have ly28_1 : 1 ≤ y28_1.toInt ∧ y28_1.toInt ≤ 1 := ly28_1
                  have iy28_1 : TI y28_1 (1) := ti_c ly28_1
                  have uy28_2 : Up mu 144 y10_2 y10_2r y28_2 y28_2r := uy28_2
                  have ty28_2 := cx_up ty10_2 uy28_2
                  have wW_y28_2 := wq_up uy28_2 wW_y10_2
                  have wT_y28_2 := wg_up uy28_2 wT_y10_2
                  exact rl_some ⟨rfl, (ti_bd iy28_1 (by omega) (by omega)), uy28_2⟩
            · rintro ⟨y11_1, y11_2⟩ ⟨y11_1r, y11_2r⟩ ⟨ey11_1, ly11_1, uy11_2⟩
              obtain rfl : y11_1 = y11_1r := ey11_1
              have ly11_1 : 1 ≤ y11_1.toInt ∧ y11_1.toInt ≤ 1 := ly11_1
              have iy11_1 : TI y11_1 (1) := ti_c ly11_1
              have uy11_2 : Up mu 144 y10_2 y10_2r y11_2 y11_2r := uy11_2
              have ty11_2 := cx_up ty10_2 uy11_2
              have wW_y11_2 := wq_up uy11_2 wW_y10_2
              have wT_y11_2 := wg_up uy11_2 wT_y10_2
              refine rl_bnd (Q := fun (y z : DD) => Up mu 144 y11_2 y11_2r y z) ?_ ?_
              · refine rl_if (fun c87 => ?_) (fun c87 => ?_)
                · have dc87 := tl_eq ix1 tn_2 c87
                  exfalso
                  omega
                · refine rl_bnd (Q := fun (y z : DD) => Up mu 144 y11_2 y11_2r y z) ?_ ?_
                  · refine rl_if (fun c88 => ?_) (fun c88 => ?_)
                    · have dc88 := tl_eq ix2 tn_2 c88
                      exfalso
                      omega
                    · exact rl_some (up_0 mu (κ := 144) _ _)
                  · rintro y14 y14r uy14
                    have uy14 : Up mu 144 y11_2 y11_2r y14 y14r := uy14
                    have ty14 := cx_up ty11_2 uy14
                    have wW_y14 := wq_up uy14 wW_y11_2
                    have wT_y14 := wg_up uy14 wT_y11_2
                    exact rl_some uy14
              · rintro y12 y12r uy12
                have uy12 : Up mu 144 y11_2 y11_2r y12 y12r := uy12
                have ty12 := cx_up ty11_2 uy12
                have wW_y12 := wq_up uy12 wW_y11_2
                have wT_y12 := wg_up uy12 wT_y11_2
                exact rl_some ⟨(up_tr (up_tr (up_tr (up_tr uy8 uy9_2) uy10_2) uy11_2) uy12), wT_y12⟩
      · clear ix2 zx2
        have ix2 : TI x2 2 := yx2
        refine rl_ltI (av_sar 2 i1 (by decide)) (fun x3 ix3 => ?_)
        refine rl_ltI (av_sub ix3 tn_2 (by omega) (by omega)) (fun x4 ix4 => ?_)
        refine rl_ltI (av_sar 2 i2 (by decide)) (fun x5 ix5 => ?_)
        refine rl_ltI (av_sub ix5 tn_2 (by omega) (by omega)) (fun x6 ix6 => ?_)
        refine rl_ltI (av_add i3 tn_5 (by omega) (by omega)) (fun x7 ix7 => ?_)
        refine rl_bnd (r_fillWindow t ⟨rfl, rfl⟩ hq0 ix7 (by omega) (by omega)) ?_
        rintro y8 y8r ⟨uy8', vW_y8⟩
        have uy8 : Up mu 144 M N y8 y8r := uy8'
        have ty8 := cx_up t uy8
        refine rl_bnd (Q := fun (y z : Int32 × DD) => y.1 = z.1 ∧ (0 ≤ y.1.toInt ∧ y.1.toInt ≤ 0) ∧ Up mu 144 y8 y8r y.2 z.2) ?_ ?_
        · refine rl_if (fun c89 => ?_) (fun c89 => ?_)
          · have dc89 := tl_eq ix2 tn_0 c89
            exfalso
            omega
          · refine rl_bnd (Q := fun (y z : Int32 × DD) => y.1 = z.1 ∧ (0 ≤ y.1.toInt ∧ y.1.toInt ≤ 0) ∧ Up mu 144 y8 y8r y.2 z.2) ?_ ?_
            · refine rl_if (fun c90 => ?_) (fun c90 => ?_)
              · have dc90 := tl_eq ix1 tn_0 c90
                exfalso
                omega
              · exact rl_some ⟨rfl, (ti_bd tn_0 (by omega) (by omega)), (up_0 mu (κ := 144) _ _)⟩
            · rintro ⟨y42_1, y42_2⟩ ⟨y42_1r, y42_2r⟩ ⟨ey42_1, ly42_1, uy42_2⟩
              obtain rfl : y42_1 = y42_1r := ey42_1
              have ly42_1 : 0 ≤ y42_1.toInt ∧ y42_1.toInt ≤ 0 := ly42_1
              have iy42_1 : TI y42_1 (0) := ti_c ly42_1
              have uy42_2 : Up mu 144 y8 y8r y42_2 y42_2r := uy42_2
              have ty42_2 := cx_up ty8 uy42_2
              have wW_y42_2 := wq_up uy42_2 vW_y8
              exact rl_some ⟨rfl, (ti_bd iy42_1 (by omega) (by omega)), uy42_2⟩
        · rintro ⟨y9_1, y9_2⟩ ⟨y9_1r, y9_2r⟩ ⟨ey9_1, ly9_1, uy9_2⟩
          obtain rfl : y9_1 = y9_1r := ey9_1
          have ly9_1 : 0 ≤ y9_1.toInt ∧ y9_1.toInt ≤ 0 := ly9_1
          have iy9_1 : TI y9_1 (0) := ti_c ly9_1
          have uy9_2 : Up mu 144 y8 y8r y9_2 y9_2r := uy9_2
          have ty9_2 := cx_up ty8 uy9_2
          have wW_y9_2 := wq_up uy9_2 vW_y8
          refine rl_bnd (Q := fun (y z : Int32 × DD) => y.1 = z.1 ∧ (0 ≤ y.1.toInt ∧ y.1.toInt ≤ 0) ∧ Up mu 144 y9_2 y9_2r y.2 z.2) ?_ ?_
          · refine rl_if (fun c91 => ?_) (fun c91 => ?_)
            · have dc91 := tl_eq ix1 tn_0 c91
              exfalso
              omega
            · refine rl_bnd (Q := fun (y z : Int32 × DD) => y.1 = z.1 ∧ (0 ≤ y.1.toInt ∧ y.1.toInt ≤ 0) ∧ Up mu 144 y9_2 y9_2r y.2 z.2) ?_ ?_
              · refine rl_if (fun c92 => ?_) (fun c92 => ?_)
                · have dc92 := tl_eq ix2 tn_2 c92
                  exact rl_some ⟨rfl, (ti_bd iy9_1 (by omega) (by omega)), (up_0 mu (κ := 144) _ _)⟩
                · have dc92 := tl_ne ix2 tn_2 c92
                  exfalso
                  omega
              · rintro ⟨y35_1, y35_2⟩ ⟨y35_1r, y35_2r⟩ ⟨ey35_1, ly35_1, uy35_2⟩
                obtain rfl : y35_1 = y35_1r := ey35_1
                have ly35_1 : 0 ≤ y35_1.toInt ∧ y35_1.toInt ≤ 0 := ly35_1
                have iy35_1 : TI y35_1 (0) := ti_c ly35_1
                have uy35_2 : Up mu 144 y9_2 y9_2r y35_2 y35_2r := uy35_2
                have ty35_2 := cx_up ty9_2 uy35_2
                have wW_y35_2 := wq_up uy35_2 wW_y9_2
                exact rl_some ⟨rfl, (ti_bd iy35_1 (by omega) (by omega)), uy35_2⟩
          · rintro ⟨y10_1, y10_2⟩ ⟨y10_1r, y10_2r⟩ ⟨ey10_1, ly10_1, uy10_2⟩
            obtain rfl : y10_1 = y10_1r := ey10_1
            have ly10_1 : 0 ≤ y10_1.toInt ∧ y10_1.toInt ≤ 0 := ly10_1
            have iy10_1 : TI y10_1 (0) := ti_c ly10_1
            have uy10_2 : Up mu 144 y9_2 y9_2r y10_2 y10_2r := uy10_2
            have ty10_2 := cx_up ty9_2 uy10_2
            have wW_y10_2 := wq_up uy10_2 wW_y9_2
            refine rl_bnd (Q := fun (y z : Int32 × DD) => y.1 = z.1 ∧ (1 ≤ y.1.toInt ∧ y.1.toInt ≤ 1) ∧ Up mu 144 y10_2 y10_2r y.2 z.2 ∧ WG mu y.2 z.2 c4 0 (8 * 8) (fun j => a5 + j / 8 * 16 + j % 8)) ?_ ?_
            · refine rl_if (fun c93 => ?_) (fun c93 => ?_)
              · have dc93 := tl_eq ix2 tn_0 c93
                exfalso
                omega
              · refine rl_bnd (Q := fun (y z : Int32 × DD) => y.1 = z.1 ∧ (1 ≤ y.1.toInt ∧ y.1.toInt ≤ 1) ∧ Up mu 144 y10_2 y10_2r y.2 z.2 ∧ WG mu y.2 z.2 c4 0 (8 * 8) (fun j => a5 + j / 8 * 16 + j % 8)) ?_ ?_
                · refine rl_if (fun c94 => ?_) (fun c94 => ?_)
                  · have dc94 := tl_eq ix1 tn_2 c94
                    exfalso
                    omega
                  · refine rl_bnd (Q := fun (y z : Int32) => y = z ∧ (0 ≤ y.toInt ∧ y.toInt ≤ 0)) ?_ ?_
                    · refine rl_if (fun c95 => ?_) (fun c95 => ?_)
                      · have dc95 := tl_eq ix1 tn_3 c95
                        exfalso
                        omega
                      · exact rl_some ⟨rfl, (ti_bd tn_0 (by omega) (by omega))⟩
                    · rintro y30 y30r ⟨ey30, ly30⟩
                      obtain rfl : y30 = y30r := ey30
                      have ly30 : 0 ≤ y30.toInt ∧ y30.toInt ≤ 0 := ly30
                      have iy30 : TI y30 (0) := ti_c ly30
                      refine rl_ltI (av_add tn_2 iy30 (by omega) (by omega)) (fun x31 ix31 => ?_)
                      refine rl_bnd (r_tapColumns ty10_2 i3 ix31 ⟨rfl, rfl⟩ hc4 i5 (by omega) (by omega) (by omega) (by omega) (by omega) wW_y10_2 (fun h => absurd (by first | rfl | assumption | omega) h)) ?_
                      rintro y32 y32r ⟨uy32', vT_y32'⟩
                      have uy32 : Up mu 144 y10_2 y10_2r y32 y32r := uy32'
                      have ty32 := cx_up ty10_2 uy32
                      have wW_y32 := wq_up uy32 wW_y10_2
                      have vT_y32 : WG mu y32 y32r c4 0 (8 * 8) (fun j => a5 + j / 8 * 16 + j % 8) := wg_cs vT_y32' (by omega) (by omega) (fun j h1 h2 => by (try dsimp only) <;> omega)
                      exact rl_some ⟨rfl, (ti_bd tn_1 (by omega) (by omega)), uy32, vT_y32⟩
                · rintro ⟨y28_1, y28_2⟩ ⟨y28_1r, y28_2r⟩ ⟨ey28_1, ly28_1, uy28_2, wT_y28_2⟩
                  obtain rfl : y28_1 = y28_1r := ey28_1
                  have ly28_1 : 1 ≤ y28_1.toInt ∧ y28_1.toInt ≤ 1 := ly28_1
                  have iy28_1 : TI y28_1 (1) := ti_c ly28_1
                  have uy28_2 : Up mu 144 y10_2 y10_2r y28_2 y28_2r := uy28_2
                  have ty28_2 := cx_up ty10_2 uy28_2
                  have wW_y28_2 := wq_up uy28_2 wW_y10_2
                  have wT_y28_2 : WG mu y28_2 y28_2r c4 0 (8 * 8) (fun j => a5 + j / 8 * 16 + j % 8) := wT_y28_2
                  exact rl_some ⟨rfl, (ti_bd iy28_1 (by omega) (by omega)), uy28_2, wT_y28_2⟩
            · rintro ⟨y11_1, y11_2⟩ ⟨y11_1r, y11_2r⟩ ⟨ey11_1, ly11_1, uy11_2, wT_y11_2⟩
              obtain rfl : y11_1 = y11_1r := ey11_1
              have ly11_1 : 1 ≤ y11_1.toInt ∧ y11_1.toInt ≤ 1 := ly11_1
              have iy11_1 : TI y11_1 (1) := ti_c ly11_1
              have uy11_2 : Up mu 144 y10_2 y10_2r y11_2 y11_2r := uy11_2
              have ty11_2 := cx_up ty10_2 uy11_2
              have wW_y11_2 := wq_up uy11_2 wW_y10_2
              have wT_y11_2 : WG mu y11_2 y11_2r c4 0 (8 * 8) (fun j => a5 + j / 8 * 16 + j % 8) := wT_y11_2
              refine rl_bnd (Q := fun (y z : DD) => Up mu 144 y11_2 y11_2r y z) ?_ ?_
              · refine rl_if (fun c96 => ?_) (fun c96 => ?_)
                · have dc96 := tl_eq ix1 tn_2 c96
                  exfalso
                  omega
                · refine rl_bnd (Q := fun (y z : DD) => Up mu 144 y11_2 y11_2r y z) ?_ ?_
                  · refine rl_if (fun c97 => ?_) (fun c97 => ?_)
                    · have dc97 := tl_eq ix2 tn_2 c97
                      refine rl_bnd (Q := fun (y z : DD) => Up mu 144 y11_2 y11_2r y z) ?_ ?_
                      · refine rl_if (fun c98 => ?_) (fun c98 => ?_)
                        · have dc98 := tl_eq ix1 tn_0 c98
                          exfalso
                          omega
                        · refine rl_bnd (r_tapBoth ty11_2 i3 ⟨rfl, rfl⟩ hc4 i5 (by omega) (by omega) (by omega) wW_y11_2 (fun _ => wg_cs wT_y11_2 (by omega) (by omega) (fun j h1 h2 => by (try dsimp only) <;> omega))) ?_
                          rintro y18 y18r ⟨uy18', vT_y18'⟩
                          have uy18 : Up mu 144 y11_2 y11_2r y18 y18r := uy18'
                          have ty18 := cx_up ty11_2 uy18
                          have wW_y18 := wq_up uy18 wW_y11_2
                          have wT_y18 := wg_up uy18 wT_y11_2
                          have vT_y18 : WG mu y18 y18r c4 0 (8 * 8) (fun j => a5 + j / 8 * 16 + j % 8) := wg_cs vT_y18' (by omega) (by omega) (fun j h1 h2 => by (try dsimp only) <;> omega)
                          exact rl_some uy18
                      · rintro y16 y16r uy16
                        have uy16 : Up mu 144 y11_2 y11_2r y16 y16r := uy16
                        have ty16 := cx_up ty11_2 uy16
                        have wW_y16 := wq_up uy16 wW_y11_2
                        have wT_y16 := wg_up uy16 wT_y11_2
                        exact rl_some uy16
                    · have dc97 := tl_ne ix2 tn_2 c97
                      exfalso
                      omega
                  · rintro y14 y14r uy14
                    have uy14 : Up mu 144 y11_2 y11_2r y14 y14r := uy14
                    have ty14 := cx_up ty11_2 uy14
                    have wW_y14 := wq_up uy14 wW_y11_2
                    have wT_y14 := wg_up uy14 wT_y11_2
                    exact rl_some uy14
              · rintro y12 y12r uy12
                have uy12 : Up mu 144 y11_2 y11_2r y12 y12r := uy12
                have ty12 := cx_up ty11_2 uy12
                have wW_y12 := wq_up uy12 wW_y11_2
                have wT_y12 := wg_up uy12 wT_y11_2
                exact rl_some ⟨(up_tr (up_tr (up_tr (up_tr uy8 uy9_2) uy10_2) uy11_2) uy12), wT_y12⟩
      · clear ix2 zx2
        have ix2 : TI x2 3 := yx2
        refine rl_ltI (av_sar 2 i1 (by decide)) (fun x3 ix3 => ?_)
        refine rl_ltI (av_sub ix3 tn_2 (by omega) (by omega)) (fun x4 ix4 => ?_)
        refine rl_ltI (av_sar 2 i2 (by decide)) (fun x5 ix5 => ?_)
        refine rl_ltI (av_sub ix5 tn_2 (by omega) (by omega)) (fun x6 ix6 => ?_)
        refine rl_ltI (av_add i3 tn_5 (by omega) (by omega)) (fun x7 ix7 => ?_)
        refine rl_bnd (r_fillWindow t ⟨rfl, rfl⟩ hq0 ix7 (by omega) (by omega)) ?_
        rintro y8 y8r ⟨uy8', vW_y8⟩
        have uy8 : Up mu 144 M N y8 y8r := uy8'
        have ty8 := cx_up t uy8
        refine rl_bnd (Q := fun (y z : Int32 × DD) => y.1 = z.1 ∧ (0 ≤ y.1.toInt ∧ y.1.toInt ≤ 0) ∧ Up mu 144 y8 y8r y.2 z.2) ?_ ?_
        · refine rl_if (fun c99 => ?_) (fun c99 => ?_)
          · have dc99 := tl_eq ix2 tn_0 c99
            exfalso
            omega
          · refine rl_bnd (Q := fun (y z : Int32 × DD) => y.1 = z.1 ∧ (0 ≤ y.1.toInt ∧ y.1.toInt ≤ 0) ∧ Up mu 144 y8 y8r y.2 z.2) ?_ ?_
            · refine rl_if (fun c100 => ?_) (fun c100 => ?_)
              · have dc100 := tl_eq ix1 tn_0 c100
                exfalso
                omega
              · exact rl_some ⟨rfl, (ti_bd tn_0 (by omega) (by omega)), (up_0 mu (κ := 144) _ _)⟩
            · rintro ⟨y42_1, y42_2⟩ ⟨y42_1r, y42_2r⟩ ⟨ey42_1, ly42_1, uy42_2⟩
              obtain rfl : y42_1 = y42_1r := ey42_1
              have ly42_1 : 0 ≤ y42_1.toInt ∧ y42_1.toInt ≤ 0 := ly42_1
              have iy42_1 : TI y42_1 (0) := ti_c ly42_1
              have uy42_2 : Up mu 144 y8 y8r y42_2 y42_2r := uy42_2
              have ty42_2 := cx_up ty8 uy42_2
              have wW_y42_2 := wq_up uy42_2 vW_y8
              exact rl_some ⟨rfl, (ti_bd iy42_1 (by omega) (by omega)), uy42_2⟩
        · rintro ⟨y9_1, y9_2⟩ ⟨y9_1r, y9_2r⟩ ⟨ey9_1, ly9_1, uy9_2⟩
          obtain rfl : y9_1 = y9_1r := ey9_1
          have ly9_1 : 0 ≤ y9_1.toInt ∧ y9_1.toInt ≤ 0 := ly9_1
          have iy9_1 : TI y9_1 (0) := ti_c ly9_1
          have uy9_2 : Up mu 144 y8 y8r y9_2 y9_2r := uy9_2
          have ty9_2 := cx_up ty8 uy9_2
          have wW_y9_2 := wq_up uy9_2 vW_y8
          refine rl_bnd (Q := fun (y z : Int32 × DD) => y.1 = z.1 ∧ (1 ≤ y.1.toInt ∧ y.1.toInt ≤ 1) ∧ Up mu 144 y9_2 y9_2r y.2 z.2 ∧ WG mu y.2 z.2 c4 0 (8 * 8) (fun j => a5 + j / 8 * 16 + j % 8)) ?_ ?_
          · refine rl_if (fun c101 => ?_) (fun c101 => ?_)
            · have dc101 := tl_eq ix1 tn_0 c101
              exfalso
              omega
            · refine rl_bnd (Q := fun (y z : Int32 × DD) => y.1 = z.1 ∧ (1 ≤ y.1.toInt ∧ y.1.toInt ≤ 1) ∧ Up mu 144 y9_2 y9_2r y.2 z.2 ∧ WG mu y.2 z.2 c4 0 (8 * 8) (fun j => a5 + j / 8 * 16 + j % 8)) ?_ ?_
              · refine rl_if (fun c102 => ?_) (fun c102 => ?_)
                · have dc102 := tl_eq ix2 tn_2 c102
                  exfalso
                  omega
                · refine rl_bnd (Q := fun (y z : Int32) => y = z ∧ (1 ≤ y.toInt ∧ y.toInt ≤ 1)) ?_ ?_
                  · refine rl_if (fun c103 => ?_) (fun c103 => ?_)
                    · have dc103 := tl_eq ix2 tn_3 c103
                      exact rl_some ⟨rfl, (ti_bd tn_1 (by omega) (by omega))⟩
                    · have dc103 := tl_ne ix2 tn_3 c103
                      exfalso
                      omega
                  · rintro y37 y37r ⟨ey37, ly37⟩
                    obtain rfl : y37 = y37r := ey37
                    have ly37 : 1 ≤ y37.toInt ∧ y37.toInt ≤ 1 := ly37
                    have iy37 : TI y37 (1) := ti_c ly37
                    refine rl_ltI (av_add tn_2 iy37 (by omega) (by omega)) (fun x38 ix38 => ?_)
                    refine rl_bnd (r_tapRows ty9_2 i3 ix38 ⟨rfl, rfl⟩ hc4 i5 (by omega) (by omega) (by omega) (by omega) (by omega) wW_y9_2 (fun h => absurd (by first | rfl | assumption | omega) h)) ?_
                    rintro y39 y39r ⟨uy39', vT_y39'⟩
                    have uy39 : Up mu 144 y9_2 y9_2r y39 y39r := uy39'
                    have ty39 := cx_up ty9_2 uy39
                    have wW_y39 := wq_up uy39 wW_y9_2
                    have vT_y39 : WG mu y39 y39r c4 0 (8 * 8) (fun j => a5 + j / 8 * 16 + j % 8) := wg_cs vT_y39' (by omega) (by omega) (fun j h1 h2 => by (try dsimp only) <;> omega)
                    exact rl_some ⟨rfl, (ti_bd tn_1 (by omega) (by omega)), uy39, vT_y39⟩
              · rintro ⟨y35_1, y35_2⟩ ⟨y35_1r, y35_2r⟩ ⟨ey35_1, ly35_1, uy35_2, wT_y35_2⟩
                obtain rfl : y35_1 = y35_1r := ey35_1
                have ly35_1 : 1 ≤ y35_1.toInt ∧ y35_1.toInt ≤ 1 := ly35_1
                have iy35_1 : TI y35_1 (1) := ti_c ly35_1
                have uy35_2 : Up mu 144 y9_2 y9_2r y35_2 y35_2r := uy35_2
                have ty35_2 := cx_up ty9_2 uy35_2
                have wW_y35_2 := wq_up uy35_2 wW_y9_2
                have wT_y35_2 : WG mu y35_2 y35_2r c4 0 (8 * 8) (fun j => a5 + j / 8 * 16 + j % 8) := wT_y35_2
                exact rl_some ⟨rfl, (ti_bd iy35_1 (by omega) (by omega)), uy35_2, wT_y35_2⟩
          · rintro ⟨y10_1, y10_2⟩ ⟨y10_1r, y10_2r⟩ ⟨ey10_1, ly10_1, uy10_2, wT_y10_2⟩
            obtain rfl : y10_1 = y10_1r := ey10_1
            have ly10_1 : 1 ≤ y10_1.toInt ∧ y10_1.toInt ≤ 1 := ly10_1
            have iy10_1 : TI y10_1 (1) := ti_c ly10_1
            have uy10_2 : Up mu 144 y9_2 y9_2r y10_2 y10_2r := uy10_2
            have ty10_2 := cx_up ty9_2 uy10_2
            have wW_y10_2 := wq_up uy10_2 wW_y9_2
            have wT_y10_2 : WG mu y10_2 y10_2r c4 0 (8 * 8) (fun j => a5 + j / 8 * 16 + j % 8) := wT_y10_2
            refine rl_bnd (Q := fun (y z : Int32 × DD) => y.1 = z.1 ∧ (1 ≤ y.1.toInt ∧ y.1.toInt ≤ 1) ∧ Up mu 144 y10_2 y10_2r y.2 z.2) ?_ ?_
            · refine rl_if (fun c104 => ?_) (fun c104 => ?_)
              · have dc104 := tl_eq ix2 tn_0 c104
                exfalso
                omega
              · refine rl_bnd (Q := fun (y z : Int32 × DD) => y.1 = z.1 ∧ (1 ≤ y.1.toInt ∧ y.1.toInt ≤ 1) ∧ Up mu 144 y10_2 y10_2r y.2 z.2) ?_ ?_
                · refine rl_if (fun c105 => ?_) (fun c105 => ?_)
                  · have dc105 := tl_eq ix1 tn_2 c105
                    exfalso
                    omega
                  · refine rl_bnd (Q := fun (y z : Int32) => y = z ∧ (0 ≤ y.toInt ∧ y.toInt ≤ 0)) ?_ ?_
                    · refine rl_if (fun c106 => ?_) (fun c106 => ?_)
                      · have dc106 := tl_eq ix1 tn_3 c106
                        exfalso
                        omega
                      · exact rl_some ⟨rfl, (ti_bd tn_0 (by omega) (by omega))⟩
                    · rintro y30 y30r ⟨ey30, ly30⟩
                      obtain rfl : y30 = y30r := ey30
                      have ly30 : 0 ≤ y30.toInt ∧ y30.toInt ≤ 0 := ly30
                      have iy30 : TI y30 (0) := ti_c ly30
                      refine rl_ltI (av_add tn_2 iy30 (by omega) (by omega)) (fun x31 ix31 => ?_)
                      refine rl_bnd (r_tapColumns ty10_2 i3 ix31 ⟨rfl, rfl⟩ hc4 i5 (by omega) (by omega) (by omega) (by omega) (by omega) wW_y10_2 (fun _ => wg_cs wT_y10_2 (by omega) (by omega) (fun j h1 h2 => by (try dsimp only) <;> omega))) ?_
                      rintro y32 y32r ⟨uy32', vT_y32'⟩
                      have uy32 : Up mu 144 y10_2 y10_2r y32 y32r := uy32'
                      have ty32 := cx_up ty10_2 uy32
                      have wW_y32 := wq_up uy32 wW_y10_2
                      have wT_y32 := wg_up uy32 wT_y10_2
                      have vT_y32 : WG mu y32 y32r c4 0 (8 * 8) (fun j => a5 + j / 8 * 16 + j % 8) := wg_cs vT_y32' (by omega) (by omega) (fun j h1 h2 => by (try dsimp only) <;> omega)
                      exact rl_some ⟨rfl, (ti_bd tn_1 (by omega) (by omega)), uy32⟩
                · rintro ⟨y28_1, y28_2⟩ ⟨y28_1r, y28_2r⟩ ⟨ey28_1, ly28_1, uy28_2⟩
                  obtain rfl : y28_1 = y28_1r := ey28_1
                  have ly28_1 : 1 ≤ y28_1.toInt ∧ y28_1.toInt ≤ 1 := ly28_1
                  have iy28_1 : TI y28_1 (1) := ti_c ly28_1
                  have uy28_2 : Up mu 144 y10_2 y10_2r y28_2 y28_2r := uy28_2
                  have ty28_2 := cx_up ty10_2 uy28_2
                  have wW_y28_2 := wq_up uy28_2 wW_y10_2
                  have wT_y28_2 := wg_up uy28_2 wT_y10_2
                  exact rl_some ⟨rfl, (ti_bd iy28_1 (by omega) (by omega)), uy28_2⟩
            · rintro ⟨y11_1, y11_2⟩ ⟨y11_1r, y11_2r⟩ ⟨ey11_1, ly11_1, uy11_2⟩
              obtain rfl : y11_1 = y11_1r := ey11_1
              have ly11_1 : 1 ≤ y11_1.toInt ∧ y11_1.toInt ≤ 1 := ly11_1
              have iy11_1 : TI y11_1 (1) := ti_c ly11_1
              have uy11_2 : Up mu 144 y10_2 y10_2r y11_2 y11_2r := uy11_2
              have ty11_2 := cx_up ty10_2 uy11_2
              have wW_y11_2 := wq_up uy11_2 wW_y10_2
              have wT_y11_2 := wg_up uy11_2 wT_y10_2
              refine rl_bnd (Q := fun (y z : DD) => Up mu 144 y11_2 y11_2r y z) ?_ ?_
              · refine rl_if (fun c107 => ?_) (fun c107 => ?_)
                · have dc107 := tl_eq ix1 tn_2 c107
                  exfalso
                  omega
                · refine rl_bnd (Q := fun (y z : DD) => Up mu 144 y11_2 y11_2r y z) ?_ ?_
                  · refine rl_if (fun c108 => ?_) (fun c108 => ?_)
                    · have dc108 := tl_eq ix2 tn_2 c108
                      exfalso
                      omega
                    · exact rl_some (up_0 mu (κ := 144) _ _)
                  · rintro y14 y14r uy14
                    have uy14 : Up mu 144 y11_2 y11_2r y14 y14r := uy14
                    have ty14 := cx_up ty11_2 uy14
                    have wW_y14 := wq_up uy14 wW_y11_2
                    have wT_y14 := wg_up uy14 wT_y11_2
                    exact rl_some uy14
              · rintro y12 y12r uy12
                have uy12 : Up mu 144 y11_2 y11_2r y12 y12r := uy12
                have ty12 := cx_up ty11_2 uy12
                have wW_y12 := wq_up uy12 wW_y11_2
                have wT_y12 := wg_up uy12 wT_y11_2
                exact rl_some ⟨(up_tr (up_tr (up_tr (up_tr uy8 uy9_2) uy10_2) uy11_2) uy12), wT_y12⟩
    · clear ix1 zx1
      have ix1 : TI x1 2 := yx1
      refine rl_ltI (av_and 2 i2 (by decide) (by decide)) (fun x2 ix2 => ?_)
      have zx2 : x2.toInt = _ := ix2
      rcases (by omega : x2.toInt = 0 ∨ x2.toInt = 1 ∨ x2.toInt = 2 ∨ x2.toInt = 3) with yx2 | yx2 | yx2 | yx2
      · clear ix2 zx2
        have ix2 : TI x2 0 := yx2
        refine rl_ltI (av_sar 2 i1 (by decide)) (fun x3 ix3 => ?_)
        refine rl_ltI (av_sub ix3 tn_2 (by omega) (by omega)) (fun x4 ix4 => ?_)
        refine rl_ltI (av_sar 2 i2 (by decide)) (fun x5 ix5 => ?_)
        refine rl_ltI (av_sub ix5 tn_2 (by omega) (by omega)) (fun x6 ix6 => ?_)
        refine rl_ltI (av_add i3 tn_5 (by omega) (by omega)) (fun x7 ix7 => ?_)
        refine rl_bnd (r_fillWindow t ⟨rfl, rfl⟩ hq0 ix7 (by omega) (by omega)) ?_
        rintro y8 y8r ⟨uy8', vW_y8⟩
        have uy8 : Up mu 144 M N y8 y8r := uy8'
        have ty8 := cx_up t uy8
        refine rl_bnd (Q := fun (y z : Int32 × DD) => y.1 = z.1 ∧ (0 ≤ y.1.toInt ∧ y.1.toInt ≤ 0) ∧ Up mu 144 y8 y8r y.2 z.2) ?_ ?_
        · refine rl_if (fun c109 => ?_) (fun c109 => ?_)
          · have dc109 := tl_eq ix2 tn_0 c109
            refine rl_bnd (Q := fun (y z : Int32 × DD) => y.1 = z.1 ∧ (0 ≤ y.1.toInt ∧ y.1.toInt ≤ 0) ∧ Up mu 144 y8 y8r y.2 z.2) ?_ ?_
            · refine rl_if (fun c110 => ?_) (fun c110 => ?_)
              · have dc110 := tl_eq ix1 tn_2 c110
                refine rl_bnd (Q := fun (y z : Int32 × DD) => y.1 = z.1 ∧ (0 ≤ y.1.toInt ∧ y.1.toInt ≤ 0) ∧ Up mu 144 y8 y8r y.2 z.2) ?_ ?_
                · refine rl_if (fun c111 => ?_) (fun c111 => ?_)
                  · have dc111 := tl_eq ix1 tn_0 c111
                    exfalso
                    omega
                  · exact rl_some ⟨rfl, (ti_bd tn_0 (by omega) (by omega)), (up_0 mu (κ := 144) _ _)⟩
                · rintro ⟨y106_1, y106_2⟩ ⟨y106_1r, y106_2r⟩ ⟨ey106_1, ly106_1, uy106_2⟩
                  obtain rfl : y106_1 = y106_1r := ey106_1
                  have ly106_1 : 0 ≤ y106_1.toInt ∧ y106_1.toInt ≤ 0 := ly106_1
                  have iy106_1 : TI y106_1 (0) := ti_c ly106_1
                  have uy106_2 : Up mu 144 y8 y8r y106_2 y106_2r := uy106_2
                  have ty106_2 := cx_up ty8 uy106_2
                  have wW_y106_2 := wq_up uy106_2 vW_y8
                  exact rl_some ⟨rfl, (ti_bd iy106_1 (by omega) (by omega)), uy106_2⟩
              · have dc110 := tl_ne ix1 tn_2 c110
                exfalso
                omega
            · rintro ⟨y75_1, y75_2⟩ ⟨y75_1r, y75_2r⟩ ⟨ey75_1, ly75_1, uy75_2⟩
              obtain rfl : y75_1 = y75_1r := ey75_1
              have ly75_1 : 0 ≤ y75_1.toInt ∧ y75_1.toInt ≤ 0 := ly75_1
              have iy75_1 : TI y75_1 (0) := ti_c ly75_1
              have uy75_2 : Up mu 144 y8 y8r y75_2 y75_2r := uy75_2
              have ty75_2 := cx_up ty8 uy75_2
              have wW_y75_2 := wq_up uy75_2 vW_y8
              exact rl_some ⟨rfl, (ti_bd iy75_1 (by omega) (by omega)), uy75_2⟩
          · have dc109 := tl_ne ix2 tn_0 c109
            exfalso
            omega
        · rintro ⟨y9_1, y9_2⟩ ⟨y9_1r, y9_2r⟩ ⟨ey9_1, ly9_1, uy9_2⟩
          obtain rfl : y9_1 = y9_1r := ey9_1
          have ly9_1 : 0 ≤ y9_1.toInt ∧ y9_1.toInt ≤ 0 := ly9_1
          have iy9_1 : TI y9_1 (0) := ti_c ly9_1
          have uy9_2 : Up mu 144 y8 y8r y9_2 y9_2r := uy9_2
          have ty9_2 := cx_up ty8 uy9_2
          have wW_y9_2 := wq_up uy9_2 vW_y8
          refine rl_bnd (Q := fun (y z : Int32 × DD) => y.1 = z.1 ∧ (1 ≤ y.1.toInt ∧ y.1.toInt ≤ 1) ∧ Up mu 144 y9_2 y9_2r y.2 z.2 ∧ WG mu y.2 z.2 c4 0 (8 * 8) (fun j => a5 + j / 8 * 16 + j % 8)) ?_ ?_
          · refine rl_if (fun c112 => ?_) (fun c112 => ?_)
            · have dc112 := tl_eq ix1 tn_0 c112
              exfalso
              omega
            · refine rl_bnd (Q := fun (y z : Int32 × DD) => y.1 = z.1 ∧ (1 ≤ y.1.toInt ∧ y.1.toInt ≤ 1) ∧ Up mu 144 y9_2 y9_2r y.2 z.2 ∧ WG mu y.2 z.2 c4 0 (8 * 8) (fun j => a5 + j / 8 * 16 + j % 8)) ?_ ?_
              · refine rl_if (fun c113 => ?_) (fun c113 => ?_)
                · have dc113 := tl_eq ix2 tn_2 c113
                  exfalso
                  omega
                · refine rl_bnd (Q := fun (y z : Int32) => y = z ∧ (0 ≤ y.toInt ∧ y.toInt ≤ 0)) ?_ ?_
                  · refine rl_if (fun c114 => ?_) (fun c114 => ?_)
                    · have dc114 := tl_eq ix2 tn_3 c114
                      exfalso
                      omega
                    · exact rl_some ⟨rfl, (ti_bd tn_0 (by omega) (by omega))⟩
                  · rintro y37 y37r ⟨ey37, ly37⟩
                    obtain rfl : y37 = y37r := ey37
                    have ly37 : 0 ≤ y37.toInt ∧ y37.toInt ≤ 0 := ly37
                    have iy37 : TI y37 (0) := ti_c ly37
                    refine rl_ltI (av_add tn_2 iy37 (by omega) (by omega)) (fun x38 ix38 => ?_)
                    refine rl_bnd (r_tapRows ty9_2 i3 ix38 ⟨rfl, rfl⟩ hc4 i5 (by omega) (by omega) (by omega) (by omega) (by omega) wW_y9_2 (fun h => absurd (by first | rfl | assumption | omega) h)) ?_
                    rintro y39 y39r ⟨uy39', vT_y39'⟩
                    have uy39 : Up mu 144 y9_2 y9_2r y39 y39r := uy39'
                    have ty39 := cx_up ty9_2 uy39
                    have wW_y39 := wq_up uy39 wW_y9_2
                    have vT_y39 : WG mu y39 y39r c4 0 (8 * 8) (fun j => a5 + j / 8 * 16 + j % 8) := wg_cs vT_y39' (by omega) (by omega) (fun j h1 h2 => by (try dsimp only) <;> omega)
                    exact rl_some ⟨rfl, (ti_bd tn_1 (by omega) (by omega)), uy39, vT_y39⟩
              · rintro ⟨y35_1, y35_2⟩ ⟨y35_1r, y35_2r⟩ ⟨ey35_1, ly35_1, uy35_2, wT_y35_2⟩
                obtain rfl : y35_1 = y35_1r := ey35_1
                have ly35_1 : 1 ≤ y35_1.toInt ∧ y35_1.toInt ≤ 1 := ly35_1
                have iy35_1 : TI y35_1 (1) := ti_c ly35_1
                have uy35_2 : Up mu 144 y9_2 y9_2r y35_2 y35_2r := uy35_2
                have ty35_2 := cx_up ty9_2 uy35_2
                have wW_y35_2 := wq_up uy35_2 wW_y9_2
                have wT_y35_2 : WG mu y35_2 y35_2r c4 0 (8 * 8) (fun j => a5 + j / 8 * 16 + j % 8) := wT_y35_2
                exact rl_some ⟨rfl, (ti_bd iy35_1 (by omega) (by omega)), uy35_2, wT_y35_2⟩
          · rintro ⟨y10_1, y10_2⟩ ⟨y10_1r, y10_2r⟩ ⟨ey10_1, ly10_1, uy10_2, wT_y10_2⟩
            obtain rfl : y10_1 = y10_1r := ey10_1
            have ly10_1 : 1 ≤ y10_1.toInt ∧ y10_1.toInt ≤ 1 := ly10_1
            have iy10_1 : TI y10_1 (1) := ti_c ly10_1
            have uy10_2 : Up mu 144 y9_2 y9_2r y10_2 y10_2r := uy10_2
            have ty10_2 := cx_up ty9_2 uy10_2
            have wW_y10_2 := wq_up uy10_2 wW_y9_2
            have wT_y10_2 : WG mu y10_2 y10_2r c4 0 (8 * 8) (fun j => a5 + j / 8 * 16 + j % 8) := wT_y10_2
            refine rl_bnd (Q := fun (y z : Int32 × DD) => y.1 = z.1 ∧ (1 ≤ y.1.toInt ∧ y.1.toInt ≤ 1) ∧ Up mu 144 y10_2 y10_2r y.2 z.2) ?_ ?_
            · refine rl_if (fun c115 => ?_) (fun c115 => ?_)
              · have dc115 := tl_eq ix2 tn_0 c115
                exact rl_some ⟨rfl, (ti_bd iy10_1 (by omega) (by omega)), (up_0 mu (κ := 144) _ _)⟩
              · have dc115 := tl_ne ix2 tn_0 c115
                exfalso
                omega
            · rintro ⟨y11_1, y11_2⟩ ⟨y11_1r, y11_2r⟩ ⟨ey11_1, ly11_1, uy11_2⟩
              obtain rfl : y11_1 = y11_1r := ey11_1
              have ly11_1 : 1 ≤ y11_1.toInt ∧ y11_1.toInt ≤ 1 := ly11_1
              have iy11_1 : TI y11_1 (1) := ti_c ly11_1
              have uy11_2 : Up mu 144 y10_2 y10_2r y11_2 y11_2r := uy11_2
              have ty11_2 := cx_up ty10_2 uy11_2
              have wW_y11_2 := wq_up uy11_2 wW_y10_2
              have wT_y11_2 := wg_up uy11_2 wT_y10_2
              refine rl_bnd (Q := fun (y z : DD) => Up mu 144 y11_2 y11_2r y z) ?_ ?_
              · refine rl_if (fun c116 => ?_) (fun c116 => ?_)
                · have dc116 := tl_eq ix1 tn_2 c116
                  refine rl_bnd (Q := fun (y z : DD) => Up mu 144 y11_2 y11_2r y z) ?_ ?_
                  · refine rl_if (fun c117 => ?_) (fun c117 => ?_)
                    · have dc117 := tl_eq ix2 tn_0 c117
                      refine rl_bnd (Q := fun (y z : DD) => Up mu 144 y11_2 y11_2r y z) ?_ ?_
                      · refine rl_if (fun c118 => ?_) (fun c118 => ?_)
                        · have dc118 := tl_eq ix2 tn_2 c118
                          exfalso
                          omega
                        · exact rl_some (up_0 mu (κ := 144) _ _)
                      · rintro y22 y22r uy22
                        have uy22 : Up mu 144 y11_2 y11_2r y22 y22r := uy22
                        have ty22 := cx_up ty11_2 uy22
                        have wW_y22 := wq_up uy22 wW_y11_2
                        have wT_y22 := wg_up uy22 wT_y11_2
                        exact rl_some uy22
                    · have dc117 := tl_ne ix2 tn_0 c117
                      exfalso
                      omega
                  · rintro y19 y19r uy19
                    have uy19 : Up mu 144 y11_2 y11_2r y19 y19r := uy19
                    have ty19 := cx_up ty11_2 uy19
                    have wW_y19 := wq_up uy19 wW_y11_2
                    have wT_y19 := wg_up uy19 wT_y11_2
                    exact rl_some uy19
                · have dc116 := tl_ne ix1 tn_2 c116
                  exfalso
                  omega
              · rintro y12 y12r uy12
                have uy12 : Up mu 144 y11_2 y11_2r y12 y12r := uy12
                have ty12 := cx_up ty11_2 uy12
                have wW_y12 := wq_up uy12 wW_y11_2
                have wT_y12 := wg_up uy12 wT_y11_2
                exact rl_some ⟨(up_tr (up_tr (up_tr (up_tr uy8 uy9_2) uy10_2) uy11_2) uy12), wT_y12⟩
      · clear ix2 zx2
        have ix2 : TI x2 1 := yx2
        refine rl_ltI (av_sar 2 i1 (by decide)) (fun x3 ix3 => ?_)
        refine rl_ltI (av_sub ix3 tn_2 (by omega) (by omega)) (fun x4 ix4 => ?_)
        refine rl_ltI (av_sar 2 i2 (by decide)) (fun x5 ix5 => ?_)
        refine rl_ltI (av_sub ix5 tn_2 (by omega) (by omega)) (fun x6 ix6 => ?_)
        refine rl_ltI (av_add i3 tn_5 (by omega) (by omega)) (fun x7 ix7 => ?_)
        refine rl_bnd (r_fillWindow t ⟨rfl, rfl⟩ hq0 ix7 (by omega) (by omega)) ?_
        rintro y8 y8r ⟨uy8', vW_y8⟩
        have uy8 : Up mu 144 M N y8 y8r := uy8'
        have ty8 := cx_up t uy8
        refine rl_bnd (Q := fun (y z : Int32 × DD) => y.1 = z.1 ∧ (0 ≤ y.1.toInt ∧ y.1.toInt ≤ 0) ∧ Up mu 144 y8 y8r y.2 z.2) ?_ ?_
        · refine rl_if (fun c119 => ?_) (fun c119 => ?_)
          · have dc119 := tl_eq ix2 tn_0 c119
            exfalso
            omega
          · refine rl_bnd (Q := fun (y z : Int32 × DD) => y.1 = z.1 ∧ (0 ≤ y.1.toInt ∧ y.1.toInt ≤ 0) ∧ Up mu 144 y8 y8r y.2 z.2) ?_ ?_
            · refine rl_if (fun c120 => ?_) (fun c120 => ?_)
              · have dc120 := tl_eq ix1 tn_0 c120
                exfalso
                omega
              · exact rl_some ⟨rfl, (ti_bd tn_0 (by omega) (by omega)), (up_0 mu (κ := 144) _ _)⟩
            · rintro ⟨y42_1, y42_2⟩ ⟨y42_1r, y42_2r⟩ ⟨ey42_1, ly42_1, uy42_2⟩
              obtain rfl : y42_1 = y42_1r := ey42_1
              have ly42_1 : 0 ≤ y42_1.toInt ∧ y42_1.toInt ≤ 0 := ly42_1
              have iy42_1 : TI y42_1 (0) := ti_c ly42_1
              have uy42_2 : Up mu 144 y8 y8r y42_2 y42_2r := uy42_2
              have ty42_2 := cx_up ty8 uy42_2
              have wW_y42_2 := wq_up uy42_2 vW_y8
              exact rl_some ⟨rfl, (ti_bd iy42_1 (by omega) (by omega)), uy42_2⟩
        · rintro ⟨y9_1, y9_2⟩ ⟨y9_1r, y9_2r⟩ ⟨ey9_1, ly9_1, uy9_2⟩
          obtain rfl : y9_1 = y9_1r := ey9_1
          have ly9_1 : 0 ≤ y9_1.toInt ∧ y9_1.toInt ≤ 0 := ly9_1
          have iy9_1 : TI y9_1 (0) := ti_c ly9_1
          have uy9_2 : Up mu 144 y8 y8r y9_2 y9_2r := uy9_2
          have ty9_2 := cx_up ty8 uy9_2
          have wW_y9_2 := wq_up uy9_2 vW_y8
          refine rl_bnd (Q := fun (y z : Int32 × DD) => y.1 = z.1 ∧ (1 ≤ y.1.toInt ∧ y.1.toInt ≤ 1) ∧ Up mu 144 y9_2 y9_2r y.2 z.2 ∧ WG mu y.2 z.2 c4 0 (8 * 8) (fun j => a5 + j / 8 * 16 + j % 8)) ?_ ?_
          · refine rl_if (fun c121 => ?_) (fun c121 => ?_)
            · have dc121 := tl_eq ix1 tn_0 c121
              exfalso
              omega
            · refine rl_bnd (Q := fun (y z : Int32 × DD) => y.1 = z.1 ∧ (1 ≤ y.1.toInt ∧ y.1.toInt ≤ 1) ∧ Up mu 144 y9_2 y9_2r y.2 z.2 ∧ WG mu y.2 z.2 c4 0 (8 * 8) (fun j => a5 + j / 8 * 16 + j % 8)) ?_ ?_
              · refine rl_if (fun c122 => ?_) (fun c122 => ?_)
                · have dc122 := tl_eq ix2 tn_2 c122
                  exfalso
                  omega
                · refine rl_bnd (Q := fun (y z : Int32) => y = z ∧ (0 ≤ y.toInt ∧ y.toInt ≤ 0)) ?_ ?_
                  · refine rl_if (fun c123 => ?_) (fun c123 => ?_)
                    · have dc123 := tl_eq ix2 tn_3 c123
                      exfalso
                      omega
                    · exact rl_some ⟨rfl, (ti_bd tn_0 (by omega) (by omega))⟩
                  · rintro y37 y37r ⟨ey37, ly37⟩
                    obtain rfl : y37 = y37r := ey37
                    have ly37 : 0 ≤ y37.toInt ∧ y37.toInt ≤ 0 := ly37
                    have iy37 : TI y37 (0) := ti_c ly37
                    refine rl_ltI (av_add tn_2 iy37 (by omega) (by omega)) (fun x38 ix38 => ?_)
                    refine rl_bnd (r_tapRows ty9_2 i3 ix38 ⟨rfl, rfl⟩ hc4 i5 (by omega) (by omega) (by omega) (by omega) (by omega) wW_y9_2 (fun h => absurd (by first | rfl | assumption | omega) h)) ?_
                    rintro y39 y39r ⟨uy39', vT_y39'⟩
                    have uy39 : Up mu 144 y9_2 y9_2r y39 y39r := uy39'
                    have ty39 := cx_up ty9_2 uy39
                    have wW_y39 := wq_up uy39 wW_y9_2
                    have vT_y39 : WG mu y39 y39r c4 0 (8 * 8) (fun j => a5 + j / 8 * 16 + j % 8) := wg_cs vT_y39' (by omega) (by omega) (fun j h1 h2 => by (try dsimp only) <;> omega)
                    exact rl_some ⟨rfl, (ti_bd tn_1 (by omega) (by omega)), uy39, vT_y39⟩
              · rintro ⟨y35_1, y35_2⟩ ⟨y35_1r, y35_2r⟩ ⟨ey35_1, ly35_1, uy35_2, wT_y35_2⟩
                obtain rfl : y35_1 = y35_1r := ey35_1
                have ly35_1 : 1 ≤ y35_1.toInt ∧ y35_1.toInt ≤ 1 := ly35_1
                have iy35_1 : TI y35_1 (1) := ti_c ly35_1
                have uy35_2 : Up mu 144 y9_2 y9_2r y35_2 y35_2r := uy35_2
                have ty35_2 := cx_up ty9_2 uy35_2
                have wW_y35_2 := wq_up uy35_2 wW_y9_2
                have wT_y35_2 : WG mu y35_2 y35_2r c4 0 (8 * 8) (fun j => a5 + j / 8 * 16 + j % 8) := wT_y35_2
                exact rl_some ⟨rfl, (ti_bd iy35_1 (by omega) (by omega)), uy35_2, wT_y35_2⟩
          · rintro ⟨y10_1, y10_2⟩ ⟨y10_1r, y10_2r⟩ ⟨ey10_1, ly10_1, uy10_2, wT_y10_2⟩
            obtain rfl : y10_1 = y10_1r := ey10_1
            have ly10_1 : 1 ≤ y10_1.toInt ∧ y10_1.toInt ≤ 1 := ly10_1
            have iy10_1 : TI y10_1 (1) := ti_c ly10_1
            have uy10_2 : Up mu 144 y9_2 y9_2r y10_2 y10_2r := uy10_2
            have ty10_2 := cx_up ty9_2 uy10_2
            have wW_y10_2 := wq_up uy10_2 wW_y9_2
            have wT_y10_2 : WG mu y10_2 y10_2r c4 0 (8 * 8) (fun j => a5 + j / 8 * 16 + j % 8) := wT_y10_2
            refine rl_bnd (Q := fun (y z : Int32 × DD) => y.1 = z.1 ∧ (1 ≤ y.1.toInt ∧ y.1.toInt ≤ 1) ∧ Up mu 144 y10_2 y10_2r y.2 z.2) ?_ ?_
            · refine rl_if (fun c124 => ?_) (fun c124 => ?_)
              · have dc124 := tl_eq ix2 tn_0 c124
                exfalso
                omega
              · refine rl_bnd (Q := fun (y z : Int32 × DD) => y.1 = z.1 ∧ (1 ≤ y.1.toInt ∧ y.1.toInt ≤ 1) ∧ Up mu 144 y10_2 y10_2r y.2 z.2) ?_ ?_
                · refine rl_if (fun c125 => ?_) (fun c125 => ?_)
                  · have dc125 := tl_eq ix1 tn_2 c125
                    exact rl_some ⟨rfl, (ti_bd iy10_1 (by omega) (by omega)), (up_0 mu (κ := 144) _ _)⟩
                  · have dc125 := tl_ne ix1 tn_2 c125
                    exfalso
                    omega
                · rintro ⟨y28_1, y28_2⟩ ⟨y28_1r, y28_2r⟩ ⟨ey28_1, ly28_1, uy28_2⟩
                  obtain rfl : y28_1 = y28_1r := ey28_1
                  have ly28_1 : 1 ≤ y28_1.toInt ∧ y28_1.toInt ≤ 1 := ly28_1
                  have iy28_1 : TI y28_1 (1) := ti_c ly28_1
                  have uy28_2 : Up mu 144 y10_2 y10_2r y28_2 y28_2r := uy28_2
                  have ty28_2 := cx_up ty10_2 uy28_2
                  have wW_y28_2 := wq_up uy28_2 wW_y10_2
                  have wT_y28_2 := wg_up uy28_2 wT_y10_2
                  exact rl_some ⟨rfl, (ti_bd iy28_1 (by omega) (by omega)), uy28_2⟩
            · rintro ⟨y11_1, y11_2⟩ ⟨y11_1r, y11_2r⟩ ⟨ey11_1, ly11_1, uy11_2⟩
              obtain rfl : y11_1 = y11_1r := ey11_1
              have ly11_1 : 1 ≤ y11_1.toInt ∧ y11_1.toInt ≤ 1 := ly11_1
              have iy11_1 : TI y11_1 (1) := ti_c ly11_1
              have uy11_2 : Up mu 144 y10_2 y10_2r y11_2 y11_2r := uy11_2
              have ty11_2 := cx_up ty10_2 uy11_2
              have wW_y11_2 := wq_up uy11_2 wW_y10_2
              have wT_y11_2 := wg_up uy11_2 wT_y10_2
              refine rl_bnd (Q := fun (y z : DD) => Up mu 144 y11_2 y11_2r y z) ?_ ?_
              · refine rl_if (fun c126 => ?_) (fun c126 => ?_)
                · have dc126 := tl_eq ix1 tn_2 c126
                  refine rl_bnd (Q := fun (y z : DD) => Up mu 144 y11_2 y11_2r y z) ?_ ?_
                  · refine rl_if (fun c127 => ?_) (fun c127 => ?_)
                    · have dc127 := tl_eq ix2 tn_0 c127
                      exfalso
                      omega
                    · refine rl_bnd (r_tapBoth ty11_2 i3 ⟨rfl, rfl⟩ hc4 i5 (by omega) (by omega) (by omega) wW_y11_2 (fun _ => wg_cs wT_y11_2 (by omega) (by omega) (fun j h1 h2 => by (try dsimp only) <;> omega))) ?_
                      rintro y21 y21r ⟨uy21', vT_y21'⟩
                      have uy21 : Up mu 144 y11_2 y11_2r y21 y21r := uy21'
                      have ty21 := cx_up ty11_2 uy21
                      have wW_y21 := wq_up uy21 wW_y11_2
                      have wT_y21 := wg_up uy21 wT_y11_2
                      have vT_y21 : WG mu y21 y21r c4 0 (8 * 8) (fun j => a5 + j / 8 * 16 + j % 8) := wg_cs vT_y21' (by omega) (by omega) (fun j h1 h2 => by (try dsimp only) <;> omega)
                      exact rl_some uy21
                  · rintro y19 y19r uy19
                    have uy19 : Up mu 144 y11_2 y11_2r y19 y19r := uy19
                    have ty19 := cx_up ty11_2 uy19
                    have wW_y19 := wq_up uy19 wW_y11_2
                    have wT_y19 := wg_up uy19 wT_y11_2
                    exact rl_some uy19
                · have dc126 := tl_ne ix1 tn_2 c126
                  exfalso
                  omega
              · rintro y12 y12r uy12
                have uy12 : Up mu 144 y11_2 y11_2r y12 y12r := uy12
                have ty12 := cx_up ty11_2 uy12
                have wW_y12 := wq_up uy12 wW_y11_2
                have wT_y12 := wg_up uy12 wT_y11_2
                exact rl_some ⟨(up_tr (up_tr (up_tr (up_tr uy8 uy9_2) uy10_2) uy11_2) uy12), wT_y12⟩
      · clear ix2 zx2
        have ix2 : TI x2 2 := yx2
        refine rl_ltI (av_sar 2 i1 (by decide)) (fun x3 ix3 => ?_)
        refine rl_ltI (av_sub ix3 tn_2 (by omega) (by omega)) (fun x4 ix4 => ?_)
        refine rl_ltI (av_sar 2 i2 (by decide)) (fun x5 ix5 => ?_)
        refine rl_ltI (av_sub ix5 tn_2 (by omega) (by omega)) (fun x6 ix6 => ?_)
        refine rl_ltI (av_add i3 tn_5 (by omega) (by omega)) (fun x7 ix7 => ?_)
        refine rl_bnd (r_fillWindow t ⟨rfl, rfl⟩ hq0 ix7 (by omega) (by omega)) ?_
        rintro y8 y8r ⟨uy8', vW_y8⟩
        have uy8 : Up mu 144 M N y8 y8r := uy8'
        have ty8 := cx_up t uy8
        refine rl_bnd (Q := fun (y z : Int32 × DD) => y.1 = z.1 ∧ (0 ≤ y.1.toInt ∧ y.1.toInt ≤ 0) ∧ Up mu 144 y8 y8r y.2 z.2) ?_ ?_
        · refine rl_if (fun c128 => ?_) (fun c128 => ?_)
          · have dc128 := tl_eq ix2 tn_0 c128
            exfalso
            omega
          · refine rl_bnd (Q := fun (y z : Int32 × DD) => y.1 = z.1 ∧ (0 ≤ y.1.toInt ∧ y.1.toInt ≤ 0) ∧ Up mu 144 y8 y8r y.2 z.2) ?_ ?_
            · refine rl_if (fun c129 => ?_) (fun c129 => ?_)
              · have dc129 := tl_eq ix1 tn_0 c129
                exfalso
                omega
              · exact rl_some ⟨rfl, (ti_bd tn_0 (by omega) (by omega)), (up_0 mu (κ := 144) _ _)⟩
            · rintro ⟨y42_1, y42_2⟩ ⟨y42_1r, y42_2r⟩ ⟨ey42_1, ly42_1, uy42_2⟩
              obtain rfl : y42_1 = y42_1r := ey42_1
              have ly42_1 : 0 ≤ y42_1.toInt ∧ y42_1.toInt ≤ 0 := ly42_1
              have iy42_1 : TI y42_1 (0) := ti_c ly42_1
              have uy42_2 : Up mu 144 y8 y8r y42_2 y42_2r := uy42_2
              have ty42_2 := cx_up ty8 uy42_2
              have wW_y42_2 := wq_up uy42_2 vW_y8
              exact rl_some ⟨rfl, (ti_bd iy42_1 (by omega) (by omega)), uy42_2⟩
        · rintro ⟨y9_1, y9_2⟩ ⟨y9_1r, y9_2r⟩ ⟨ey9_1, ly9_1, uy9_2⟩
          obtain rfl : y9_1 = y9_1r := ey9_1
          have ly9_1 : 0 ≤ y9_1.toInt ∧ y9_1.toInt ≤ 0 := ly9_1
          have iy9_1 : TI y9_1 (0) := ti_c ly9_1
          have uy9_2 : Up mu 144 y8 y8r y9_2 y9_2r := uy9_2
          have ty9_2 := cx_up ty8 uy9_2
          have wW_y9_2 := wq_up uy9_2 vW_y8
          refine rl_bnd (Q := fun (y z : Int32 × DD) => y.1 = z.1 ∧ (0 ≤ y.1.toInt ∧ y.1.toInt ≤ 0) ∧ Up mu 144 y9_2 y9_2r y.2 z.2) ?_ ?_
          · refine rl_if (fun c130 => ?_) (fun c130 => ?_)
            · have dc130 := tl_eq ix1 tn_0 c130
              exfalso
              omega
            · refine rl_bnd (Q := fun (y z : Int32 × DD) => y.1 = z.1 ∧ (0 ≤ y.1.toInt ∧ y.1.toInt ≤ 0) ∧ Up mu 144 y9_2 y9_2r y.2 z.2) ?_ ?_
              · refine rl_if (fun c131 => ?_) (fun c131 => ?_)
                · have dc131 := tl_eq ix2 tn_2 c131
                  exact rl_some ⟨rfl, (ti_bd iy9_1 (by omega) (by omega)), (up_0 mu (κ := 144) _ _)⟩
                · have dc131 := tl_ne ix2 tn_2 c131
                  exfalso
                  omega
              · rintro ⟨y35_1, y35_2⟩ ⟨y35_1r, y35_2r⟩ ⟨ey35_1, ly35_1, uy35_2⟩
                obtain rfl : y35_1 = y35_1r := ey35_1
                have ly35_1 : 0 ≤ y35_1.toInt ∧ y35_1.toInt ≤ 0 := ly35_1
                have iy35_1 : TI y35_1 (0) := ti_c ly35_1
                have uy35_2 : Up mu 144 y9_2 y9_2r y35_2 y35_2r := uy35_2
                have ty35_2 := cx_up ty9_2 uy35_2
                have wW_y35_2 := wq_up uy35_2 wW_y9_2
                exact rl_some ⟨rfl, (ti_bd iy35_1 (by omega) (by omega)), uy35_2⟩
          · rintro ⟨y10_1, y10_2⟩ ⟨y10_1r, y10_2r⟩ ⟨ey10_1, ly10_1, uy10_2⟩
            obtain rfl : y10_1 = y10_1r := ey10_1
            have ly10_1 : 0 ≤ y10_1.toInt ∧ y10_1.toInt ≤ 0 := ly10_1
            have iy10_1 : TI y10_1 (0) := ti_c ly10_1
            have uy10_2 : Up mu 144 y9_2 y9_2r y10_2 y10_2r := uy10_2
            have ty10_2 := cx_up ty9_2 uy10_2
            have wW_y10_2 := wq_up uy10_2 wW_y9_2
            refine rl_bnd (Q := fun (y z : Int32 × DD) => y.1 = z.1 ∧ (0 ≤ y.1.toInt ∧ y.1.toInt ≤ 0) ∧ Up mu 144 y10_2 y10_2r y.2 z.2) ?_ ?_
            · refine rl_if (fun c132 => ?_) (fun c132 => ?_)
              · have dc132 := tl_eq ix2 tn_0 c132
                exfalso
                omega
              · refine rl_bnd (Q := fun (y z : Int32 × DD) => y.1 = z.1 ∧ (0 ≤ y.1.toInt ∧ y.1.toInt ≤ 0) ∧ Up mu 144 y10_2 y10_2r y.2 z.2) ?_ ?_
                · refine rl_if (fun c133 => ?_) (fun c133 => ?_)
                  · have dc133 := tl_eq ix1 tn_2 c133
                    exact rl_some ⟨rfl, (ti_bd iy10_1 (by omega) (by omega)), (up_0 mu (κ := 144) _ _)⟩
                  · have dc133 := tl_ne ix1 tn_2 c133
                    exfalso
                    omega
                · rintro ⟨y28_1, y28_2⟩ ⟨y28_1r, y28_2r⟩ ⟨ey28_1, ly28_1, uy28_2⟩
                  obtain rfl : y28_1 = y28_1r := ey28_1
                  have ly28_1 : 0 ≤ y28_1.toInt ∧ y28_1.toInt ≤ 0 := ly28_1
                  have iy28_1 : TI y28_1 (0) := ti_c ly28_1
                  have uy28_2 : Up mu 144 y10_2 y10_2r y28_2 y28_2r := uy28_2
                  have ty28_2 := cx_up ty10_2 uy28_2
                  have wW_y28_2 := wq_up uy28_2 wW_y10_2
                  exact rl_some ⟨rfl, (ti_bd iy28_1 (by omega) (by omega)), uy28_2⟩
            · rintro ⟨y11_1, y11_2⟩ ⟨y11_1r, y11_2r⟩ ⟨ey11_1, ly11_1, uy11_2⟩
              obtain rfl : y11_1 = y11_1r := ey11_1
              have ly11_1 : 0 ≤ y11_1.toInt ∧ y11_1.toInt ≤ 0 := ly11_1
              have iy11_1 : TI y11_1 (0) := ti_c ly11_1
              have uy11_2 : Up mu 144 y10_2 y10_2r y11_2 y11_2r := uy11_2
              have ty11_2 := cx_up ty10_2 uy11_2
              have wW_y11_2 := wq_up uy11_2 wW_y10_2
              refine rl_bnd (Q := fun (y z : DD) => Up mu 144 y11_2 y11_2r y z ∧ WG mu y z c4 0 (8 * 8) (fun j => a5 + j / 8 * 16 + j % 8)) ?_ ?_
              · refine rl_if (fun c134 => ?_) (fun c134 => ?_)
                · have dc134 := tl_eq ix1 tn_2 c134
                  refine rl_bnd (Q := fun (y z : DD) => Up mu 144 y11_2 y11_2r y z ∧ WG mu y z c4 0 (8 * 8) (fun j => a5 + j / 8 * 16 + j % 8)) ?_ ?_
                  · refine rl_if (fun c135 => ?_) (fun c135 => ?_)
                    · have dc135 := tl_eq ix2 tn_0 c135
                      exfalso
                      omega
                    · refine rl_bnd (r_tapBoth ty11_2 i3 ⟨rfl, rfl⟩ hc4 i5 (by omega) (by omega) (by omega) wW_y11_2 (fun h => absurd (by first | rfl | assumption | omega) h)) ?_
                      rintro y21 y21r ⟨uy21', vT_y21'⟩
                      have uy21 : Up mu 144 y11_2 y11_2r y21 y21r := uy21'
                      have ty21 := cx_up ty11_2 uy21
                      have wW_y21 := wq_up uy21 wW_y11_2
                      have vT_y21 : WG mu y21 y21r c4 0 (8 * 8) (fun j => a5 + j / 8 * 16 + j % 8) := wg_cs vT_y21' (by omega) (by omega) (fun j h1 h2 => by (try dsimp only) <;> omega)
                      exact rl_some ⟨uy21, vT_y21⟩
                  · rintro y19 y19r ⟨uy19, wT_y19⟩
                    have uy19 : Up mu 144 y11_2 y11_2r y19 y19r := uy19
                    have ty19 := cx_up ty11_2 uy19
                    have wW_y19 := wq_up uy19 wW_y11_2
                    have wT_y19 : WG mu y19 y19r c4 0 (8 * 8) (fun j => a5 + j / 8 * 16 + j % 8) := wT_y19
                    exact rl_some ⟨uy19, wT_y19⟩
                · have dc134 := tl_ne ix1 tn_2 c134
                  exfalso
                  omega
              · rintro y12 y12r ⟨uy12, wT_y12⟩
                have uy12 : Up mu 144 y11_2 y11_2r y12 y12r := uy12
                have ty12 := cx_up ty11_2 uy12
                have wW_y12 := wq_up uy12 wW_y11_2
                have wT_y12 : WG mu y12 y12r c4 0 (8 * 8) (fun j => a5 + j / 8 * 16 + j % 8) := wT_y12
                exact rl_some ⟨(up_tr (up_tr (up_tr (up_tr uy8 uy9_2) uy10_2) uy11_2) uy12), wT_y12⟩
      · clear ix2 zx2
        have ix2 : TI x2 3 := yx2
        refine rl_ltI (av_sar 2 i1 (by decide)) (fun x3 ix3 => ?_)
        refine rl_ltI (av_sub ix3 tn_2 (by omega) (by omega)) (fun x4 ix4 => ?_)
        refine rl_ltI (av_sar 2 i2 (by decide)) (fun x5 ix5 => ?_)
        refine rl_ltI (av_sub ix5 tn_2 (by omega) (by omega)) (fun x6 ix6 => ?_)
        refine rl_ltI (av_add i3 tn_5 (by omega) (by omega)) (fun x7 ix7 => ?_)
        refine rl_bnd (r_fillWindow t ⟨rfl, rfl⟩ hq0 ix7 (by omega) (by omega)) ?_
        rintro y8 y8r ⟨uy8', vW_y8⟩
        have uy8 : Up mu 144 M N y8 y8r := uy8'
        have ty8 := cx_up t uy8
        refine rl_bnd (Q := fun (y z : Int32 × DD) => y.1 = z.1 ∧ (0 ≤ y.1.toInt ∧ y.1.toInt ≤ 0) ∧ Up mu 144 y8 y8r y.2 z.2) ?_ ?_
        · refine rl_if (fun c136 => ?_) (fun c136 => ?_)
          · have dc136 := tl_eq ix2 tn_0 c136
            exfalso
            omega
          · refine rl_bnd (Q := fun (y z : Int32 × DD) => y.1 = z.1 ∧ (0 ≤ y.1.toInt ∧ y.1.toInt ≤ 0) ∧ Up mu 144 y8 y8r y.2 z.2) ?_ ?_
            · refine rl_if (fun c137 => ?_) (fun c137 => ?_)
              · have dc137 := tl_eq ix1 tn_0 c137
                exfalso
                omega
              · exact rl_some ⟨rfl, (ti_bd tn_0 (by omega) (by omega)), (up_0 mu (κ := 144) _ _)⟩
            · rintro ⟨y42_1, y42_2⟩ ⟨y42_1r, y42_2r⟩ ⟨ey42_1, ly42_1, uy42_2⟩
              obtain rfl : y42_1 = y42_1r := ey42_1
              have ly42_1 : 0 ≤ y42_1.toInt ∧ y42_1.toInt ≤ 0 := ly42_1
              have iy42_1 : TI y42_1 (0) := ti_c ly42_1
              have uy42_2 : Up mu 144 y8 y8r y42_2 y42_2r := uy42_2
              have ty42_2 := cx_up ty8 uy42_2
              have wW_y42_2 := wq_up uy42_2 vW_y8
              exact rl_some ⟨rfl, (ti_bd iy42_1 (by omega) (by omega)), uy42_2⟩
        · rintro ⟨y9_1, y9_2⟩ ⟨y9_1r, y9_2r⟩ ⟨ey9_1, ly9_1, uy9_2⟩
          obtain rfl : y9_1 = y9_1r := ey9_1
          have ly9_1 : 0 ≤ y9_1.toInt ∧ y9_1.toInt ≤ 0 := ly9_1
          have iy9_1 : TI y9_1 (0) := ti_c ly9_1
          have uy9_2 : Up mu 144 y8 y8r y9_2 y9_2r := uy9_2
          have ty9_2 := cx_up ty8 uy9_2
          have wW_y9_2 := wq_up uy9_2 vW_y8
          refine rl_bnd (Q := fun (y z : Int32 × DD) => y.1 = z.1 ∧ (1 ≤ y.1.toInt ∧ y.1.toInt ≤ 1) ∧ Up mu 144 y9_2 y9_2r y.2 z.2 ∧ WG mu y.2 z.2 c4 0 (8 * 8) (fun j => a5 + j / 8 * 16 + j % 8)) ?_ ?_
          · refine rl_if (fun c138 => ?_) (fun c138 => ?_)
            · have dc138 := tl_eq ix1 tn_0 c138
              exfalso
              omega
            · refine rl_bnd (Q := fun (y z : Int32 × DD) => y.1 = z.1 ∧ (1 ≤ y.1.toInt ∧ y.1.toInt ≤ 1) ∧ Up mu 144 y9_2 y9_2r y.2 z.2 ∧ WG mu y.2 z.2 c4 0 (8 * 8) (fun j => a5 + j / 8 * 16 + j % 8)) ?_ ?_
              · refine rl_if (fun c139 => ?_) (fun c139 => ?_)
                · have dc139 := tl_eq ix2 tn_2 c139
                  exfalso
                  omega
                · refine rl_bnd (Q := fun (y z : Int32) => y = z ∧ (1 ≤ y.toInt ∧ y.toInt ≤ 1)) ?_ ?_
                  · refine rl_if (fun c140 => ?_) (fun c140 => ?_)
                    · have dc140 := tl_eq ix2 tn_3 c140
                      exact rl_some ⟨rfl, (ti_bd tn_1 (by omega) (by omega))⟩
                    · have dc140 := tl_ne ix2 tn_3 c140
                      exfalso
                      omega
                  · rintro y37 y37r ⟨ey37, ly37⟩
                    obtain rfl : y37 = y37r := ey37
                    have ly37 : 1 ≤ y37.toInt ∧ y37.toInt ≤ 1 := ly37
                    have iy37 : TI y37 (1) := ti_c ly37
                    refine rl_ltI (av_add tn_2 iy37 (by omega) (by omega)) (fun x38 ix38 => ?_)
                    refine rl_bnd (r_tapRows ty9_2 i3 ix38 ⟨rfl, rfl⟩ hc4 i5 (by omega) (by omega) (by omega) (by omega) (by omega) wW_y9_2 (fun h => absurd (by first | rfl | assumption | omega) h)) ?_
                    rintro y39 y39r ⟨uy39', vT_y39'⟩
                    have uy39 : Up mu 144 y9_2 y9_2r y39 y39r := uy39'
                    have ty39 := cx_up ty9_2 uy39
                    have wW_y39 := wq_up uy39 wW_y9_2
                    have vT_y39 : WG mu y39 y39r c4 0 (8 * 8) (fun j => a5 + j / 8 * 16 + j % 8) := wg_cs vT_y39' (by omega) (by omega) (fun j h1 h2 => by (try dsimp only) <;> omega)
                    exact rl_some ⟨rfl, (ti_bd tn_1 (by omega) (by omega)), uy39, vT_y39⟩
              · rintro ⟨y35_1, y35_2⟩ ⟨y35_1r, y35_2r⟩ ⟨ey35_1, ly35_1, uy35_2, wT_y35_2⟩
                obtain rfl : y35_1 = y35_1r := ey35_1
                have ly35_1 : 1 ≤ y35_1.toInt ∧ y35_1.toInt ≤ 1 := ly35_1
                have iy35_1 : TI y35_1 (1) := ti_c ly35_1
                have uy35_2 : Up mu 144 y9_2 y9_2r y35_2 y35_2r := uy35_2
                have ty35_2 := cx_up ty9_2 uy35_2
                have wW_y35_2 := wq_up uy35_2 wW_y9_2
                have wT_y35_2 : WG mu y35_2 y35_2r c4 0 (8 * 8) (fun j => a5 + j / 8 * 16 + j % 8) := wT_y35_2
                exact rl_some ⟨rfl, (ti_bd iy35_1 (by omega) (by omega)), uy35_2, wT_y35_2⟩
          · rintro ⟨y10_1, y10_2⟩ ⟨y10_1r, y10_2r⟩ ⟨ey10_1, ly10_1, uy10_2, wT_y10_2⟩
            obtain rfl : y10_1 = y10_1r := ey10_1
            have ly10_1 : 1 ≤ y10_1.toInt ∧ y10_1.toInt ≤ 1 := ly10_1
            have iy10_1 : TI y10_1 (1) := ti_c ly10_1
            have uy10_2 : Up mu 144 y9_2 y9_2r y10_2 y10_2r := uy10_2
            have ty10_2 := cx_up ty9_2 uy10_2
            have wW_y10_2 := wq_up uy10_2 wW_y9_2
            have wT_y10_2 : WG mu y10_2 y10_2r c4 0 (8 * 8) (fun j => a5 + j / 8 * 16 + j % 8) := wT_y10_2
            refine rl_bnd (Q := fun (y z : Int32 × DD) => y.1 = z.1 ∧ (1 ≤ y.1.toInt ∧ y.1.toInt ≤ 1) ∧ Up mu 144 y10_2 y10_2r y.2 z.2) ?_ ?_
            · refine rl_if (fun c141 => ?_) (fun c141 => ?_)
              · have dc141 := tl_eq ix2 tn_0 c141
                exfalso
                omega
              · refine rl_bnd (Q := fun (y z : Int32 × DD) => y.1 = z.1 ∧ (1 ≤ y.1.toInt ∧ y.1.toInt ≤ 1) ∧ Up mu 144 y10_2 y10_2r y.2 z.2) ?_ ?_
                · refine rl_if (fun c142 => ?_) (fun c142 => ?_)
                  · have dc142 := tl_eq ix1 tn_2 c142
                    exact rl_some ⟨rfl, (ti_bd iy10_1 (by omega) (by omega)), (up_0 mu (κ := 144) _ _)⟩
                  · have dc142 := tl_ne ix1 tn_2 c142
                    exfalso
                    omega
                · rintro ⟨y28_1, y28_2⟩ ⟨y28_1r, y28_2r⟩ ⟨ey28_1, ly28_1, uy28_2⟩
                  obtain rfl : y28_1 = y28_1r := ey28_1
                  have ly28_1 : 1 ≤ y28_1.toInt ∧ y28_1.toInt ≤ 1 := ly28_1
                  have iy28_1 : TI y28_1 (1) := ti_c ly28_1
                  have uy28_2 : Up mu 144 y10_2 y10_2r y28_2 y28_2r := uy28_2
                  have ty28_2 := cx_up ty10_2 uy28_2
                  have wW_y28_2 := wq_up uy28_2 wW_y10_2
                  have wT_y28_2 := wg_up uy28_2 wT_y10_2
                  exact rl_some ⟨rfl, (ti_bd iy28_1 (by omega) (by omega)), uy28_2⟩
            · rintro ⟨y11_1, y11_2⟩ ⟨y11_1r, y11_2r⟩ ⟨ey11_1, ly11_1, uy11_2⟩
              obtain rfl : y11_1 = y11_1r := ey11_1
              have ly11_1 : 1 ≤ y11_1.toInt ∧ y11_1.toInt ≤ 1 := ly11_1
              have iy11_1 : TI y11_1 (1) := ti_c ly11_1
              have uy11_2 : Up mu 144 y10_2 y10_2r y11_2 y11_2r := uy11_2
              have ty11_2 := cx_up ty10_2 uy11_2
              have wW_y11_2 := wq_up uy11_2 wW_y10_2
              have wT_y11_2 := wg_up uy11_2 wT_y10_2
              refine rl_bnd (Q := fun (y z : DD) => Up mu 144 y11_2 y11_2r y z) ?_ ?_
              · refine rl_if (fun c143 => ?_) (fun c143 => ?_)
                · have dc143 := tl_eq ix1 tn_2 c143
                  refine rl_bnd (Q := fun (y z : DD) => Up mu 144 y11_2 y11_2r y z) ?_ ?_
                  · refine rl_if (fun c144 => ?_) (fun c144 => ?_)
                    · have dc144 := tl_eq ix2 tn_0 c144
                      exfalso
                      omega
                    · refine rl_bnd (r_tapBoth ty11_2 i3 ⟨rfl, rfl⟩ hc4 i5 (by omega) (by omega) (by omega) wW_y11_2 (fun _ => wg_cs wT_y11_2 (by omega) (by omega) (fun j h1 h2 => by (try dsimp only) <;> omega))) ?_
                      rintro y21 y21r ⟨uy21', vT_y21'⟩
                      have uy21 : Up mu 144 y11_2 y11_2r y21 y21r := uy21'
                      have ty21 := cx_up ty11_2 uy21
                      have wW_y21 := wq_up uy21 wW_y11_2
                      have wT_y21 := wg_up uy21 wT_y11_2
                      have vT_y21 : WG mu y21 y21r c4 0 (8 * 8) (fun j => a5 + j / 8 * 16 + j % 8) := wg_cs vT_y21' (by omega) (by omega) (fun j h1 h2 => by (try dsimp only) <;> omega)
                      exact rl_some uy21
                  · rintro y19 y19r uy19
                    have uy19 : Up mu 144 y11_2 y11_2r y19 y19r := uy19
                    have ty19 := cx_up ty11_2 uy19
                    have wW_y19 := wq_up uy19 wW_y11_2
                    have wT_y19 := wg_up uy19 wT_y11_2
                    exact rl_some uy19
                · have dc143 := tl_ne ix1 tn_2 c143
                  exfalso
                  omega
              · rintro y12 y12r uy12
                have uy12 : Up mu 144 y11_2 y11_2r y12 y12r := uy12
                have ty12 := cx_up ty11_2 uy12
                have wW_y12 := wq_up uy12 wW_y11_2
                have wT_y12 := wg_up uy12 wT_y11_2
                exact rl_some ⟨(up_tr (up_tr (up_tr (up_tr uy8 uy9_2) uy10_2) uy11_2) uy12), wT_y12⟩
    · clear ix1 zx1
      have ix1 : TI x1 3 := yx1
      refine rl_ltI (av_and 2 i2 (by decide) (by decide)) (fun x2 ix2 => ?_)
      have zx2 : x2.toInt = _ := ix2
      rcases (by omega : x2.toInt = 0 ∨ x2.toInt = 1 ∨ x2.toInt = 2 ∨ x2.toInt = 3) with yx2 | yx2 | yx2 | yx2
      · clear ix2 zx2
        have ix2 : TI x2 0 := yx2
        refine rl_ltI (av_sar 2 i1 (by decide)) (fun x3 ix3 => ?_)
        refine rl_ltI (av_sub ix3 tn_2 (by omega) (by omega)) (fun x4 ix4 => ?_)
        refine rl_ltI (av_sar 2 i2 (by decide)) (fun x5 ix5 => ?_)
        refine rl_ltI (av_sub ix5 tn_2 (by omega) (by omega)) (fun x6 ix6 => ?_)
        refine rl_ltI (av_add i3 tn_5 (by omega) (by omega)) (fun x7 ix7 => ?_)
        refine rl_bnd (r_fillWindow t ⟨rfl, rfl⟩ hq0 ix7 (by omega) (by omega)) ?_
        rintro y8 y8r ⟨uy8', vW_y8⟩
        have uy8 : Up mu 144 M N y8 y8r := uy8'
        have ty8 := cx_up t uy8
        refine rl_bnd (Q := fun (y z : Int32 × DD) => y.1 = z.1 ∧ (1 ≤ y.1.toInt ∧ y.1.toInt ≤ 1) ∧ Up mu 144 y8 y8r y.2 z.2 ∧ WG mu y.2 z.2 c4 0 (8 * 8) (fun j => a5 + j / 8 * 16 + j % 8)) ?_ ?_
        · refine rl_if (fun c145 => ?_) (fun c145 => ?_)
          · have dc145 := tl_eq ix2 tn_0 c145
            refine rl_bnd (Q := fun (y z : Int32 × DD) => y.1 = z.1 ∧ (1 ≤ y.1.toInt ∧ y.1.toInt ≤ 1) ∧ Up mu 144 y8 y8r y.2 z.2 ∧ WG mu y.2 z.2 c4 0 (8 * 8) (fun j => a5 + j / 8 * 16 + j % 8)) ?_ ?_
            · refine rl_if (fun c146 => ?_) (fun c146 => ?_)
              · have dc146 := tl_eq ix1 tn_2 c146
                exfalso
                omega
              · refine rl_bnd (Q := fun (y z : Int32) => y = z ∧ (0 ≤ y.toInt ∧ y.toInt ≤ 0)) ?_ ?_
                · refine rl_if (fun c147 => ?_) (fun c147 => ?_)
                  · have dc147 := tl_eq ix2 tn_3 c147
                    exfalso
                    omega
                  · exact rl_some ⟨rfl, (ti_bd tn_0 (by omega) (by omega))⟩
                · rintro y77 y77r ⟨ey77, ly77⟩
                  obtain rfl : y77 = y77r := ey77
                  have ly77 : 0 ≤ y77.toInt ∧ y77.toInt ≤ 0 := ly77
                  have iy77 : TI y77 (0) := ti_c ly77
                  have ky77 : y77.toInt = _ := iy77
                  refine rl_ltI (av_add tn_2 iy77 (by omega) (by omega)) (fun x78 ix78 => ?_)
                  refine rl_ltI (av_mul ix78 tn_21 (by omega) (by omega)) (fun x79 ix79 => ?_)
                  refine rl_ltI (av_add ix79 tn_2 (by omega) (by omega)) (fun x80 ix80 => ?_)
                  refine rl_bnd (Q := fun (y z : Int32) => y = z ∧ (1 ≤ y.toInt ∧ y.toInt ≤ 1)) ?_ ?_
                  · refine rl_if (fun c148 => ?_) (fun c148 => ?_)
                    · have dc148 := tl_eq ix1 tn_3 c148
                      exact rl_some ⟨rfl, (ti_bd tn_1 (by omega) (by omega))⟩
                    · have dc148 := tl_ne ix1 tn_3 c148
                      exfalso
                      omega
                  · rintro y81 y81r ⟨ey81, ly81⟩
                    obtain rfl : y81 = y81r := ey81
                    have ly81 : 1 ≤ y81.toInt ∧ y81.toInt ≤ 1 := ly81
                    have iy81 : TI y81 (1) := ti_c ly81
                    have ky81 : y81.toInt = _ := iy81
                    refine rl_ltI (av_add ix80 iy81 (by omega) (by omega)) (fun x82 ix82 => ?_)
                    refine rl_bnd (Q := fun (y z : Int32 × DD) => y.1 = z.1 ∧ (0 ≤ y.1.toInt ∧ y.1.toInt ≤ (8 * 8)) ∧ Up mu 144 y8 y8r y.2 z.2 ∧ WG mu y.2 z.2 c4 (0) (8 * 8) (fun j => a5 + j / 8 * 16 + j % 8)) (rl_itr (fun (y z : Int32 × DD) => y.1 = z.1 ∧ (0 ≤ y.1.toInt ∧ y.1.toInt ≤ (8 * 8)) ∧ Up mu 144 y8 y8r y.2 z.2 ∧ WG mu y.2 z.2 c4 (0) (y.1.toInt) (fun j => a5 + j / 8 * 16 + j % 8)) _ ?_ _ _ _ ?_) ?_
                    · rintro ⟨s84_1, s84_2⟩ ⟨s84_1r, s84_2r⟩ ⟨es84_1, ls84_1, us84_2, vT_s84_2⟩
                      obtain rfl : s84_1 = s84_1r := es84_1
                      have ls84_1 : 0 ≤ s84_1.toInt ∧ s84_1.toInt ≤ (8 * 8) := ls84_1
                      have is84_1 : TI s84_1 s84_1.toInt := rfl
                      have us84_2 : Up mu 144 y8 y8r s84_2 s84_2r := us84_2
                      have ts84_2 := cx_up ty8 us84_2
                      have wW_s84_2 := wq_up us84_2 vW_y8
                      have vT_s84_2 : WG mu s84_2 s84_2r c4 (0) (s84_1.toInt) (fun j => a5 + j / 8 * 16 + j % 8) := vT_s84_2
                      refine rl_ltI (av_mul i3 i3 (by omega) (by omega)) (fun x87 ix87 => ?_)
                      refine rl_if (fun c149 => ?_) (fun c149 => ?_)
                      · have dc149 := tl_le ix87 is84_1 c149
                        exact rl_inr ⟨rfl, (ti_bd is84_1 (by omega) (by omega)), us84_2, (wg_sub vT_s84_2 (by omega) (by omega))⟩
                      · have dc149 := tl_nle ix87 is84_1 c149
                        refine rl_chk (fun h => h) (fun k150 => ?_)
                        refine rl_ltI (av_div is84_1 i3 (by omega) (by omega)) (fun x89 ix89 => ?_)
                        refine rl_ltI (av_mul ix89 tn_16 (by omega) (by omega)) (fun x90 ix90 => ?_)
                        refine rl_ltI (av_add i5 ix90 (by omega) (by omega)) (fun x91 ix91 => ?_)
                        refine rl_chk (fun h => h) (fun k151 => ?_)
                        refine rl_ltI (av_mod is84_1 i3 (by omega) (by omega)) (fun x92 ix92 => ?_)
                        refine rl_ltI (av_add ix91 ix92 (by omega) (by omega)) (fun x93 ix93 => ?_)
                        refine rl_chk (fun h => h) (fun k152 => ?_)
                        refine rl_ltI (av_div is84_1 i3 (by omega) (by omega)) (fun x94 ix94 => ?_)
                        refine rl_ltI (av_mul ix94 tn_21 (by omega) (by omega)) (fun x95 ix95 => ?_)
                        refine rl_ltI (av_add ix82 ix95 (by omega) (by omega)) (fun x96 ix96 => ?_)
                        refine rl_chk (fun h => h) (fun k153 => ?_)
                        refine rl_ltI (av_mod is84_1 i3 (by omega) (by omega)) (fun x97 ix97 => ?_)
                        refine rl_ltI (av_add ix96 ix97 (by omega) (by omega)) (fun x98 ix98 => ?_)
                        refine rl_dr (cx_U ts84_2) (rx_c (a := 138) (k := 3) (b := 142) ts84_2 (Or.inr (Or.inl rfl)) rfl (by decide)) (fun gb99 => ?_)
                        refine rl_chk (chkl (cx_U ts84_2) gb99) (fun k154 => ?_)
                        refine rl_rd (wq_use wW_s84_2 ix98 (s84_1.toInt / 8 + 2 + y77.toInt) (s84_1.toInt % 8 + 2 + y81.toInt) (by omega) (by omega) (by omega) (by omega) (by (try dsimp only) <;> omega)) (fun x100 => ?_)
                        refine rl_dr (cx_U ts84_2) ⟨rfl, rfl⟩ (fun gb101 => ?_)
                        refine rl_chk (chkl (cx_U ts84_2) gb101) (fun k155 => ?_)
                        refine rl_w (κ := 144) (cx_U ts84_2) (by rcases hc4 with h | h <;> omega) (fun M102 M102r uM102 AM102 nM102 => ?_)
                        have tM102 := cx_up ts84_2 uM102
                        have wW_M102 := wq_up uM102 wW_s84_2
                        have wT_M102 := wg_up uM102 vT_s84_2
                        refine rl_ltI (av_add is84_1 tn_1 (by omega) (by omega)) (fun x103 ix103 => ?_)
                        exact rl_inl ⟨rfl, (ti_bd ix103 (by omega) (by omega)), (up_tr us84_2 uM102), (wg_ext wT_M102 ix93 (ag_up (up_0 mu (κ := 144) _ _) AM102) (by (try dsimp only) <;> omega) (by have q : _ = _ := ix103; (try dsimp only) <;> omega))⟩
                    · exact ⟨rfl, (ti_bd tn_0 (by omega) (by omega)), (up_0 mu (κ := 144) _ _), (wg_0 (by have q : _ = _ := tn_0; (try dsimp only) <;> omega))⟩
                    · rintro ⟨y83_1, y83_2⟩ ⟨y83_1r, y83_2r⟩ ⟨ey83_1, ly83_1, uy83_2, vT_y83_2⟩
                      obtain rfl : y83_1 = y83_1r := ey83_1
                      have ly83_1 : 0 ≤ y83_1.toInt ∧ y83_1.toInt ≤ (8 * 8) := ly83_1
                      have iy83_1 : TI y83_1 y83_1.toInt := rfl
                      have uy83_2 : Up mu 144 y8 y8r y83_2 y83_2r := uy83_2
                      have ty83_2 := cx_up ty8 uy83_2
                      have wW_y83_2 := wq_up uy83_2 vW_y8
                      have vT_y83_2 : WG mu y83_2 y83_2r c4 (0) (8 * 8) (fun j => a5 + j / 8 * 16 + j % 8) := vT_y83_2
                      exact rl_some ⟨rfl, (ti_bd tn_1 (by omega) (by omega)), uy83_2, vT_y83_2⟩
            · rintro ⟨y75_1, y75_2⟩ ⟨y75_1r, y75_2r⟩ ⟨ey75_1, ly75_1, uy75_2, wT_y75_2⟩
              obtain rfl : y75_1 = y75_1r := ey75_1
              have ly75_1 : 1 ≤ y75_1.toInt ∧ y75_1.toInt ≤ 1 := ly75_1
              have iy75_1 : TI y75_1 (1) := ti_c ly75_1
              have uy75_2 : Up mu 144 y8 y8r y75_2 y75_2r := uy75_2
              have ty75_2 := cx_up ty8 uy75_2
              have wW_y75_2 := wq_up uy75_2 vW_y8
              have wT_y75_2 : WG mu y75_2 y75_2r c4 0 (8 * 8) (fun j => a5 + j / 8 * 16 + j % 8) := wT_y75_2
              exact rl_some ⟨rfl, (ti_bd iy75_1 (by omega) (by omega)), uy75_2, wT_y75_2⟩
          · have dc145 := tl_ne ix2 tn_0 c145
            exfalso
            omega
        · rintro ⟨y9_1, y9_2⟩ ⟨y9_1r, y9_2r⟩ ⟨ey9_1, ly9_1, uy9_2, wT_y9_2⟩
          obtain rfl : y9_1 = y9_1r := ey9_1
          have ly9_1 : 1 ≤ y9_1.toInt ∧ y9_1.toInt ≤ 1 := ly9_1
          have iy9_1 : TI y9_1 (1) := ti_c ly9_1
          have uy9_2 : Up mu 144 y8 y8r y9_2 y9_2r := uy9_2
          have ty9_2 := cx_up ty8 uy9_2
          have wW_y9_2 := wq_up uy9_2 vW_y8
          have wT_y9_2 : WG mu y9_2 y9_2r c4 0 (8 * 8) (fun j => a5 + j / 8 * 16 + j % 8) := wT_y9_2
          refine rl_bnd (Q := fun (y z : Int32 × DD) => y.1 = z.1 ∧ (1 ≤ y.1.toInt ∧ y.1.toInt ≤ 1) ∧ Up mu 144 y9_2 y9_2r y.2 z.2) ?_ ?_
          · refine rl_if (fun c156 => ?_) (fun c156 => ?_)
            · have dc156 := tl_eq ix1 tn_0 c156
              exfalso
              omega
            · refine rl_bnd (Q := fun (y z : Int32 × DD) => y.1 = z.1 ∧ (1 ≤ y.1.toInt ∧ y.1.toInt ≤ 1) ∧ Up mu 144 y9_2 y9_2r y.2 z.2) ?_ ?_
              · refine rl_if (fun c157 => ?_) (fun c157 => ?_)
                · have dc157 := tl_eq ix2 tn_2 c157
                  exfalso
                  omega
                · refine rl_bnd (Q := fun (y z : Int32) => y = z ∧ (0 ≤ y.toInt ∧ y.toInt ≤ 0)) ?_ ?_
                  · refine rl_if (fun c158 => ?_) (fun c158 => ?_)
                    · have dc158 := tl_eq ix2 tn_3 c158
                      exfalso
                      omega
                    · exact rl_some ⟨rfl, (ti_bd tn_0 (by omega) (by omega))⟩
                  · rintro y37 y37r ⟨ey37, ly37⟩
                    obtain rfl : y37 = y37r := ey37
                    have ly37 : 0 ≤ y37.toInt ∧ y37.toInt ≤ 0 := ly37
                    have iy37 : TI y37 (0) := ti_c ly37
                    refine rl_ltI (av_add tn_2 iy37 (by omega) (by omega)) (fun x38 ix38 => ?_)
                    refine rl_bnd (r_tapRows ty9_2 i3 ix38 ⟨rfl, rfl⟩ hc4 i5 (by omega) (by omega) (by omega) (by omega) (by omega) wW_y9_2 (fun _ => wg_cs wT_y9_2 (by omega) (by omega) (fun j h1 h2 => by (try dsimp only) <;> omega))) ?_
                    rintro y39 y39r ⟨uy39', vT_y39'⟩
                    have uy39 : Up mu 144 y9_2 y9_2r y39 y39r := uy39'
                    have ty39 := cx_up ty9_2 uy39
                    have wW_y39 := wq_up uy39 wW_y9_2
                    have wT_y39 := wg_up uy39 wT_y9_2
                    have vT_y39 : WG mu y39 y39r c4 0 (8 * 8) (fun j => a5 + j / 8 * 16 + j % 8) := wg_cs vT_y39' (by omega) (by omega) (fun j h1 h2 => by (try dsimp only) <;> omega)
                    exact rl_some ⟨rfl, (ti_bd tn_1 (by omega) (by omega)), uy39⟩
              · rintro ⟨y35_1, y35_2⟩ ⟨y35_1r, y35_2r⟩ ⟨ey35_1, ly35_1, uy35_2⟩
                obtain rfl : y35_1 = y35_1r := ey35_1
                have ly35_1 : 1 ≤ y35_1.toInt ∧ y35_1.toInt ≤ 1 := ly35_1
                have iy35_1 : TI y35_1 (1) := ti_c ly35_1
                have uy35_2 : Up mu 144 y9_2 y9_2r y35_2 y35_2r := uy35_2
                have ty35_2 := cx_up ty9_2 uy35_2
                have wW_y35_2 := wq_up uy35_2 wW_y9_2
                have wT_y35_2 := wg_up uy35_2 wT_y9_2
                exact rl_some ⟨rfl, (ti_bd iy35_1 (by omega) (by omega)), uy35_2⟩
          · rintro ⟨y10_1, y10_2⟩ ⟨y10_1r, y10_2r⟩ ⟨ey10_1, ly10_1, uy10_2⟩
            obtain rfl : y10_1 = y10_1r := ey10_1
            have ly10_1 : 1 ≤ y10_1.toInt ∧ y10_1.toInt ≤ 1 := ly10_1
            have iy10_1 : TI y10_1 (1) := ti_c ly10_1
            have uy10_2 : Up mu 144 y9_2 y9_2r y10_2 y10_2r := uy10_2
            have ty10_2 := cx_up ty9_2 uy10_2
            have wW_y10_2 := wq_up uy10_2 wW_y9_2
            have wT_y10_2 := wg_up uy10_2 wT_y9_2
            refine rl_bnd (Q := fun (y z : Int32 × DD) => y.1 = z.1 ∧ (1 ≤ y.1.toInt ∧ y.1.toInt ≤ 1) ∧ Up mu 144 y10_2 y10_2r y.2 z.2) ?_ ?_
            · refine rl_if (fun c159 => ?_) (fun c159 => ?_)
              · have dc159 := tl_eq ix2 tn_0 c159
                exact rl_some ⟨rfl, (ti_bd iy10_1 (by omega) (by omega)), (up_0 mu (κ := 144) _ _)⟩
              · have dc159 := tl_ne ix2 tn_0 c159
                exfalso
                omega
            · rintro ⟨y11_1, y11_2⟩ ⟨y11_1r, y11_2r⟩ ⟨ey11_1, ly11_1, uy11_2⟩
              obtain rfl : y11_1 = y11_1r := ey11_1
              have ly11_1 : 1 ≤ y11_1.toInt ∧ y11_1.toInt ≤ 1 := ly11_1
              have iy11_1 : TI y11_1 (1) := ti_c ly11_1
              have uy11_2 : Up mu 144 y10_2 y10_2r y11_2 y11_2r := uy11_2
              have ty11_2 := cx_up ty10_2 uy11_2
              have wW_y11_2 := wq_up uy11_2 wW_y10_2
              have wT_y11_2 := wg_up uy11_2 wT_y10_2
              refine rl_bnd (Q := fun (y z : DD) => Up mu 144 y11_2 y11_2r y z) ?_ ?_
              · refine rl_if (fun c160 => ?_) (fun c160 => ?_)
                · have dc160 := tl_eq ix1 tn_2 c160
                  exfalso
                  omega
                · refine rl_bnd (Q := fun (y z : DD) => Up mu 144 y11_2 y11_2r y z) ?_ ?_
                  · refine rl_if (fun c161 => ?_) (fun c161 => ?_)
                    · have dc161 := tl_eq ix2 tn_2 c161
                      exfalso
                      omega
                    · exact rl_some (up_0 mu (κ := 144) _ _)
                  · rintro y14 y14r uy14
                    have uy14 : Up mu 144 y11_2 y11_2r y14 y14r := uy14
                    have ty14 := cx_up ty11_2 uy14
                    have wW_y14 := wq_up uy14 wW_y11_2
                    have wT_y14 := wg_up uy14 wT_y11_2
                    exact rl_some uy14
              · rintro y12 y12r uy12
                have uy12 : Up mu 144 y11_2 y11_2r y12 y12r := uy12
                have ty12 := cx_up ty11_2 uy12
                have wW_y12 := wq_up uy12 wW_y11_2
                have wT_y12 := wg_up uy12 wT_y11_2
                exact rl_some ⟨(up_tr (up_tr (up_tr (up_tr uy8 uy9_2) uy10_2) uy11_2) uy12), wT_y12⟩
      · clear ix2 zx2
        have ix2 : TI x2 1 := yx2
        refine rl_ltI (av_sar 2 i1 (by decide)) (fun x3 ix3 => ?_)
        refine rl_ltI (av_sub ix3 tn_2 (by omega) (by omega)) (fun x4 ix4 => ?_)
        refine rl_ltI (av_sar 2 i2 (by decide)) (fun x5 ix5 => ?_)
        refine rl_ltI (av_sub ix5 tn_2 (by omega) (by omega)) (fun x6 ix6 => ?_)
        refine rl_ltI (av_add i3 tn_5 (by omega) (by omega)) (fun x7 ix7 => ?_)
        refine rl_bnd (r_fillWindow t ⟨rfl, rfl⟩ hq0 ix7 (by omega) (by omega)) ?_
        rintro y8 y8r ⟨uy8', vW_y8⟩
        have uy8 : Up mu 144 M N y8 y8r := uy8'
        have ty8 := cx_up t uy8
        refine rl_bnd (Q := fun (y z : Int32 × DD) => y.1 = z.1 ∧ (0 ≤ y.1.toInt ∧ y.1.toInt ≤ 0) ∧ Up mu 144 y8 y8r y.2 z.2) ?_ ?_
        · refine rl_if (fun c162 => ?_) (fun c162 => ?_)
          · have dc162 := tl_eq ix2 tn_0 c162
            exfalso
            omega
          · refine rl_bnd (Q := fun (y z : Int32 × DD) => y.1 = z.1 ∧ (0 ≤ y.1.toInt ∧ y.1.toInt ≤ 0) ∧ Up mu 144 y8 y8r y.2 z.2) ?_ ?_
            · refine rl_if (fun c163 => ?_) (fun c163 => ?_)
              · have dc163 := tl_eq ix1 tn_0 c163
                exfalso
                omega
              · exact rl_some ⟨rfl, (ti_bd tn_0 (by omega) (by omega)), (up_0 mu (κ := 144) _ _)⟩
            · rintro ⟨y42_1, y42_2⟩ ⟨y42_1r, y42_2r⟩ ⟨ey42_1, ly42_1, uy42_2⟩
              obtain rfl : y42_1 = y42_1r := ey42_1
              have ly42_1 : 0 ≤ y42_1.toInt ∧ y42_1.toInt ≤ 0 := ly42_1
              have iy42_1 : TI y42_1 (0) := ti_c ly42_1
              have uy42_2 : Up mu 144 y8 y8r y42_2 y42_2r := uy42_2
              have ty42_2 := cx_up ty8 uy42_2
              have wW_y42_2 := wq_up uy42_2 vW_y8
              exact rl_some ⟨rfl, (ti_bd iy42_1 (by omega) (by omega)), uy42_2⟩
        · rintro ⟨y9_1, y9_2⟩ ⟨y9_1r, y9_2r⟩ ⟨ey9_1, ly9_1, uy9_2⟩
          obtain rfl : y9_1 = y9_1r := ey9_1
          have ly9_1 : 0 ≤ y9_1.toInt ∧ y9_1.toInt ≤ 0 := ly9_1
          have iy9_1 : TI y9_1 (0) := ti_c ly9_1
          have uy9_2 : Up mu 144 y8 y8r y9_2 y9_2r := uy9_2
          have ty9_2 := cx_up ty8 uy9_2
          have wW_y9_2 := wq_up uy9_2 vW_y8
          refine rl_bnd (Q := fun (y z : Int32 × DD) => y.1 = z.1 ∧ (1 ≤ y.1.toInt ∧ y.1.toInt ≤ 1) ∧ Up mu 144 y9_2 y9_2r y.2 z.2 ∧ WG mu y.2 z.2 c4 0 (8 * 8) (fun j => a5 + j / 8 * 16 + j % 8)) ?_ ?_
          · refine rl_if (fun c164 => ?_) (fun c164 => ?_)
            · have dc164 := tl_eq ix1 tn_0 c164
              exfalso
              omega
            · refine rl_bnd (Q := fun (y z : Int32 × DD) => y.1 = z.1 ∧ (1 ≤ y.1.toInt ∧ y.1.toInt ≤ 1) ∧ Up mu 144 y9_2 y9_2r y.2 z.2 ∧ WG mu y.2 z.2 c4 0 (8 * 8) (fun j => a5 + j / 8 * 16 + j % 8)) ?_ ?_
              · refine rl_if (fun c165 => ?_) (fun c165 => ?_)
                · have dc165 := tl_eq ix2 tn_2 c165
                  exfalso
                  omega
                · refine rl_bnd (Q := fun (y z : Int32) => y = z ∧ (0 ≤ y.toInt ∧ y.toInt ≤ 0)) ?_ ?_
                  · refine rl_if (fun c166 => ?_) (fun c166 => ?_)
                    · have dc166 := tl_eq ix2 tn_3 c166
                      exfalso
                      omega
                    · exact rl_some ⟨rfl, (ti_bd tn_0 (by omega) (by omega))⟩
                  · rintro y37 y37r ⟨ey37, ly37⟩
                    obtain rfl : y37 = y37r := ey37
                    have ly37 : 0 ≤ y37.toInt ∧ y37.toInt ≤ 0 := ly37
                    have iy37 : TI y37 (0) := ti_c ly37
                    refine rl_ltI (av_add tn_2 iy37 (by omega) (by omega)) (fun x38 ix38 => ?_)
                    refine rl_bnd (r_tapRows ty9_2 i3 ix38 ⟨rfl, rfl⟩ hc4 i5 (by omega) (by omega) (by omega) (by omega) (by omega) wW_y9_2 (fun h => absurd (by first | rfl | assumption | omega) h)) ?_
                    rintro y39 y39r ⟨uy39', vT_y39'⟩
                    have uy39 : Up mu 144 y9_2 y9_2r y39 y39r := uy39'
                    have ty39 := cx_up ty9_2 uy39
                    have wW_y39 := wq_up uy39 wW_y9_2
                    have vT_y39 : WG mu y39 y39r c4 0 (8 * 8) (fun j => a5 + j / 8 * 16 + j % 8) := wg_cs vT_y39' (by omega) (by omega) (fun j h1 h2 => by (try dsimp only) <;> omega)
                    exact rl_some ⟨rfl, (ti_bd tn_1 (by omega) (by omega)), uy39, vT_y39⟩
              · rintro ⟨y35_1, y35_2⟩ ⟨y35_1r, y35_2r⟩ ⟨ey35_1, ly35_1, uy35_2, wT_y35_2⟩
                obtain rfl : y35_1 = y35_1r := ey35_1
                have ly35_1 : 1 ≤ y35_1.toInt ∧ y35_1.toInt ≤ 1 := ly35_1
                have iy35_1 : TI y35_1 (1) := ti_c ly35_1
                have uy35_2 : Up mu 144 y9_2 y9_2r y35_2 y35_2r := uy35_2
                have ty35_2 := cx_up ty9_2 uy35_2
                have wW_y35_2 := wq_up uy35_2 wW_y9_2
                have wT_y35_2 : WG mu y35_2 y35_2r c4 0 (8 * 8) (fun j => a5 + j / 8 * 16 + j % 8) := wT_y35_2
                exact rl_some ⟨rfl, (ti_bd iy35_1 (by omega) (by omega)), uy35_2, wT_y35_2⟩
          · rintro ⟨y10_1, y10_2⟩ ⟨y10_1r, y10_2r⟩ ⟨ey10_1, ly10_1, uy10_2, wT_y10_2⟩
            obtain rfl : y10_1 = y10_1r := ey10_1
            have ly10_1 : 1 ≤ y10_1.toInt ∧ y10_1.toInt ≤ 1 := ly10_1
            have iy10_1 : TI y10_1 (1) := ti_c ly10_1
            have uy10_2 : Up mu 144 y9_2 y9_2r y10_2 y10_2r := uy10_2
            have ty10_2 := cx_up ty9_2 uy10_2
            have wW_y10_2 := wq_up uy10_2 wW_y9_2
            have wT_y10_2 : WG mu y10_2 y10_2r c4 0 (8 * 8) (fun j => a5 + j / 8 * 16 + j % 8) := wT_y10_2
            refine rl_bnd (Q := fun (y z : Int32 × DD) => y.1 = z.1 ∧ (1 ≤ y.1.toInt ∧ y.1.toInt ≤ 1) ∧ Up mu 144 y10_2 y10_2r y.2 z.2) ?_ ?_
            · refine rl_if (fun c167 => ?_) (fun c167 => ?_)
              · have dc167 := tl_eq ix2 tn_0 c167
                exfalso
                omega
              · refine rl_bnd (Q := fun (y z : Int32 × DD) => y.1 = z.1 ∧ (1 ≤ y.1.toInt ∧ y.1.toInt ≤ 1) ∧ Up mu 144 y10_2 y10_2r y.2 z.2) ?_ ?_
                · refine rl_if (fun c168 => ?_) (fun c168 => ?_)
                  · have dc168 := tl_eq ix1 tn_2 c168
                    exfalso
                    omega
                  · refine rl_bnd (Q := fun (y z : Int32) => y = z ∧ (1 ≤ y.toInt ∧ y.toInt ≤ 1)) ?_ ?_
                    · refine rl_if (fun c169 => ?_) (fun c169 => ?_)
                      · have dc169 := tl_eq ix1 tn_3 c169
                        exact rl_some ⟨rfl, (ti_bd tn_1 (by omega) (by omega))⟩
                      · have dc169 := tl_ne ix1 tn_3 c169
                        exfalso
                        omega
                    · rintro y30 y30r ⟨ey30, ly30⟩
                      obtain rfl : y30 = y30r := ey30
                      have ly30 : 1 ≤ y30.toInt ∧ y30.toInt ≤ 1 := ly30
                      have iy30 : TI y30 (1) := ti_c ly30
                      refine rl_ltI (av_add tn_2 iy30 (by omega) (by omega)) (fun x31 ix31 => ?_)
                      refine rl_bnd (r_tapColumns ty10_2 i3 ix31 ⟨rfl, rfl⟩ hc4 i5 (by omega) (by omega) (by omega) (by omega) (by omega) wW_y10_2 (fun _ => wg_cs wT_y10_2 (by omega) (by omega) (fun j h1 h2 => by (try dsimp only) <;> omega))) ?_
                      rintro y32 y32r ⟨uy32', vT_y32'⟩
                      have uy32 : Up mu 144 y10_2 y10_2r y32 y32r := uy32'
                      have ty32 := cx_up ty10_2 uy32
                      have wW_y32 := wq_up uy32 wW_y10_2
                      have wT_y32 := wg_up uy32 wT_y10_2
                      have vT_y32 : WG mu y32 y32r c4 0 (8 * 8) (fun j => a5 + j / 8 * 16 + j % 8) := wg_cs vT_y32' (by omega) (by omega) (fun j h1 h2 => by (try dsimp only) <;> omega)
                      exact rl_some ⟨rfl, (ti_bd tn_1 (by omega) (by omega)), uy32⟩
                · rintro ⟨y28_1, y28_2⟩ ⟨y28_1r, y28_2r⟩ ⟨ey28_1, ly28_1, uy28_2⟩
                  obtain rfl : y28_1 = y28_1r := ey28_1
                  have ly28_1 : 1 ≤ y28_1.toInt ∧ y28_1.toInt ≤ 1 := ly28_1
                  have iy28_1 : TI y28_1 (1) := ti_c ly28_1
                  have uy28_2 : Up mu 144 y10_2 y10_2r y28_2 y28_2r := uy28_2
                  have ty28_2 := cx_up ty10_2 uy28_2
                  have wW_y28_2 := wq_up uy28_2 wW_y10_2
                  have wT_y28_2 := wg_up uy28_2 wT_y10_2
                  exact rl_some ⟨rfl, (ti_bd iy28_1 (by omega) (by omega)), uy28_2⟩
            · rintro ⟨y11_1, y11_2⟩ ⟨y11_1r, y11_2r⟩ ⟨ey11_1, ly11_1, uy11_2⟩
              obtain rfl : y11_1 = y11_1r := ey11_1
              have ly11_1 : 1 ≤ y11_1.toInt ∧ y11_1.toInt ≤ 1 := ly11_1
              have iy11_1 : TI y11_1 (1) := ti_c ly11_1
              have uy11_2 : Up mu 144 y10_2 y10_2r y11_2 y11_2r := uy11_2
              have ty11_2 := cx_up ty10_2 uy11_2
              have wW_y11_2 := wq_up uy11_2 wW_y10_2
              have wT_y11_2 := wg_up uy11_2 wT_y10_2
              refine rl_bnd (Q := fun (y z : DD) => Up mu 144 y11_2 y11_2r y z) ?_ ?_
              · refine rl_if (fun c170 => ?_) (fun c170 => ?_)
                · have dc170 := tl_eq ix1 tn_2 c170
                  exfalso
                  omega
                · refine rl_bnd (Q := fun (y z : DD) => Up mu 144 y11_2 y11_2r y z) ?_ ?_
                  · refine rl_if (fun c171 => ?_) (fun c171 => ?_)
                    · have dc171 := tl_eq ix2 tn_2 c171
                      exfalso
                      omega
                    · exact rl_some (up_0 mu (κ := 144) _ _)
                  · rintro y14 y14r uy14
                    have uy14 : Up mu 144 y11_2 y11_2r y14 y14r := uy14
                    have ty14 := cx_up ty11_2 uy14
                    have wW_y14 := wq_up uy14 wW_y11_2
                    have wT_y14 := wg_up uy14 wT_y11_2
                    exact rl_some uy14
              · rintro y12 y12r uy12
                have uy12 : Up mu 144 y11_2 y11_2r y12 y12r := uy12
                have ty12 := cx_up ty11_2 uy12
                have wW_y12 := wq_up uy12 wW_y11_2
                have wT_y12 := wg_up uy12 wT_y11_2
                exact rl_some ⟨(up_tr (up_tr (up_tr (up_tr uy8 uy9_2) uy10_2) uy11_2) uy12), wT_y12⟩
      · clear ix2 zx2
        have ix2 : TI x2 2 := yx2
        refine rl_ltI (av_sar 2 i1 (by decide)) (fun x3 ix3 => ?_)
        refine rl_ltI (av_sub ix3 tn_2 (by omega) (by omega)) (fun x4 ix4 => ?_)
        refine rl_ltI (av_sar 2 i2 (by decide)) (fun x5 ix5 => ?_)
        refine rl_ltI (av_sub ix5 tn_2 (by omega) (by omega)) (fun x6 ix6 => ?_)
        refine rl_ltI (av_add i3 tn_5 (by omega) (by omega)) (fun x7 ix7 => ?_)
        refine rl_bnd (r_fillWindow t ⟨rfl, rfl⟩ hq0 ix7 (by omega) (by omega)) ?_
        rintro y8 y8r ⟨uy8', vW_y8⟩
        have uy8 : Up mu 144 M N y8 y8r := uy8'
        have ty8 := cx_up t uy8
        refine rl_bnd (Q := fun (y z : Int32 × DD) => y.1 = z.1 ∧ (0 ≤ y.1.toInt ∧ y.1.toInt ≤ 0) ∧ Up mu 144 y8 y8r y.2 z.2) ?_ ?_
        · refine rl_if (fun c172 => ?_) (fun c172 => ?_)
          · have dc172 := tl_eq ix2 tn_0 c172
            exfalso
            omega
          · refine rl_bnd (Q := fun (y z : Int32 × DD) => y.1 = z.1 ∧ (0 ≤ y.1.toInt ∧ y.1.toInt ≤ 0) ∧ Up mu 144 y8 y8r y.2 z.2) ?_ ?_
            · refine rl_if (fun c173 => ?_) (fun c173 => ?_)
              · have dc173 := tl_eq ix1 tn_0 c173
                exfalso
                omega
              · exact rl_some ⟨rfl, (ti_bd tn_0 (by omega) (by omega)), (up_0 mu (κ := 144) _ _)⟩
            · rintro ⟨y42_1, y42_2⟩ ⟨y42_1r, y42_2r⟩ ⟨ey42_1, ly42_1, uy42_2⟩
              obtain rfl : y42_1 = y42_1r := ey42_1
              have ly42_1 : 0 ≤ y42_1.toInt ∧ y42_1.toInt ≤ 0 := ly42_1
              have iy42_1 : TI y42_1 (0) := ti_c ly42_1
              have uy42_2 : Up mu 144 y8 y8r y42_2 y42_2r := uy42_2
              have ty42_2 := cx_up ty8 uy42_2
              have wW_y42_2 := wq_up uy42_2 vW_y8
              exact rl_some ⟨rfl, (ti_bd iy42_1 (by omega) (by omega)), uy42_2⟩
        · rintro ⟨y9_1, y9_2⟩ ⟨y9_1r, y9_2r⟩ ⟨ey9_1, ly9_1, uy9_2⟩
          obtain rfl : y9_1 = y9_1r := ey9_1
          have ly9_1 : 0 ≤ y9_1.toInt ∧ y9_1.toInt ≤ 0 := ly9_1
          have iy9_1 : TI y9_1 (0) := ti_c ly9_1
          have uy9_2 : Up mu 144 y8 y8r y9_2 y9_2r := uy9_2
          have ty9_2 := cx_up ty8 uy9_2
          have wW_y9_2 := wq_up uy9_2 vW_y8
          refine rl_bnd (Q := fun (y z : Int32 × DD) => y.1 = z.1 ∧ (0 ≤ y.1.toInt ∧ y.1.toInt ≤ 0) ∧ Up mu 144 y9_2 y9_2r y.2 z.2) ?_ ?_
          · refine rl_if (fun c174 => ?_) (fun c174 => ?_)
            · have dc174 := tl_eq ix1 tn_0 c174
              exfalso
              omega
            · refine rl_bnd (Q := fun (y z : Int32 × DD) => y.1 = z.1 ∧ (0 ≤ y.1.toInt ∧ y.1.toInt ≤ 0) ∧ Up mu 144 y9_2 y9_2r y.2 z.2) ?_ ?_
              · refine rl_if (fun c175 => ?_) (fun c175 => ?_)
                · have dc175 := tl_eq ix2 tn_2 c175
                  exact rl_some ⟨rfl, (ti_bd iy9_1 (by omega) (by omega)), (up_0 mu (κ := 144) _ _)⟩
                · have dc175 := tl_ne ix2 tn_2 c175
                  exfalso
                  omega
              · rintro ⟨y35_1, y35_2⟩ ⟨y35_1r, y35_2r⟩ ⟨ey35_1, ly35_1, uy35_2⟩
                obtain rfl : y35_1 = y35_1r := ey35_1
                have ly35_1 : 0 ≤ y35_1.toInt ∧ y35_1.toInt ≤ 0 := ly35_1
                have iy35_1 : TI y35_1 (0) := ti_c ly35_1
                have uy35_2 : Up mu 144 y9_2 y9_2r y35_2 y35_2r := uy35_2
                have ty35_2 := cx_up ty9_2 uy35_2
                have wW_y35_2 := wq_up uy35_2 wW_y9_2
                exact rl_some ⟨rfl, (ti_bd iy35_1 (by omega) (by omega)), uy35_2⟩
          · rintro ⟨y10_1, y10_2⟩ ⟨y10_1r, y10_2r⟩ ⟨ey10_1, ly10_1, uy10_2⟩
            obtain rfl : y10_1 = y10_1r := ey10_1
            have ly10_1 : 0 ≤ y10_1.toInt ∧ y10_1.toInt ≤ 0 := ly10_1
            have iy10_1 : TI y10_1 (0) := ti_c ly10_1
            have uy10_2 : Up mu 144 y9_2 y9_2r y10_2 y10_2r := uy10_2
            have ty10_2 := cx_up ty9_2 uy10_2
            have wW_y10_2 := wq_up uy10_2 wW_y9_2
            refine rl_bnd (Q := fun (y z : Int32 × DD) => y.1 = z.1 ∧ (1 ≤ y.1.toInt ∧ y.1.toInt ≤ 1) ∧ Up mu 144 y10_2 y10_2r y.2 z.2 ∧ WG mu y.2 z.2 c4 0 (8 * 8) (fun j => a5 + j / 8 * 16 + j % 8)) ?_ ?_
            · refine rl_if (fun c176 => ?_) (fun c176 => ?_)
              · have dc176 := tl_eq ix2 tn_0 c176
                exfalso
                omega
              · refine rl_bnd (Q := fun (y z : Int32 × DD) => y.1 = z.1 ∧ (1 ≤ y.1.toInt ∧ y.1.toInt ≤ 1) ∧ Up mu 144 y10_2 y10_2r y.2 z.2 ∧ WG mu y.2 z.2 c4 0 (8 * 8) (fun j => a5 + j / 8 * 16 + j % 8)) ?_ ?_
                · refine rl_if (fun c177 => ?_) (fun c177 => ?_)
                  · have dc177 := tl_eq ix1 tn_2 c177
                    exfalso
                    omega
                  · refine rl_bnd (Q := fun (y z : Int32) => y = z ∧ (1 ≤ y.toInt ∧ y.toInt ≤ 1)) ?_ ?_
                    · refine rl_if (fun c178 => ?_) (fun c178 => ?_)
                      · have dc178 := tl_eq ix1 tn_3 c178
                        exact rl_some ⟨rfl, (ti_bd tn_1 (by omega) (by omega))⟩
                      · have dc178 := tl_ne ix1 tn_3 c178
                        exfalso
                        omega
                    · rintro y30 y30r ⟨ey30, ly30⟩
                      obtain rfl : y30 = y30r := ey30
                      have ly30 : 1 ≤ y30.toInt ∧ y30.toInt ≤ 1 := ly30
                      have iy30 : TI y30 (1) := ti_c ly30
                      refine rl_ltI (av_add tn_2 iy30 (by omega) (by omega)) (fun x31 ix31 => ?_)
                      refine rl_bnd (r_tapColumns ty10_2 i3 ix31 ⟨rfl, rfl⟩ hc4 i5 (by omega) (by omega) (by omega) (by omega) (by omega) wW_y10_2 (fun h => absurd (by first | rfl | assumption | omega) h)) ?_
                      rintro y32 y32r ⟨uy32', vT_y32'⟩
                      have uy32 : Up mu 144 y10_2 y10_2r y32 y32r := uy32'
                      have ty32 := cx_up ty10_2 uy32
                      have wW_y32 := wq_up uy32 wW_y10_2
                      have vT_y32 : WG mu y32 y32r c4 0 (8 * 8) (fun j => a5 + j / 8 * 16 + j % 8) := wg_cs vT_y32' (by omega) (by omega) (fun j h1 h2 => by (try dsimp only) <;> omega)
                      exact rl_some ⟨rfl, (ti_bd tn_1 (by omega) (by omega)), uy32, vT_y32⟩
                · rintro ⟨y28_1, y28_2⟩ ⟨y28_1r, y28_2r⟩ ⟨ey28_1, ly28_1, uy28_2, wT_y28_2⟩
                  obtain rfl : y28_1 = y28_1r := ey28_1
                  have ly28_1 : 1 ≤ y28_1.toInt ∧ y28_1.toInt ≤ 1 := ly28_1
                  have iy28_1 : TI y28_1 (1) := ti_c ly28_1
                  have uy28_2 : Up mu 144 y10_2 y10_2r y28_2 y28_2r := uy28_2
                  have ty28_2 := cx_up ty10_2 uy28_2
                  have wW_y28_2 := wq_up uy28_2 wW_y10_2
                  have wT_y28_2 : WG mu y28_2 y28_2r c4 0 (8 * 8) (fun j => a5 + j / 8 * 16 + j % 8) := wT_y28_2
                  exact rl_some ⟨rfl, (ti_bd iy28_1 (by omega) (by omega)), uy28_2, wT_y28_2⟩
            · rintro ⟨y11_1, y11_2⟩ ⟨y11_1r, y11_2r⟩ ⟨ey11_1, ly11_1, uy11_2, wT_y11_2⟩
              obtain rfl : y11_1 = y11_1r := ey11_1
              have ly11_1 : 1 ≤ y11_1.toInt ∧ y11_1.toInt ≤ 1 := ly11_1
              have iy11_1 : TI y11_1 (1) := ti_c ly11_1
              have uy11_2 : Up mu 144 y10_2 y10_2r y11_2 y11_2r := uy11_2
              have ty11_2 := cx_up ty10_2 uy11_2
              have wW_y11_2 := wq_up uy11_2 wW_y10_2
              have wT_y11_2 : WG mu y11_2 y11_2r c4 0 (8 * 8) (fun j => a5 + j / 8 * 16 + j % 8) := wT_y11_2
              refine rl_bnd (Q := fun (y z : DD) => Up mu 144 y11_2 y11_2r y z) ?_ ?_
              · refine rl_if (fun c179 => ?_) (fun c179 => ?_)
                · have dc179 := tl_eq ix1 tn_2 c179
                  exfalso
                  omega
                · refine rl_bnd (Q := fun (y z : DD) => Up mu 144 y11_2 y11_2r y z) ?_ ?_
                  · refine rl_if (fun c180 => ?_) (fun c180 => ?_)
                    · have dc180 := tl_eq ix2 tn_2 c180
                      refine rl_bnd (Q := fun (y z : DD) => Up mu 144 y11_2 y11_2r y z) ?_ ?_
                      · refine rl_if (fun c181 => ?_) (fun c181 => ?_)
                        · have dc181 := tl_eq ix1 tn_0 c181
                          exfalso
                          omega
                        · refine rl_bnd (r_tapBoth ty11_2 i3 ⟨rfl, rfl⟩ hc4 i5 (by omega) (by omega) (by omega) wW_y11_2 (fun _ => wg_cs wT_y11_2 (by omega) (by omega) (fun j h1 h2 => by (try dsimp only) <;> omega))) ?_
                          rintro y18 y18r ⟨uy18', vT_y18'⟩
                          have uy18 : Up mu 144 y11_2 y11_2r y18 y18r := uy18'
                          have ty18 := cx_up ty11_2 uy18
                          have wW_y18 := wq_up uy18 wW_y11_2
                          have wT_y18 := wg_up uy18 wT_y11_2
                          have vT_y18 : WG mu y18 y18r c4 0 (8 * 8) (fun j => a5 + j / 8 * 16 + j % 8) := wg_cs vT_y18' (by omega) (by omega) (fun j h1 h2 => by (try dsimp only) <;> omega)
                          exact rl_some uy18
                      · rintro y16 y16r uy16
                        have uy16 : Up mu 144 y11_2 y11_2r y16 y16r := uy16
                        have ty16 := cx_up ty11_2 uy16
                        have wW_y16 := wq_up uy16 wW_y11_2
                        have wT_y16 := wg_up uy16 wT_y11_2
                        exact rl_some uy16
                    · have dc180 := tl_ne ix2 tn_2 c180
                      exfalso
                      omega
                  · rintro y14 y14r uy14
                    have uy14 : Up mu 144 y11_2 y11_2r y14 y14r := uy14
                    have ty14 := cx_up ty11_2 uy14
                    have wW_y14 := wq_up uy14 wW_y11_2
                    have wT_y14 := wg_up uy14 wT_y11_2
                    exact rl_some uy14
              · rintro y12 y12r uy12
                have uy12 : Up mu 144 y11_2 y11_2r y12 y12r := uy12
                have ty12 := cx_up ty11_2 uy12
                have wW_y12 := wq_up uy12 wW_y11_2
                have wT_y12 := wg_up uy12 wT_y11_2
                exact rl_some ⟨(up_tr (up_tr (up_tr (up_tr uy8 uy9_2) uy10_2) uy11_2) uy12), wT_y12⟩
      · clear ix2 zx2
        have ix2 : TI x2 3 := yx2
        refine rl_ltI (av_sar 2 i1 (by decide)) (fun x3 ix3 => ?_)
        refine rl_ltI (av_sub ix3 tn_2 (by omega) (by omega)) (fun x4 ix4 => ?_)
        refine rl_ltI (av_sar 2 i2 (by decide)) (fun x5 ix5 => ?_)
        refine rl_ltI (av_sub ix5 tn_2 (by omega) (by omega)) (fun x6 ix6 => ?_)
        refine rl_ltI (av_add i3 tn_5 (by omega) (by omega)) (fun x7 ix7 => ?_)
        refine rl_bnd (r_fillWindow t ⟨rfl, rfl⟩ hq0 ix7 (by omega) (by omega)) ?_
        rintro y8 y8r ⟨uy8', vW_y8⟩
        have uy8 : Up mu 144 M N y8 y8r := uy8'
        have ty8 := cx_up t uy8
        refine rl_bnd (Q := fun (y z : Int32 × DD) => y.1 = z.1 ∧ (0 ≤ y.1.toInt ∧ y.1.toInt ≤ 0) ∧ Up mu 144 y8 y8r y.2 z.2) ?_ ?_
        · refine rl_if (fun c182 => ?_) (fun c182 => ?_)
          · have dc182 := tl_eq ix2 tn_0 c182
            exfalso
            omega
          · refine rl_bnd (Q := fun (y z : Int32 × DD) => y.1 = z.1 ∧ (0 ≤ y.1.toInt ∧ y.1.toInt ≤ 0) ∧ Up mu 144 y8 y8r y.2 z.2) ?_ ?_
            · refine rl_if (fun c183 => ?_) (fun c183 => ?_)
              · have dc183 := tl_eq ix1 tn_0 c183
                exfalso
                omega
              · exact rl_some ⟨rfl, (ti_bd tn_0 (by omega) (by omega)), (up_0 mu (κ := 144) _ _)⟩
            · rintro ⟨y42_1, y42_2⟩ ⟨y42_1r, y42_2r⟩ ⟨ey42_1, ly42_1, uy42_2⟩
              obtain rfl : y42_1 = y42_1r := ey42_1
              have ly42_1 : 0 ≤ y42_1.toInt ∧ y42_1.toInt ≤ 0 := ly42_1
              have iy42_1 : TI y42_1 (0) := ti_c ly42_1
              have uy42_2 : Up mu 144 y8 y8r y42_2 y42_2r := uy42_2
              have ty42_2 := cx_up ty8 uy42_2
              have wW_y42_2 := wq_up uy42_2 vW_y8
              exact rl_some ⟨rfl, (ti_bd iy42_1 (by omega) (by omega)), uy42_2⟩
        · rintro ⟨y9_1, y9_2⟩ ⟨y9_1r, y9_2r⟩ ⟨ey9_1, ly9_1, uy9_2⟩
          obtain rfl : y9_1 = y9_1r := ey9_1
          have ly9_1 : 0 ≤ y9_1.toInt ∧ y9_1.toInt ≤ 0 := ly9_1
          have iy9_1 : TI y9_1 (0) := ti_c ly9_1
          have uy9_2 : Up mu 144 y8 y8r y9_2 y9_2r := uy9_2
          have ty9_2 := cx_up ty8 uy9_2
          have wW_y9_2 := wq_up uy9_2 vW_y8
          refine rl_bnd (Q := fun (y z : Int32 × DD) => y.1 = z.1 ∧ (1 ≤ y.1.toInt ∧ y.1.toInt ≤ 1) ∧ Up mu 144 y9_2 y9_2r y.2 z.2 ∧ WG mu y.2 z.2 c4 0 (8 * 8) (fun j => a5 + j / 8 * 16 + j % 8)) ?_ ?_
          · refine rl_if (fun c184 => ?_) (fun c184 => ?_)
            · have dc184 := tl_eq ix1 tn_0 c184
              exfalso
              omega
            · refine rl_bnd (Q := fun (y z : Int32 × DD) => y.1 = z.1 ∧ (1 ≤ y.1.toInt ∧ y.1.toInt ≤ 1) ∧ Up mu 144 y9_2 y9_2r y.2 z.2 ∧ WG mu y.2 z.2 c4 0 (8 * 8) (fun j => a5 + j / 8 * 16 + j % 8)) ?_ ?_
              · refine rl_if (fun c185 => ?_) (fun c185 => ?_)
                · have dc185 := tl_eq ix2 tn_2 c185
                  exfalso
                  omega
                · refine rl_bnd (Q := fun (y z : Int32) => y = z ∧ (1 ≤ y.toInt ∧ y.toInt ≤ 1)) ?_ ?_
                  · refine rl_if (fun c186 => ?_) (fun c186 => ?_)
                    · have dc186 := tl_eq ix2 tn_3 c186
                      exact rl_some ⟨rfl, (ti_bd tn_1 (by omega) (by omega))⟩
                    · have dc186 := tl_ne ix2 tn_3 c186
                      exfalso
                      omega
                  · rintro y37 y37r ⟨ey37, ly37⟩
                    obtain rfl : y37 = y37r := ey37
                    have ly37 : 1 ≤ y37.toInt ∧ y37.toInt ≤ 1 := ly37
                    have iy37 : TI y37 (1) := ti_c ly37
                    refine rl_ltI (av_add tn_2 iy37 (by omega) (by omega)) (fun x38 ix38 => ?_)
                    refine rl_bnd (r_tapRows ty9_2 i3 ix38 ⟨rfl, rfl⟩ hc4 i5 (by omega) (by omega) (by omega) (by omega) (by omega) wW_y9_2 (fun h => absurd (by first | rfl | assumption | omega) h)) ?_
                    rintro y39 y39r ⟨uy39', vT_y39'⟩
                    have uy39 : Up mu 144 y9_2 y9_2r y39 y39r := uy39'
                    have ty39 := cx_up ty9_2 uy39
                    have wW_y39 := wq_up uy39 wW_y9_2
                    have vT_y39 : WG mu y39 y39r c4 0 (8 * 8) (fun j => a5 + j / 8 * 16 + j % 8) := wg_cs vT_y39' (by omega) (by omega) (fun j h1 h2 => by (try dsimp only) <;> omega)
                    exact rl_some ⟨rfl, (ti_bd tn_1 (by omega) (by omega)), uy39, vT_y39⟩
              · rintro ⟨y35_1, y35_2⟩ ⟨y35_1r, y35_2r⟩ ⟨ey35_1, ly35_1, uy35_2, wT_y35_2⟩
                obtain rfl : y35_1 = y35_1r := ey35_1
                have ly35_1 : 1 ≤ y35_1.toInt ∧ y35_1.toInt ≤ 1 := ly35_1
                have iy35_1 : TI y35_1 (1) := ti_c ly35_1
                have uy35_2 : Up mu 144 y9_2 y9_2r y35_2 y35_2r := uy35_2
                have ty35_2 := cx_up ty9_2 uy35_2
                have wW_y35_2 := wq_up uy35_2 wW_y9_2
                have wT_y35_2 : WG mu y35_2 y35_2r c4 0 (8 * 8) (fun j => a5 + j / 8 * 16 + j % 8) := wT_y35_2
                exact rl_some ⟨rfl, (ti_bd iy35_1 (by omega) (by omega)), uy35_2, wT_y35_2⟩
          · rintro ⟨y10_1, y10_2⟩ ⟨y10_1r, y10_2r⟩ ⟨ey10_1, ly10_1, uy10_2, wT_y10_2⟩
            obtain rfl : y10_1 = y10_1r := ey10_1
            have ly10_1 : 1 ≤ y10_1.toInt ∧ y10_1.toInt ≤ 1 := ly10_1
            have iy10_1 : TI y10_1 (1) := ti_c ly10_1
            have uy10_2 : Up mu 144 y9_2 y9_2r y10_2 y10_2r := uy10_2
            have ty10_2 := cx_up ty9_2 uy10_2
            have wW_y10_2 := wq_up uy10_2 wW_y9_2
            have wT_y10_2 : WG mu y10_2 y10_2r c4 0 (8 * 8) (fun j => a5 + j / 8 * 16 + j % 8) := wT_y10_2
            refine rl_bnd (Q := fun (y z : Int32 × DD) => y.1 = z.1 ∧ (1 ≤ y.1.toInt ∧ y.1.toInt ≤ 1) ∧ Up mu 144 y10_2 y10_2r y.2 z.2) ?_ ?_
            · refine rl_if (fun c187 => ?_) (fun c187 => ?_)
              · have dc187 := tl_eq ix2 tn_0 c187
                exfalso
                omega
              · refine rl_bnd (Q := fun (y z : Int32 × DD) => y.1 = z.1 ∧ (1 ≤ y.1.toInt ∧ y.1.toInt ≤ 1) ∧ Up mu 144 y10_2 y10_2r y.2 z.2) ?_ ?_
                · refine rl_if (fun c188 => ?_) (fun c188 => ?_)
                  · have dc188 := tl_eq ix1 tn_2 c188
                    exfalso
                    omega
                  · refine rl_bnd (Q := fun (y z : Int32) => y = z ∧ (1 ≤ y.toInt ∧ y.toInt ≤ 1)) ?_ ?_
                    · refine rl_if (fun c189 => ?_) (fun c189 => ?_)
                      · have dc189 := tl_eq ix1 tn_3 c189
                        exact rl_some ⟨rfl, (ti_bd tn_1 (by omega) (by omega))⟩
                      · have dc189 := tl_ne ix1 tn_3 c189
                        exfalso
                        omega
                    · rintro y30 y30r ⟨ey30, ly30⟩
                      obtain rfl : y30 = y30r := ey30
                      have ly30 : 1 ≤ y30.toInt ∧ y30.toInt ≤ 1 := ly30
                      have iy30 : TI y30 (1) := ti_c ly30
                      refine rl_ltI (av_add tn_2 iy30 (by omega) (by omega)) (fun x31 ix31 => ?_)
                      refine rl_bnd (r_tapColumns ty10_2 i3 ix31 ⟨rfl, rfl⟩ hc4 i5 (by omega) (by omega) (by omega) (by omega) (by omega) wW_y10_2 (fun _ => wg_cs wT_y10_2 (by omega) (by omega) (fun j h1 h2 => by (try dsimp only) <;> omega))) ?_
                      rintro y32 y32r ⟨uy32', vT_y32'⟩
                      have uy32 : Up mu 144 y10_2 y10_2r y32 y32r := uy32'
                      have ty32 := cx_up ty10_2 uy32
                      have wW_y32 := wq_up uy32 wW_y10_2
                      have wT_y32 := wg_up uy32 wT_y10_2
                      have vT_y32 : WG mu y32 y32r c4 0 (8 * 8) (fun j => a5 + j / 8 * 16 + j % 8) := wg_cs vT_y32' (by omega) (by omega) (fun j h1 h2 => by (try dsimp only) <;> omega)
                      exact rl_some ⟨rfl, (ti_bd tn_1 (by omega) (by omega)), uy32⟩
                · rintro ⟨y28_1, y28_2⟩ ⟨y28_1r, y28_2r⟩ ⟨ey28_1, ly28_1, uy28_2⟩
                  obtain rfl : y28_1 = y28_1r := ey28_1
                  have ly28_1 : 1 ≤ y28_1.toInt ∧ y28_1.toInt ≤ 1 := ly28_1
                  have iy28_1 : TI y28_1 (1) := ti_c ly28_1
                  have uy28_2 : Up mu 144 y10_2 y10_2r y28_2 y28_2r := uy28_2
                  have ty28_2 := cx_up ty10_2 uy28_2
                  have wW_y28_2 := wq_up uy28_2 wW_y10_2
                  have wT_y28_2 := wg_up uy28_2 wT_y10_2
                  exact rl_some ⟨rfl, (ti_bd iy28_1 (by omega) (by omega)), uy28_2⟩
            · rintro ⟨y11_1, y11_2⟩ ⟨y11_1r, y11_2r⟩ ⟨ey11_1, ly11_1, uy11_2⟩
              obtain rfl : y11_1 = y11_1r := ey11_1
              have ly11_1 : 1 ≤ y11_1.toInt ∧ y11_1.toInt ≤ 1 := ly11_1
              have iy11_1 : TI y11_1 (1) := ti_c ly11_1
              have uy11_2 : Up mu 144 y10_2 y10_2r y11_2 y11_2r := uy11_2
              have ty11_2 := cx_up ty10_2 uy11_2
              have wW_y11_2 := wq_up uy11_2 wW_y10_2
              have wT_y11_2 := wg_up uy11_2 wT_y10_2
              refine rl_bnd (Q := fun (y z : DD) => Up mu 144 y11_2 y11_2r y z) ?_ ?_
              · refine rl_if (fun c190 => ?_) (fun c190 => ?_)
                · have dc190 := tl_eq ix1 tn_2 c190
                  exfalso
                  omega
                · refine rl_bnd (Q := fun (y z : DD) => Up mu 144 y11_2 y11_2r y z) ?_ ?_
                  · refine rl_if (fun c191 => ?_) (fun c191 => ?_)
                    · have dc191 := tl_eq ix2 tn_2 c191
                      exfalso
                      omega
                    · exact rl_some (up_0 mu (κ := 144) _ _)
                  · rintro y14 y14r uy14
                    have uy14 : Up mu 144 y11_2 y11_2r y14 y14r := uy14
                    have ty14 := cx_up ty11_2 uy14
                    have wW_y14 := wq_up uy14 wW_y11_2
                    have wT_y14 := wg_up uy14 wT_y11_2
                    exact rl_some uy14
              · rintro y12 y12r uy12
                have uy12 : Up mu 144 y11_2 y11_2r y12 y12r := uy12
                have ty12 := cx_up ty11_2 uy12
                have wW_y12 := wq_up uy12 wW_y11_2
                have wT_y12 := wg_up uy12 wT_y11_2
                exact rl_some ⟨(up_tr (up_tr (up_tr (up_tr uy8 uy9_2) uy10_2) uy11_2) uy12), wT_y12⟩
  · refine rl_ltI (av_and 2 i1 (by decide) (by decide)) (fun x1 ix1 => ?_)
    have zx1 : x1.toInt = _ := ix1
    rcases (by omega : x1.toInt = 0 ∨ x1.toInt = 1 ∨ x1.toInt = 2 ∨ x1.toInt = 3) with yx1 | yx1 | yx1 | yx1
    · clear ix1 zx1
      have ix1 : TI x1 0 := yx1
      refine rl_ltI (av_and 2 i2 (by decide) (by decide)) (fun x2 ix2 => ?_)
      have zx2 : x2.toInt = _ := ix2
      rcases (by omega : x2.toInt = 0 ∨ x2.toInt = 1 ∨ x2.toInt = 2 ∨ x2.toInt = 3) with yx2 | yx2 | yx2 | yx2
      · clear ix2 zx2
        have ix2 : TI x2 0 := yx2
        refine rl_ltI (av_sar 2 i1 (by decide)) (fun x3 ix3 => ?_)
        refine rl_ltI (av_sub ix3 tn_2 (by omega) (by omega)) (fun x4 ix4 => ?_)
        refine rl_ltI (av_sar 2 i2 (by decide)) (fun x5 ix5 => ?_)
        refine rl_ltI (av_sub ix5 tn_2 (by omega) (by omega)) (fun x6 ix6 => ?_)
        refine rl_ltI (av_add i3 tn_5 (by omega) (by omega)) (fun x7 ix7 => ?_)
        refine rl_bnd (r_fillWindow t ⟨rfl, rfl⟩ hq0 ix7 (by omega) (by omega)) ?_
        rintro y8 y8r ⟨uy8', vW_y8⟩
        have uy8 : Up mu 144 M N y8 y8r := uy8'
        have ty8 := cx_up t uy8
        refine rl_bnd (Q := fun (y z : Int32 × DD) => y.1 = z.1 ∧ (1 ≤ y.1.toInt ∧ y.1.toInt ≤ 1) ∧ Up mu 144 y8 y8r y.2 z.2 ∧ WG mu y.2 z.2 c4 0 (16 * 16) (fun j => a5 + j / 16 * 16 + j % 16)) ?_ ?_
        · refine rl_if (fun c1 => ?_) (fun c1 => ?_)
          · have dc1 := tl_eq ix2 tn_0 c1
            refine rl_bnd (Q := fun (y z : Int32 × DD) => y.1 = z.1 ∧ (1 ≤ y.1.toInt ∧ y.1.toInt ≤ 1) ∧ Up mu 144 y8 y8r y.2 z.2 ∧ WG mu y.2 z.2 c4 0 (16 * 16) (fun j => a5 + j / 16 * 16 + j % 16)) ?_ ?_
            · refine rl_if (fun c2 => ?_) (fun c2 => ?_)
              · have dc2 := tl_eq ix1 tn_2 c2
                exfalso
                omega
              · refine rl_bnd (Q := fun (y z : Int32) => y = z ∧ (0 ≤ y.toInt ∧ y.toInt ≤ 0)) ?_ ?_
                · refine rl_if (fun c3 => ?_) (fun c3 => ?_)
                  · have dc3 := tl_eq ix2 tn_3 c3
                    exfalso
                    omega
                  · exact rl_some ⟨rfl, (ti_bd tn_0 (by omega) (by omega))⟩
                · rintro y77 y77r ⟨ey77, ly77⟩
                  obtain rfl : y77 = y77r := ey77
                  have ly77 : 0 ≤ y77.toInt ∧ y77.toInt ≤ 0 := ly77
                  have iy77 : TI y77 (0) := ti_c ly77
                  have ky77 : y77.toInt = _ := iy77
                  refine rl_ltI (av_add tn_2 iy77 (by omega) (by omega)) (fun x78 ix78 => ?_)
                  refine rl_ltI (av_mul ix78 tn_21 (by omega) (by omega)) (fun x79 ix79 => ?_)
                  refine rl_ltI (av_add ix79 tn_2 (by omega) (by omega)) (fun x80 ix80 => ?_)
                  refine rl_bnd (Q := fun (y z : Int32) => y = z ∧ (0 ≤ y.toInt ∧ y.toInt ≤ 0)) ?_ ?_
                  · refine rl_if (fun c4 => ?_) (fun c4 => ?_)
                    · have dc4 := tl_eq ix1 tn_3 c4
                      exfalso
                      omega
                    · exact rl_some ⟨rfl, (ti_bd tn_0 (by omega) (by omega))⟩
                  · rintro y81 y81r ⟨ey81, ly81⟩
                    obtain rfl : y81 = y81r := ey81
                    have ly81 : 0 ≤ y81.toInt ∧ y81.toInt ≤ 0 := ly81
                    have iy81 : TI y81 (0) := ti_c ly81
                    have ky81 : y81.toInt = _ := iy81
                    refine rl_ltI (av_add ix80 iy81 (by omega) (by omega)) (fun x82 ix82 => ?_)
                    refine rl_bnd (Q := fun (y z : Int32 × DD) => y.1 = z.1 ∧ (0 ≤ y.1.toInt ∧ y.1.toInt ≤ (16 * 16)) ∧ Up mu 144 y8 y8r y.2 z.2 ∧ WG mu y.2 z.2 c4 (0) (16 * 16) (fun j => a5 + j / 16 * 16 + j % 16)) (rl_itr (fun (y z : Int32 × DD) => y.1 = z.1 ∧ (0 ≤ y.1.toInt ∧ y.1.toInt ≤ (16 * 16)) ∧ Up mu 144 y8 y8r y.2 z.2 ∧ WG mu y.2 z.2 c4 (0) (y.1.toInt) (fun j => a5 + j / 16 * 16 + j % 16)) _ ?_ _ _ _ ?_) ?_
                    · rintro ⟨s84_1, s84_2⟩ ⟨s84_1r, s84_2r⟩ ⟨es84_1, ls84_1, us84_2, vT_s84_2⟩
                      obtain rfl : s84_1 = s84_1r := es84_1
                      have ls84_1 : 0 ≤ s84_1.toInt ∧ s84_1.toInt ≤ (16 * 16) := ls84_1
                      have is84_1 : TI s84_1 s84_1.toInt := rfl
                      have us84_2 : Up mu 144 y8 y8r s84_2 s84_2r := us84_2
                      have ts84_2 := cx_up ty8 us84_2
                      have wW_s84_2 := wq_up us84_2 vW_y8
                      have vT_s84_2 : WG mu s84_2 s84_2r c4 (0) (s84_1.toInt) (fun j => a5 + j / 16 * 16 + j % 16) := vT_s84_2
                      refine rl_ltI (av_mul i3 i3 (by omega) (by omega)) (fun x87 ix87 => ?_)
                      refine rl_if (fun c5 => ?_) (fun c5 => ?_)
                      · have dc5 := tl_le ix87 is84_1 c5
                        exact rl_inr ⟨rfl, (ti_bd is84_1 (by omega) (by omega)), us84_2, (wg_sub vT_s84_2 (by omega) (by omega))⟩
                      · have dc5 := tl_nle ix87 is84_1 c5
                        refine rl_chk (fun h => h) (fun k6 => ?_)
                        refine rl_ltI (av_div is84_1 i3 (by omega) (by omega)) (fun x89 ix89 => ?_)
                        refine rl_ltI (av_mul ix89 tn_16 (by omega) (by omega)) (fun x90 ix90 => ?_)
                        refine rl_ltI (av_add i5 ix90 (by omega) (by omega)) (fun x91 ix91 => ?_)
                        refine rl_chk (fun h => h) (fun k7 => ?_)
                        refine rl_ltI (av_mod is84_1 i3 (by omega) (by omega)) (fun x92 ix92 => ?_)
                        refine rl_ltI (av_add ix91 ix92 (by omega) (by omega)) (fun x93 ix93 => ?_)
                        refine rl_chk (fun h => h) (fun k8 => ?_)
                        refine rl_ltI (av_div is84_1 i3 (by omega) (by omega)) (fun x94 ix94 => ?_)
                        refine rl_ltI (av_mul ix94 tn_21 (by omega) (by omega)) (fun x95 ix95 => ?_)
                        refine rl_ltI (av_add ix82 ix95 (by omega) (by omega)) (fun x96 ix96 => ?_)
                        refine rl_chk (fun h => h) (fun k9 => ?_)
                        refine rl_ltI (av_mod is84_1 i3 (by omega) (by omega)) (fun x97 ix97 => ?_)
                        refine rl_ltI (av_add ix96 ix97 (by omega) (by omega)) (fun x98 ix98 => ?_)
                        refine rl_dr (cx_U ts84_2) (rx_c (a := 138) (k := 3) (b := 142) ts84_2 (Or.inr (Or.inl rfl)) rfl (by decide)) (fun gb99 => ?_)
                        refine rl_chk (chkl (cx_U ts84_2) gb99) (fun k10 => ?_)
                        refine rl_rd (wq_use wW_s84_2 ix98 (s84_1.toInt / 16 + 2 + y77.toInt) (s84_1.toInt % 16 + 2 + y81.toInt) (by omega) (by omega) (by omega) (by omega) (by (try dsimp only) <;> omega)) (fun x100 => ?_)
                        refine rl_dr (cx_U ts84_2) ⟨rfl, rfl⟩ (fun gb101 => ?_)
                        refine rl_chk (chkl (cx_U ts84_2) gb101) (fun k11 => ?_)
                        refine rl_w (κ := 144) (cx_U ts84_2) (by rcases hc4 with h | h <;> omega) (fun M102 M102r uM102 AM102 nM102 => ?_)
                        have tM102 := cx_up ts84_2 uM102
                        have wW_M102 := wq_up uM102 wW_s84_2
                        have wT_M102 := wg_up uM102 vT_s84_2
                        refine rl_ltI (av_add is84_1 tn_1 (by omega) (by omega)) (fun x103 ix103 => ?_)
                        exact rl_inl ⟨rfl, (ti_bd ix103 (by omega) (by omega)), (up_tr us84_2 uM102), (wg_ext wT_M102 ix93 (ag_up (up_0 mu (κ := 144) _ _) AM102) (by (try dsimp only) <;> omega) (by have q : _ = _ := ix103; (try dsimp only) <;> omega))⟩
                    · exact ⟨rfl, (ti_bd tn_0 (by omega) (by omega)), (up_0 mu (κ := 144) _ _), (wg_0 (by have q : _ = _ := tn_0; (try dsimp only) <;> omega))⟩
                    · rintro ⟨y83_1, y83_2⟩ ⟨y83_1r, y83_2r⟩ ⟨ey83_1, ly83_1, uy83_2, vT_y83_2⟩
                      obtain rfl : y83_1 = y83_1r := ey83_1
                      have ly83_1 : 0 ≤ y83_1.toInt ∧ y83_1.toInt ≤ (16 * 16) := ly83_1
                      have iy83_1 : TI y83_1 y83_1.toInt := rfl
                      have uy83_2 : Up mu 144 y8 y8r y83_2 y83_2r := uy83_2
                      have ty83_2 := cx_up ty8 uy83_2
                      have wW_y83_2 := wq_up uy83_2 vW_y8
                      have vT_y83_2 : WG mu y83_2 y83_2r c4 (0) (16 * 16) (fun j => a5 + j / 16 * 16 + j % 16) := vT_y83_2
                      exact rl_some ⟨rfl, (ti_bd tn_1 (by omega) (by omega)), uy83_2, vT_y83_2⟩
            · rintro ⟨y75_1, y75_2⟩ ⟨y75_1r, y75_2r⟩ ⟨ey75_1, ly75_1, uy75_2, wT_y75_2⟩
              obtain rfl : y75_1 = y75_1r := ey75_1
              have ly75_1 : 1 ≤ y75_1.toInt ∧ y75_1.toInt ≤ 1 := ly75_1
              have iy75_1 : TI y75_1 (1) := ti_c ly75_1
              have uy75_2 : Up mu 144 y8 y8r y75_2 y75_2r := uy75_2
              have ty75_2 := cx_up ty8 uy75_2
              have wW_y75_2 := wq_up uy75_2 vW_y8
              have wT_y75_2 : WG mu y75_2 y75_2r c4 0 (16 * 16) (fun j => a5 + j / 16 * 16 + j % 16) := wT_y75_2
              exact rl_some ⟨rfl, (ti_bd iy75_1 (by omega) (by omega)), uy75_2, wT_y75_2⟩
          · have dc1 := tl_ne ix2 tn_0 c1
            exfalso
            omega
        · rintro ⟨y9_1, y9_2⟩ ⟨y9_1r, y9_2r⟩ ⟨ey9_1, ly9_1, uy9_2, wT_y9_2⟩
          obtain rfl : y9_1 = y9_1r := ey9_1
          have ly9_1 : 1 ≤ y9_1.toInt ∧ y9_1.toInt ≤ 1 := ly9_1
          have iy9_1 : TI y9_1 (1) := ti_c ly9_1
          have uy9_2 : Up mu 144 y8 y8r y9_2 y9_2r := uy9_2
          have ty9_2 := cx_up ty8 uy9_2
          have wW_y9_2 := wq_up uy9_2 vW_y8
          have wT_y9_2 : WG mu y9_2 y9_2r c4 0 (16 * 16) (fun j => a5 + j / 16 * 16 + j % 16) := wT_y9_2
          refine rl_bnd (Q := fun (y z : Int32 × DD) => y.1 = z.1 ∧ (1 ≤ y.1.toInt ∧ y.1.toInt ≤ 1) ∧ Up mu 144 y9_2 y9_2r y.2 z.2) ?_ ?_
          · refine rl_if (fun c12 => ?_) (fun c12 => ?_)
            · have dc12 := tl_eq ix1 tn_0 c12
              exact rl_some ⟨rfl, (ti_bd iy9_1 (by omega) (by omega)), (up_0 mu (κ := 144) _ _)⟩
            · have dc12 := tl_ne ix1 tn_0 c12
              exfalso
              omega
          · rintro ⟨y10_1, y10_2⟩ ⟨y10_1r, y10_2r⟩ ⟨ey10_1, ly10_1, uy10_2⟩
            obtain rfl : y10_1 = y10_1r := ey10_1
            have ly10_1 : 1 ≤ y10_1.toInt ∧ y10_1.toInt ≤ 1 := ly10_1
            have iy10_1 : TI y10_1 (1) := ti_c ly10_1
            have uy10_2 : Up mu 144 y9_2 y9_2r y10_2 y10_2r := uy10_2
            have ty10_2 := cx_up ty9_2 uy10_2
            have wW_y10_2 := wq_up uy10_2 wW_y9_2
            have wT_y10_2 := wg_up uy10_2 wT_y9_2
            refine rl_bnd (Q := fun (y z : Int32 × DD) => y.1 = z.1 ∧ (1 ≤ y.1.toInt ∧ y.1.toInt ≤ 1) ∧ Up mu 144 y10_2 y10_2r y.2 z.2) ?_ ?_
            · refine rl_if (fun c13 => ?_) (fun c13 => ?_)
              · have dc13 := tl_eq ix2 tn_0 c13
                exact rl_some ⟨rfl, (ti_bd iy10_1 (by omega) (by omega)), (up_0 mu (κ := 144) _ _)⟩
              · have dc13 := tl_ne ix2 tn_0 c13
                exfalso
                omega
            · rintro ⟨y11_1, y11_2⟩ ⟨y11_1r, y11_2r⟩ ⟨ey11_1, ly11_1, uy11_2⟩
              obtain rfl : y11_1 = y11_1r := ey11_1
              have ly11_1 : 1 ≤ y11_1.toInt ∧ y11_1.toInt ≤ 1 := ly11_1
              have iy11_1 : TI y11_1 (1) := ti_c ly11_1
              have uy11_2 : Up mu 144 y10_2 y10_2r y11_2 y11_2r := uy11_2
              have ty11_2 := cx_up ty10_2 uy11_2
              have wW_y11_2 := wq_up uy11_2 wW_y10_2
              have wT_y11_2 := wg_up uy11_2 wT_y10_2
              refine rl_bnd (Q := fun (y z : DD) => Up mu 144 y11_2 y11_2r y z) ?_ ?_
              · refine rl_if (fun c14 => ?_) (fun c14 => ?_)
                · have dc14 := tl_eq ix1 tn_2 c14
                  exfalso
                  omega
                · refine rl_bnd (Q := fun (y z : DD) => Up mu 144 y11_2 y11_2r y z) ?_ ?_
                  · refine rl_if (fun c15 => ?_) (fun c15 => ?_)
                    · have dc15 := tl_eq ix2 tn_2 c15
                      exfalso
                      omega
                    · exact rl_some (up_0 mu (κ := 144) _ _)
                  · rintro y14 y14r uy14
                    have uy14 : Up mu 144 y11_2 y11_2r y14 y14r := uy14
                    have ty14 := cx_up ty11_2 uy14
                    have wW_y14 := wq_up uy14 wW_y11_2
                    have wT_y14 := wg_up uy14 wT_y11_2
                    exact rl_some uy14
              · rintro y12 y12r uy12
                have uy12 : Up mu 144 y11_2 y11_2r y12 y12r := uy12
                have ty12 := cx_up ty11_2 uy12
                have wW_y12 := wq_up uy12 wW_y11_2
                have wT_y12 := wg_up uy12 wT_y11_2
                exact rl_some ⟨(up_tr (up_tr (up_tr (up_tr uy8 uy9_2) uy10_2) uy11_2) uy12), wT_y12⟩
      · clear ix2 zx2
        have ix2 : TI x2 1 := yx2
        refine rl_ltI (av_sar 2 i1 (by decide)) (fun x3 ix3 => ?_)
        refine rl_ltI (av_sub ix3 tn_2 (by omega) (by omega)) (fun x4 ix4 => ?_)
        refine rl_ltI (av_sar 2 i2 (by decide)) (fun x5 ix5 => ?_)
        refine rl_ltI (av_sub ix5 tn_2 (by omega) (by omega)) (fun x6 ix6 => ?_)
        refine rl_ltI (av_add i3 tn_5 (by omega) (by omega)) (fun x7 ix7 => ?_)
        refine rl_bnd (r_fillWindow t ⟨rfl, rfl⟩ hq0 ix7 (by omega) (by omega)) ?_
        rintro y8 y8r ⟨uy8', vW_y8⟩
        have uy8 : Up mu 144 M N y8 y8r := uy8'
        have ty8 := cx_up t uy8
        refine rl_bnd (Q := fun (y z : Int32 × DD) => y.1 = z.1 ∧ (1 ≤ y.1.toInt ∧ y.1.toInt ≤ 1) ∧ Up mu 144 y8 y8r y.2 z.2 ∧ WG mu y.2 z.2 c4 0 (16 * 16) (fun j => a5 + j / 16 * 16 + j % 16)) ?_ ?_
        · refine rl_if (fun c16 => ?_) (fun c16 => ?_)
          · have dc16 := tl_eq ix2 tn_0 c16
            exfalso
            omega
          · refine rl_bnd (Q := fun (y z : Int32 × DD) => y.1 = z.1 ∧ (1 ≤ y.1.toInt ∧ y.1.toInt ≤ 1) ∧ Up mu 144 y8 y8r y.2 z.2 ∧ WG mu y.2 z.2 c4 0 (16 * 16) (fun j => a5 + j / 16 * 16 + j % 16)) ?_ ?_
            · refine rl_if (fun c17 => ?_) (fun c17 => ?_)
              · have dc17 := tl_eq ix1 tn_0 c17
                refine rl_bnd (Q := fun (y z : Int32 × DD) => y.1 = z.1 ∧ (1 ≤ y.1.toInt ∧ y.1.toInt ≤ 1) ∧ Up mu 144 y8 y8r y.2 z.2 ∧ WG mu y.2 z.2 c4 0 (16 * 16) (fun j => a5 + j / 16 * 16 + j % 16)) ?_ ?_
                · refine rl_if (fun c18 => ?_) (fun c18 => ?_)
                  · have dc18 := tl_eq ix2 tn_2 c18
                    exfalso
                    omega
                  · refine rl_bnd (Q := fun (y z : Int32) => y = z ∧ (0 ≤ y.toInt ∧ y.toInt ≤ 0)) ?_ ?_
                    · refine rl_if (fun c19 => ?_) (fun c19 => ?_)
                      · have dc19 := tl_eq ix2 tn_3 c19
                        exfalso
                        omega
                      · exact rl_some ⟨rfl, (ti_bd tn_0 (by omega) (by omega))⟩
                    · rintro y46 y46r ⟨ey46, ly46⟩
                      obtain rfl : y46 = y46r := ey46
                      have ly46 : 0 ≤ y46.toInt ∧ y46.toInt ≤ 0 := ly46
                      have iy46 : TI y46 (0) := ti_c ly46
                      have ky46 : y46.toInt = _ := iy46
                      refine rl_ltI (av_add tn_2 iy46 (by omega) (by omega)) (fun x47 ix47 => ?_)
                      refine rl_ltI (av_mul ix47 tn_21 (by omega) (by omega)) (fun x48 ix48 => ?_)
                      refine rl_ltI (av_add ix48 tn_2 (by omega) (by omega)) (fun x49 ix49 => ?_)
                      refine rl_bnd (Q := fun (y z : Int32) => y = z ∧ (0 ≤ y.toInt ∧ y.toInt ≤ 0)) ?_ ?_
                      · refine rl_if (fun c20 => ?_) (fun c20 => ?_)
                        · have dc20 := tl_eq ix1 tn_3 c20
                          exfalso
                          omega
                        · exact rl_some ⟨rfl, (ti_bd tn_0 (by omega) (by omega))⟩
                      · rintro y50 y50r ⟨ey50, ly50⟩
                        obtain rfl : y50 = y50r := ey50
                        have ly50 : 0 ≤ y50.toInt ∧ y50.toInt ≤ 0 := ly50
                        have iy50 : TI y50 (0) := ti_c ly50
                        have ky50 : y50.toInt = _ := iy50
                        refine rl_ltI (av_add ix49 iy50 (by omega) (by omega)) (fun x51 ix51 => ?_)
                        refine rl_bnd (Q := fun (y z : Int32 × DD) => y.1 = z.1 ∧ (0 ≤ y.1.toInt ∧ y.1.toInt ≤ (16 * 16)) ∧ Up mu 144 y8 y8r y.2 z.2 ∧ WG mu y.2 z.2 c4 (0) (16 * 16) (fun j => a5 + j / 16 * 16 + j % 16)) (rl_itr (fun (y z : Int32 × DD) => y.1 = z.1 ∧ (0 ≤ y.1.toInt ∧ y.1.toInt ≤ (16 * 16)) ∧ Up mu 144 y8 y8r y.2 z.2 ∧ WG mu y.2 z.2 c4 (0) (y.1.toInt) (fun j => a5 + j / 16 * 16 + j % 16)) _ ?_ _ _ _ ?_) ?_
                        · rintro ⟨s53_1, s53_2⟩ ⟨s53_1r, s53_2r⟩ ⟨es53_1, ls53_1, us53_2, vT_s53_2⟩
                          obtain rfl : s53_1 = s53_1r := es53_1
                          have ls53_1 : 0 ≤ s53_1.toInt ∧ s53_1.toInt ≤ (16 * 16) := ls53_1
                          have is53_1 : TI s53_1 s53_1.toInt := rfl
                          have us53_2 : Up mu 144 y8 y8r s53_2 s53_2r := us53_2
                          have ts53_2 := cx_up ty8 us53_2
                          have wW_s53_2 := wq_up us53_2 vW_y8
                          have vT_s53_2 : WG mu s53_2 s53_2r c4 (0) (s53_1.toInt) (fun j => a5 + j / 16 * 16 + j % 16) := vT_s53_2
                          refine rl_ltI (av_mul i3 i3 (by omega) (by omega)) (fun x56 ix56 => ?_)
                          refine rl_if (fun c21 => ?_) (fun c21 => ?_)
                          · have dc21 := tl_le ix56 is53_1 c21
                            exact rl_inr ⟨rfl, (ti_bd is53_1 (by omega) (by omega)), us53_2, (wg_sub vT_s53_2 (by omega) (by omega))⟩
                          · have dc21 := tl_nle ix56 is53_1 c21
                            refine rl_chk (fun h => h) (fun k22 => ?_)
                            refine rl_ltI (av_div is53_1 i3 (by omega) (by omega)) (fun x58 ix58 => ?_)
                            refine rl_ltI (av_mul ix58 tn_16 (by omega) (by omega)) (fun x59 ix59 => ?_)
                            refine rl_ltI (av_add i5 ix59 (by omega) (by omega)) (fun x60 ix60 => ?_)
                            refine rl_chk (fun h => h) (fun k23 => ?_)
                            refine rl_ltI (av_mod is53_1 i3 (by omega) (by omega)) (fun x61 ix61 => ?_)
                            refine rl_ltI (av_add ix60 ix61 (by omega) (by omega)) (fun x62 ix62 => ?_)
                            refine rl_chk (fun h => h) (fun k24 => ?_)
                            refine rl_ltI (av_div is53_1 i3 (by omega) (by omega)) (fun x63 ix63 => ?_)
                            refine rl_ltI (av_mul ix63 tn_21 (by omega) (by omega)) (fun x64 ix64 => ?_)
                            refine rl_ltI (av_add ix51 ix64 (by omega) (by omega)) (fun x65 ix65 => ?_)
                            refine rl_chk (fun h => h) (fun k25 => ?_)
                            refine rl_ltI (av_mod is53_1 i3 (by omega) (by omega)) (fun x66 ix66 => ?_)
                            refine rl_ltI (av_add ix65 ix66 (by omega) (by omega)) (fun x67 ix67 => ?_)
                            refine rl_dr (cx_U ts53_2) (rx_c (a := 138) (k := 3) (b := 142) ts53_2 (Or.inr (Or.inl rfl)) rfl (by decide)) (fun gb68 => ?_)
                            refine rl_chk (chkl (cx_U ts53_2) gb68) (fun k26 => ?_)
                            refine rl_rd (wq_use wW_s53_2 ix67 (s53_1.toInt / 16 + 2 + y46.toInt) (s53_1.toInt % 16 + 2 + y50.toInt) (by omega) (by omega) (by omega) (by omega) (by (try dsimp only) <;> omega)) (fun x69 => ?_)
                            refine rl_dr (cx_U ts53_2) ⟨rfl, rfl⟩ (fun gb70 => ?_)
                            refine rl_chk (chkl (cx_U ts53_2) gb70) (fun k27 => ?_)
                            refine rl_w (κ := 144) (cx_U ts53_2) (by rcases hc4 with h | h <;> omega) (fun M71 M71r uM71 AM71 nM71 => ?_)
                            have tM71 := cx_up ts53_2 uM71
                            have wW_M71 := wq_up uM71 wW_s53_2
                            have wT_M71 := wg_up uM71 vT_s53_2
                            refine rl_ltI (av_add is53_1 tn_1 (by omega) (by omega)) (fun x72 ix72 => ?_)
                            exact rl_inl ⟨rfl, (ti_bd ix72 (by omega) (by omega)), (up_tr us53_2 uM71), (wg_ext wT_M71 ix62 (ag_up (up_0 mu (κ := 144) _ _) AM71) (by (try dsimp only) <;> omega) (by have q : _ = _ := ix72; (try dsimp only) <;> omega))⟩
                        · exact ⟨rfl, (ti_bd tn_0 (by omega) (by omega)), (up_0 mu (κ := 144) _ _), (wg_0 (by have q : _ = _ := tn_0; (try dsimp only) <;> omega))⟩
                        · rintro ⟨y52_1, y52_2⟩ ⟨y52_1r, y52_2r⟩ ⟨ey52_1, ly52_1, uy52_2, vT_y52_2⟩
                          obtain rfl : y52_1 = y52_1r := ey52_1
                          have ly52_1 : 0 ≤ y52_1.toInt ∧ y52_1.toInt ≤ (16 * 16) := ly52_1
                          have iy52_1 : TI y52_1 y52_1.toInt := rfl
                          have uy52_2 : Up mu 144 y8 y8r y52_2 y52_2r := uy52_2
                          have ty52_2 := cx_up ty8 uy52_2
                          have wW_y52_2 := wq_up uy52_2 vW_y8
                          have vT_y52_2 : WG mu y52_2 y52_2r c4 (0) (16 * 16) (fun j => a5 + j / 16 * 16 + j % 16) := vT_y52_2
                          exact rl_some ⟨rfl, (ti_bd tn_1 (by omega) (by omega)), uy52_2, vT_y52_2⟩
                · rintro ⟨y44_1, y44_2⟩ ⟨y44_1r, y44_2r⟩ ⟨ey44_1, ly44_1, uy44_2, wT_y44_2⟩
                  obtain rfl : y44_1 = y44_1r := ey44_1
                  have ly44_1 : 1 ≤ y44_1.toInt ∧ y44_1.toInt ≤ 1 := ly44_1
                  have iy44_1 : TI y44_1 (1) := ti_c ly44_1
                  have uy44_2 : Up mu 144 y8 y8r y44_2 y44_2r := uy44_2
                  have ty44_2 := cx_up ty8 uy44_2
                  have wW_y44_2 := wq_up uy44_2 vW_y8
                  have wT_y44_2 : WG mu y44_2 y44_2r c4 0 (16 * 16) (fun j => a5 + j / 16 * 16 + j % 16) := wT_y44_2
                  exact rl_some ⟨rfl, (ti_bd iy44_1 (by omega) (by omega)), uy44_2, wT_y44_2⟩
              · have dc17 := tl_ne ix1 tn_0 c17
                exfalso
                omega
            · rintro ⟨y42_1, y42_2⟩ ⟨y42_1r, y42_2r⟩ ⟨ey42_1, ly42_1, uy42_2, wT_y42_2⟩
              obtain rfl : y42_1 = y42_1r := ey42_1
              have ly42_1 : 1 ≤ y42_1.toInt ∧ y42_1.toInt ≤ 1 := ly42_1
              have iy42_1 : TI y42_1 (1) := ti_c ly42_1
              have uy42_2 : Up mu 144 y8 y8r y42_2 y42_2r := uy42_2
              have ty42_2 := cx_up ty8 uy42_2
              have wW_y42_2 := wq_up uy42_2 vW_y8
              have wT_y42_2 : WG mu y42_2 y42_2r c4 0 (16 * 16) (fun j => a5 + j / 16 * 16 + j % 16) := wT_y42_2
              exact rl_some ⟨rfl, (ti_bd iy42_1 (by omega) (by omega)), uy42_2, wT_y42_2⟩
        · rintro ⟨y9_1, y9_2⟩ ⟨y9_1r, y9_2r⟩ ⟨ey9_1, ly9_1, uy9_2, wT_y9_2⟩
          obtain rfl : y9_1 = y9_1r := ey9_1
          have ly9_1 : 1 ≤ y9_1.toInt ∧ y9_1.toInt ≤ 1 := ly9_1
          have iy9_1 : TI y9_1 (1) := ti_c ly9_1
          have uy9_2 : Up mu 144 y8 y8r y9_2 y9_2r := uy9_2
          have ty9_2 := cx_up ty8 uy9_2
          have wW_y9_2 := wq_up uy9_2 vW_y8
          have wT_y9_2 : WG mu y9_2 y9_2r c4 0 (16 * 16) (fun j => a5 + j / 16 * 16 + j % 16) := wT_y9_2
          refine rl_bnd (Q := fun (y z : Int32 × DD) => y.1 = z.1 ∧ (1 ≤ y.1.toInt ∧ y.1.toInt ≤ 1) ∧ Up mu 144 y9_2 y9_2r y.2 z.2) ?_ ?_
          · refine rl_if (fun c28 => ?_) (fun c28 => ?_)
            · have dc28 := tl_eq ix1 tn_0 c28
              exact rl_some ⟨rfl, (ti_bd iy9_1 (by omega) (by omega)), (up_0 mu (κ := 144) _ _)⟩
            · have dc28 := tl_ne ix1 tn_0 c28
              exfalso
              omega
          · rintro ⟨y10_1, y10_2⟩ ⟨y10_1r, y10_2r⟩ ⟨ey10_1, ly10_1, uy10_2⟩
            obtain rfl : y10_1 = y10_1r := ey10_1
            have ly10_1 : 1 ≤ y10_1.toInt ∧ y10_1.toInt ≤ 1 := ly10_1
            have iy10_1 : TI y10_1 (1) := ti_c ly10_1
            have uy10_2 : Up mu 144 y9_2 y9_2r y10_2 y10_2r := uy10_2
            have ty10_2 := cx_up ty9_2 uy10_2
            have wW_y10_2 := wq_up uy10_2 wW_y9_2
            have wT_y10_2 := wg_up uy10_2 wT_y9_2
            refine rl_bnd (Q := fun (y z : Int32 × DD) => y.1 = z.1 ∧ (1 ≤ y.1.toInt ∧ y.1.toInt ≤ 1) ∧ Up mu 144 y10_2 y10_2r y.2 z.2) ?_ ?_
            · refine rl_if (fun c29 => ?_) (fun c29 => ?_)
              · have dc29 := tl_eq ix2 tn_0 c29
                exfalso
                omega
              · refine rl_bnd (Q := fun (y z : Int32 × DD) => y.1 = z.1 ∧ (1 ≤ y.1.toInt ∧ y.1.toInt ≤ 1) ∧ Up mu 144 y10_2 y10_2r y.2 z.2) ?_ ?_
                · refine rl_if (fun c30 => ?_) (fun c30 => ?_)
                  · have dc30 := tl_eq ix1 tn_2 c30
                    exfalso
                    omega
                  · refine rl_bnd (Q := fun (y z : Int32) => y = z ∧ (0 ≤ y.toInt ∧ y.toInt ≤ 0)) ?_ ?_
                    · refine rl_if (fun c31 => ?_) (fun c31 => ?_)
                      · have dc31 := tl_eq ix1 tn_3 c31
                        exfalso
                        omega
                      · exact rl_some ⟨rfl, (ti_bd tn_0 (by omega) (by omega))⟩
                    · rintro y30 y30r ⟨ey30, ly30⟩
                      obtain rfl : y30 = y30r := ey30
                      have ly30 : 0 ≤ y30.toInt ∧ y30.toInt ≤ 0 := ly30
                      have iy30 : TI y30 (0) := ti_c ly30
                      refine rl_ltI (av_add tn_2 iy30 (by omega) (by omega)) (fun x31 ix31 => ?_)
                      refine rl_bnd (r_tapColumns ty10_2 i3 ix31 ⟨rfl, rfl⟩ hc4 i5 (by omega) (by omega) (by omega) (by omega) (by omega) wW_y10_2 (fun _ => wg_cs wT_y10_2 (by omega) (by omega) (fun j h1 h2 => by (try dsimp only) <;> omega))) ?_
                      rintro y32 y32r ⟨uy32', vT_y32'⟩
                      have uy32 : Up mu 144 y10_2 y10_2r y32 y32r := uy32'
                      have ty32 := cx_up ty10_2 uy32
                      have wW_y32 := wq_up uy32 wW_y10_2
                      have wT_y32 := wg_up uy32 wT_y10_2
                      have vT_y32 : WG mu y32 y32r c4 0 (16 * 16) (fun j => a5 + j / 16 * 16 + j % 16) := wg_cs vT_y32' (by omega) (by omega) (fun j h1 h2 => by (try dsimp only) <;> omega)
                      exact rl_some ⟨rfl, (ti_bd tn_1 (by omega) (by omega)), uy32⟩
                · rintro ⟨y28_1, y28_2⟩ ⟨y28_1r, y28_2r⟩ ⟨ey28_1, ly28_1, uy28_2⟩
                  obtain rfl : y28_1 = y28_1r := ey28_1
                  have ly28_1 : 1 ≤ y28_1.toInt ∧ y28_1.toInt ≤ 1 := ly28_1
                  have iy28_1 : TI y28_1 (1) := ti_c ly28_1
                  have uy28_2 : Up mu 144 y10_2 y10_2r y28_2 y28_2r := uy28_2
                  have ty28_2 := cx_up ty10_2 uy28_2
                  have wW_y28_2 := wq_up uy28_2 wW_y10_2
                  have wT_y28_2 := wg_up uy28_2 wT_y10_2
                  exact rl_some ⟨rfl, (ti_bd iy28_1 (by omega) (by omega)), uy28_2⟩
            · rintro ⟨y11_1, y11_2⟩ ⟨y11_1r, y11_2r⟩ ⟨ey11_1, ly11_1, uy11_2⟩
              obtain rfl : y11_1 = y11_1r := ey11_1
              have ly11_1 : 1 ≤ y11_1.toInt ∧ y11_1.toInt ≤ 1 := ly11_1
              have iy11_1 : TI y11_1 (1) := ti_c ly11_1
              have uy11_2 : Up mu 144 y10_2 y10_2r y11_2 y11_2r := uy11_2
              have ty11_2 := cx_up ty10_2 uy11_2
              have wW_y11_2 := wq_up uy11_2 wW_y10_2
              have wT_y11_2 := wg_up uy11_2 wT_y10_2
              refine rl_bnd (Q := fun (y z : DD) => Up mu 144 y11_2 y11_2r y z) ?_ ?_
              · refine rl_if (fun c32 => ?_) (fun c32 => ?_)
                · have dc32 := tl_eq ix1 tn_2 c32
                  exfalso
                  omega
                · refine rl_bnd (Q := fun (y z : DD) => Up mu 144 y11_2 y11_2r y z) ?_ ?_
                  · refine rl_if (fun c33 => ?_) (fun c33 => ?_)
                    · have dc33 := tl_eq ix2 tn_2 c33
                      exfalso
                      omega
                    · exact rl_some (up_0 mu (κ := 144) _ _)
                  · rintro y14 y14r uy14
                    have uy14 : Up mu 144 y11_2 y11_2r y14 y14r := uy14
                    have ty14 := cx_up ty11_2 uy14
                    have wW_y14 := wq_up uy14 wW_y11_2
                    have wT_y14 := wg_up uy14 wT_y11_2
                    exact rl_some uy14
              · rintro y12 y12r uy12
                have uy12 : Up mu 144 y11_2 y11_2r y12 y12r := uy12
                have ty12 := cx_up ty11_2 uy12
                have wW_y12 := wq_up uy12 wW_y11_2
                have wT_y12 := wg_up uy12 wT_y11_2
                exact rl_some ⟨(up_tr (up_tr (up_tr (up_tr uy8 uy9_2) uy10_2) uy11_2) uy12), wT_y12⟩
      · clear ix2 zx2
        have ix2 : TI x2 2 := yx2
        refine rl_ltI (av_sar 2 i1 (by decide)) (fun x3 ix3 => ?_)
        refine rl_ltI (av_sub ix3 tn_2 (by omega) (by omega)) (fun x4 ix4 => ?_)
        refine rl_ltI (av_sar 2 i2 (by decide)) (fun x5 ix5 => ?_)
        refine rl_ltI (av_sub ix5 tn_2 (by omega) (by omega)) (fun x6 ix6 => ?_)
        refine rl_ltI (av_add i3 tn_5 (by omega) (by omega)) (fun x7 ix7 => ?_)
        refine rl_bnd (r_fillWindow t ⟨rfl, rfl⟩ hq0 ix7 (by omega) (by omega)) ?_
        rintro y8 y8r ⟨uy8', vW_y8⟩
        have uy8 : Up mu 144 M N y8 y8r := uy8'
        have ty8 := cx_up t uy8
        refine rl_bnd (Q := fun (y z : Int32 × DD) => y.1 = z.1 ∧ (0 ≤ y.1.toInt ∧ y.1.toInt ≤ 0) ∧ Up mu 144 y8 y8r y.2 z.2) ?_ ?_
        · refine rl_if (fun c34 => ?_) (fun c34 => ?_)
          · have dc34 := tl_eq ix2 tn_0 c34
            exfalso
            omega
          · refine rl_bnd (Q := fun (y z : Int32 × DD) => y.1 = z.1 ∧ (0 ≤ y.1.toInt ∧ y.1.toInt ≤ 0) ∧ Up mu 144 y8 y8r y.2 z.2) ?_ ?_
            · refine rl_if (fun c35 => ?_) (fun c35 => ?_)
              · have dc35 := tl_eq ix1 tn_0 c35
                refine rl_bnd (Q := fun (y z : Int32 × DD) => y.1 = z.1 ∧ (0 ≤ y.1.toInt ∧ y.1.toInt ≤ 0) ∧ Up mu 144 y8 y8r y.2 z.2) ?_ ?_
                · refine rl_if (fun c36 => ?_) (fun c36 => ?_)
                  · have dc36 := tl_eq ix2 tn_2 c36
                    exact rl_some ⟨rfl, (ti_bd tn_0 (by omega) (by omega)), (up_0 mu (κ := 144) _ _)⟩
                  · have dc36 := tl_ne ix2 tn_2 c36
                    exfalso
                    omega
                · rintro ⟨y44_1, y44_2⟩ ⟨y44_1r, y44_2r⟩ ⟨ey44_1, ly44_1, uy44_2⟩
                  obtain rfl : y44_1 = y44_1r := ey44_1
                  have ly44_1 : 0 ≤ y44_1.toInt ∧ y44_1.toInt ≤ 0 := ly44_1
                  have iy44_1 : TI y44_1 (0) := ti_c ly44_1
                  have uy44_2 : Up mu 144 y8 y8r y44_2 y44_2r := uy44_2
                  have ty44_2 := cx_up ty8 uy44_2
                  have wW_y44_2 := wq_up uy44_2 vW_y8
                  exact rl_some ⟨rfl, (ti_bd iy44_1 (by omega) (by omega)), uy44_2⟩
              · have dc35 := tl_ne ix1 tn_0 c35
                exfalso
                omega
            · rintro ⟨y42_1, y42_2⟩ ⟨y42_1r, y42_2r⟩ ⟨ey42_1, ly42_1, uy42_2⟩
              obtain rfl : y42_1 = y42_1r := ey42_1
              have ly42_1 : 0 ≤ y42_1.toInt ∧ y42_1.toInt ≤ 0 := ly42_1
              have iy42_1 : TI y42_1 (0) := ti_c ly42_1
              have uy42_2 : Up mu 144 y8 y8r y42_2 y42_2r := uy42_2
              have ty42_2 := cx_up ty8 uy42_2
              have wW_y42_2 := wq_up uy42_2 vW_y8
              exact rl_some ⟨rfl, (ti_bd iy42_1 (by omega) (by omega)), uy42_2⟩
        · rintro ⟨y9_1, y9_2⟩ ⟨y9_1r, y9_2r⟩ ⟨ey9_1, ly9_1, uy9_2⟩
          obtain rfl : y9_1 = y9_1r := ey9_1
          have ly9_1 : 0 ≤ y9_1.toInt ∧ y9_1.toInt ≤ 0 := ly9_1
          have iy9_1 : TI y9_1 (0) := ti_c ly9_1
          have uy9_2 : Up mu 144 y8 y8r y9_2 y9_2r := uy9_2
          have ty9_2 := cx_up ty8 uy9_2
          have wW_y9_2 := wq_up uy9_2 vW_y8
          refine rl_bnd (Q := fun (y z : Int32 × DD) => y.1 = z.1 ∧ (0 ≤ y.1.toInt ∧ y.1.toInt ≤ 0) ∧ Up mu 144 y9_2 y9_2r y.2 z.2) ?_ ?_
          · refine rl_if (fun c37 => ?_) (fun c37 => ?_)
            · have dc37 := tl_eq ix1 tn_0 c37
              exact rl_some ⟨rfl, (ti_bd iy9_1 (by omega) (by omega)), (up_0 mu (κ := 144) _ _)⟩
            · have dc37 := tl_ne ix1 tn_0 c37
              exfalso
              omega
          · rintro ⟨y10_1, y10_2⟩ ⟨y10_1r, y10_2r⟩ ⟨ey10_1, ly10_1, uy10_2⟩
            obtain rfl : y10_1 = y10_1r := ey10_1
            have ly10_1 : 0 ≤ y10_1.toInt ∧ y10_1.toInt ≤ 0 := ly10_1
            have iy10_1 : TI y10_1 (0) := ti_c ly10_1
            have uy10_2 : Up mu 144 y9_2 y9_2r y10_2 y10_2r := uy10_2
            have ty10_2 := cx_up ty9_2 uy10_2
            have wW_y10_2 := wq_up uy10_2 wW_y9_2
            refine rl_bnd (Q := fun (y z : Int32 × DD) => y.1 = z.1 ∧ (1 ≤ y.1.toInt ∧ y.1.toInt ≤ 1) ∧ Up mu 144 y10_2 y10_2r y.2 z.2 ∧ WG mu y.2 z.2 c4 0 (16 * 16) (fun j => a5 + j / 16 * 16 + j % 16)) ?_ ?_
            · refine rl_if (fun c38 => ?_) (fun c38 => ?_)
              · have dc38 := tl_eq ix2 tn_0 c38
                exfalso
                omega
              · refine rl_bnd (Q := fun (y z : Int32 × DD) => y.1 = z.1 ∧ (1 ≤ y.1.toInt ∧ y.1.toInt ≤ 1) ∧ Up mu 144 y10_2 y10_2r y.2 z.2 ∧ WG mu y.2 z.2 c4 0 (16 * 16) (fun j => a5 + j / 16 * 16 + j % 16)) ?_ ?_
                · refine rl_if (fun c39 => ?_) (fun c39 => ?_)
                  · have dc39 := tl_eq ix1 tn_2 c39
                    exfalso
                    omega
                  · refine rl_bnd (Q := fun (y z : Int32) => y = z ∧ (0 ≤ y.toInt ∧ y.toInt ≤ 0)) ?_ ?_
                    · refine rl_if (fun c40 => ?_) (fun c40 => ?_)
                      · have dc40 := tl_eq ix1 tn_3 c40
                        exfalso
                        omega
                      · exact rl_some ⟨rfl, (ti_bd tn_0 (by omega) (by omega))⟩
                    · rintro y30 y30r ⟨ey30, ly30⟩
                      obtain rfl : y30 = y30r := ey30
                      have ly30 : 0 ≤ y30.toInt ∧ y30.toInt ≤ 0 := ly30
                      have iy30 : TI y30 (0) := ti_c ly30
                      refine rl_ltI (av_add tn_2 iy30 (by omega) (by omega)) (fun x31 ix31 => ?_)
                      refine rl_bnd (r_tapColumns ty10_2 i3 ix31 ⟨rfl, rfl⟩ hc4 i5 (by omega) (by omega) (by omega) (by omega) (by omega) wW_y10_2 (fun h => absurd (by first | rfl | assumption | omega) h)) ?_
                      rintro y32 y32r ⟨uy32', vT_y32'⟩
                      have uy32 : Up mu 144 y10_2 y10_2r y32 y32r := uy32'
                      have ty32 := cx_up ty10_2 uy32
                      have wW_y32 := wq_up uy32 wW_y10_2
                      have vT_y32 : WG mu y32 y32r c4 0 (16 * 16) (fun j => a5 + j / 16 * 16 + j % 16) := wg_cs vT_y32' (by omega) (by omega) (fun j h1 h2 => by (try dsimp only) <;> omega)
                      exact rl_some ⟨rfl, (ti_bd tn_1 (by omega) (by omega)), uy32, vT_y32⟩
                · rintro ⟨y28_1, y28_2⟩ ⟨y28_1r, y28_2r⟩ ⟨ey28_1, ly28_1, uy28_2, wT_y28_2⟩
                  obtain rfl : y28_1 = y28_1r := ey28_1
                  have ly28_1 : 1 ≤ y28_1.toInt ∧ y28_1.toInt ≤ 1 := ly28_1
                  have iy28_1 : TI y28_1 (1) := ti_c ly28_1
                  have uy28_2 : Up mu 144 y10_2 y10_2r y28_2 y28_2r := uy28_2
                  have ty28_2 := cx_up ty10_2 uy28_2
                  have wW_y28_2 := wq_up uy28_2 wW_y10_2
                  have wT_y28_2 : WG mu y28_2 y28_2r c4 0 (16 * 16) (fun j => a5 + j / 16 * 16 + j % 16) := wT_y28_2
                  exact rl_some ⟨rfl, (ti_bd iy28_1 (by omega) (by omega)), uy28_2, wT_y28_2⟩
            · rintro ⟨y11_1, y11_2⟩ ⟨y11_1r, y11_2r⟩ ⟨ey11_1, ly11_1, uy11_2, wT_y11_2⟩
              obtain rfl : y11_1 = y11_1r := ey11_1
              have ly11_1 : 1 ≤ y11_1.toInt ∧ y11_1.toInt ≤ 1 := ly11_1
              have iy11_1 : TI y11_1 (1) := ti_c ly11_1
              have uy11_2 : Up mu 144 y10_2 y10_2r y11_2 y11_2r := uy11_2
              have ty11_2 := cx_up ty10_2 uy11_2
              have wW_y11_2 := wq_up uy11_2 wW_y10_2
              have wT_y11_2 : WG mu y11_2 y11_2r c4 0 (16 * 16) (fun j => a5 + j / 16 * 16 + j % 16) := wT_y11_2
              refine rl_bnd (Q := fun (y z : DD) => Up mu 144 y11_2 y11_2r y z) ?_ ?_
              · refine rl_if (fun c41 => ?_) (fun c41 => ?_)
                · have dc41 := tl_eq ix1 tn_2 c41
                  exfalso
                  omega
                · refine rl_bnd (Q := fun (y z : DD) => Up mu 144 y11_2 y11_2r y z) ?_ ?_
                  · refine rl_if (fun c42 => ?_) (fun c42 => ?_)
                    · have dc42 := tl_eq ix2 tn_2 c42
                      refine rl_bnd (Q := fun (y z : DD) => Up mu 144 y11_2 y11_2r y z) ?_ ?_
                      · refine rl_if (fun c43 => ?_) (fun c43 => ?_)
                        · have dc43 := tl_eq ix1 tn_0 c43
                          exact rl_some (up_0 mu (κ := 144) _ _)
                        · have dc43 := tl_ne ix1 tn_0 c43
                          exfalso
                          omega
                      · rintro y16 y16r uy16
                        have uy16 : Up mu 144 y11_2 y11_2r y16 y16r := uy16
                        have ty16 := cx_up ty11_2 uy16
                        have wW_y16 := wq_up uy16 wW_y11_2
                        have wT_y16 := wg_up uy16 wT_y11_2
                        exact rl_some uy16
                    · have dc42 := tl_ne ix2 tn_2 c42
                      exfalso
                      omega
                  · rintro y14 y14r uy14
                    have uy14 : Up mu 144 y11_2 y11_2r y14 y14r := uy14
                    have ty14 := cx_up ty11_2 uy14
                    have wW_y14 := wq_up uy14 wW_y11_2
                    have wT_y14 := wg_up uy14 wT_y11_2
                    exact rl_some uy14
              · rintro y12 y12r uy12
                have uy12 : Up mu 144 y11_2 y11_2r y12 y12r := uy12
                have ty12 := cx_up ty11_2 uy12
                have wW_y12 := wq_up uy12 wW_y11_2
                have wT_y12 := wg_up uy12 wT_y11_2
                exact rl_some ⟨(up_tr (up_tr (up_tr (up_tr uy8 uy9_2) uy10_2) uy11_2) uy12), wT_y12⟩
      · clear ix2 zx2
        have ix2 : TI x2 3 := yx2
        refine rl_ltI (av_sar 2 i1 (by decide)) (fun x3 ix3 => ?_)
        refine rl_ltI (av_sub ix3 tn_2 (by omega) (by omega)) (fun x4 ix4 => ?_)
        refine rl_ltI (av_sar 2 i2 (by decide)) (fun x5 ix5 => ?_)
        refine rl_ltI (av_sub ix5 tn_2 (by omega) (by omega)) (fun x6 ix6 => ?_)
        refine rl_ltI (av_add i3 tn_5 (by omega) (by omega)) (fun x7 ix7 => ?_)
        refine rl_bnd (r_fillWindow t ⟨rfl, rfl⟩ hq0 ix7 (by omega) (by omega)) ?_
        rintro y8 y8r ⟨uy8', vW_y8⟩
        have uy8 : Up mu 144 M N y8 y8r := uy8'
        have ty8 := cx_up t uy8
        refine rl_bnd (Q := fun (y z : Int32 × DD) => y.1 = z.1 ∧ (1 ≤ y.1.toInt ∧ y.1.toInt ≤ 1) ∧ Up mu 144 y8 y8r y.2 z.2 ∧ WG mu y.2 z.2 c4 0 (16 * 16) (fun j => a5 + j / 16 * 16 + j % 16)) ?_ ?_
        · refine rl_if (fun c44 => ?_) (fun c44 => ?_)
          · have dc44 := tl_eq ix2 tn_0 c44
            exfalso
            omega
          · refine rl_bnd (Q := fun (y z : Int32 × DD) => y.1 = z.1 ∧ (1 ≤ y.1.toInt ∧ y.1.toInt ≤ 1) ∧ Up mu 144 y8 y8r y.2 z.2 ∧ WG mu y.2 z.2 c4 0 (16 * 16) (fun j => a5 + j / 16 * 16 + j % 16)) ?_ ?_
            · refine rl_if (fun c45 => ?_) (fun c45 => ?_)
              · have dc45 := tl_eq ix1 tn_0 c45
                refine rl_bnd (Q := fun (y z : Int32 × DD) => y.1 = z.1 ∧ (1 ≤ y.1.toInt ∧ y.1.toInt ≤ 1) ∧ Up mu 144 y8 y8r y.2 z.2 ∧ WG mu y.2 z.2 c4 0 (16 * 16) (fun j => a5 + j / 16 * 16 + j % 16)) ?_ ?_
                · refine rl_if (fun c46 => ?_) (fun c46 => ?_)
                  · have dc46 := tl_eq ix2 tn_2 c46
                    exfalso
                    omega
                  · refine rl_bnd (Q := fun (y z : Int32) => y = z ∧ (1 ≤ y.toInt ∧ y.toInt ≤ 1)) ?_ ?_
                    · refine rl_if (fun c47 => ?_) (fun c47 => ?_)
                      · have dc47 := tl_eq ix2 tn_3 c47
                        exact rl_some ⟨rfl, (ti_bd tn_1 (by omega) (by omega))⟩
                      · have dc47 := tl_ne ix2 tn_3 c47
                        exfalso
                        omega
                    · rintro y46 y46r ⟨ey46, ly46⟩
                      obtain rfl : y46 = y46r := ey46
                      have ly46 : 1 ≤ y46.toInt ∧ y46.toInt ≤ 1 := ly46
                      have iy46 : TI y46 (1) := ti_c ly46
                      have ky46 : y46.toInt = _ := iy46
                      refine rl_ltI (av_add tn_2 iy46 (by omega) (by omega)) (fun x47 ix47 => ?_)
                      refine rl_ltI (av_mul ix47 tn_21 (by omega) (by omega)) (fun x48 ix48 => ?_)
                      refine rl_ltI (av_add ix48 tn_2 (by omega) (by omega)) (fun x49 ix49 => ?_)
                      refine rl_bnd (Q := fun (y z : Int32) => y = z ∧ (0 ≤ y.toInt ∧ y.toInt ≤ 0)) ?_ ?_
                      · refine rl_if (fun c48 => ?_) (fun c48 => ?_)
                        · have dc48 := tl_eq ix1 tn_3 c48
                          exfalso
                          omega
                        · exact rl_some ⟨rfl, (ti_bd tn_0 (by omega) (by omega))⟩
                      · rintro y50 y50r ⟨ey50, ly50⟩
                        obtain rfl : y50 = y50r := ey50
                        have ly50 : 0 ≤ y50.toInt ∧ y50.toInt ≤ 0 := ly50
                        have iy50 : TI y50 (0) := ti_c ly50
                        have ky50 : y50.toInt = _ := iy50
                        refine rl_ltI (av_add ix49 iy50 (by omega) (by omega)) (fun x51 ix51 => ?_)
                        refine rl_bnd (Q := fun (y z : Int32 × DD) => y.1 = z.1 ∧ (0 ≤ y.1.toInt ∧ y.1.toInt ≤ (16 * 16)) ∧ Up mu 144 y8 y8r y.2 z.2 ∧ WG mu y.2 z.2 c4 (0) (16 * 16) (fun j => a5 + j / 16 * 16 + j % 16)) (rl_itr (fun (y z : Int32 × DD) => y.1 = z.1 ∧ (0 ≤ y.1.toInt ∧ y.1.toInt ≤ (16 * 16)) ∧ Up mu 144 y8 y8r y.2 z.2 ∧ WG mu y.2 z.2 c4 (0) (y.1.toInt) (fun j => a5 + j / 16 * 16 + j % 16)) _ ?_ _ _ _ ?_) ?_
                        · rintro ⟨s53_1, s53_2⟩ ⟨s53_1r, s53_2r⟩ ⟨es53_1, ls53_1, us53_2, vT_s53_2⟩
                          obtain rfl : s53_1 = s53_1r := es53_1
                          have ls53_1 : 0 ≤ s53_1.toInt ∧ s53_1.toInt ≤ (16 * 16) := ls53_1
                          have is53_1 : TI s53_1 s53_1.toInt := rfl
                          have us53_2 : Up mu 144 y8 y8r s53_2 s53_2r := us53_2
                          have ts53_2 := cx_up ty8 us53_2
                          have wW_s53_2 := wq_up us53_2 vW_y8
                          have vT_s53_2 : WG mu s53_2 s53_2r c4 (0) (s53_1.toInt) (fun j => a5 + j / 16 * 16 + j % 16) := vT_s53_2
                          refine rl_ltI (av_mul i3 i3 (by omega) (by omega)) (fun x56 ix56 => ?_)
                          refine rl_if (fun c49 => ?_) (fun c49 => ?_)
                          · have dc49 := tl_le ix56 is53_1 c49
                            exact rl_inr ⟨rfl, (ti_bd is53_1 (by omega) (by omega)), us53_2, (wg_sub vT_s53_2 (by omega) (by omega))⟩
                          · have dc49 := tl_nle ix56 is53_1 c49
                            refine rl_chk (fun h => h) (fun k50 => ?_)
                            refine rl_ltI (av_div is53_1 i3 (by omega) (by omega)) (fun x58 ix58 => ?_)
                            refine rl_ltI (av_mul ix58 tn_16 (by omega) (by omega)) (fun x59 ix59 => ?_)
                            refine rl_ltI (av_add i5 ix59 (by omega) (by omega)) (fun x60 ix60 => ?_)
                            refine rl_chk (fun h => h) (fun k51 => ?_)
                            refine rl_ltI (av_mod is53_1 i3 (by omega) (by omega)) (fun x61 ix61 => ?_)
                            refine rl_ltI (av_add ix60 ix61 (by omega) (by omega)) (fun x62 ix62 => ?_)
                            refine rl_chk (fun h => h) (fun k52 => ?_)
                            refine rl_ltI (av_div is53_1 i3 (by omega) (by omega)) (fun x63 ix63 => ?_)
                            refine rl_ltI (av_mul ix63 tn_21 (by omega) (by omega)) (fun x64 ix64 => ?_)
                            refine rl_ltI (av_add ix51 ix64 (by omega) (by omega)) (fun x65 ix65 => ?_)
                            refine rl_chk (fun h => h) (fun k53 => ?_)
                            refine rl_ltI (av_mod is53_1 i3 (by omega) (by omega)) (fun x66 ix66 => ?_)
                            refine rl_ltI (av_add ix65 ix66 (by omega) (by omega)) (fun x67 ix67 => ?_)
                            refine rl_dr (cx_U ts53_2) (rx_c (a := 138) (k := 3) (b := 142) ts53_2 (Or.inr (Or.inl rfl)) rfl (by decide)) (fun gb68 => ?_)
                            refine rl_chk (chkl (cx_U ts53_2) gb68) (fun k54 => ?_)
                            refine rl_rd (wq_use wW_s53_2 ix67 (s53_1.toInt / 16 + 2 + y46.toInt) (s53_1.toInt % 16 + 2 + y50.toInt) (by omega) (by omega) (by omega) (by omega) (by (try dsimp only) <;> omega)) (fun x69 => ?_)
                            refine rl_dr (cx_U ts53_2) ⟨rfl, rfl⟩ (fun gb70 => ?_)
                            refine rl_chk (chkl (cx_U ts53_2) gb70) (fun k55 => ?_)
                            refine rl_w (κ := 144) (cx_U ts53_2) (by rcases hc4 with h | h <;> omega) (fun M71 M71r uM71 AM71 nM71 => ?_)
                            have tM71 := cx_up ts53_2 uM71
                            have wW_M71 := wq_up uM71 wW_s53_2
                            have wT_M71 := wg_up uM71 vT_s53_2
                            refine rl_ltI (av_add is53_1 tn_1 (by omega) (by omega)) (fun x72 ix72 => ?_)
                            exact rl_inl ⟨rfl, (ti_bd ix72 (by omega) (by omega)), (up_tr us53_2 uM71), (wg_ext wT_M71 ix62 (ag_up (up_0 mu (κ := 144) _ _) AM71) (by (try dsimp only) <;> omega) (by have q : _ = _ := ix72; (try dsimp only) <;> omega))⟩
                        · exact ⟨rfl, (ti_bd tn_0 (by omega) (by omega)), (up_0 mu (κ := 144) _ _), (wg_0 (by have q : _ = _ := tn_0; (try dsimp only) <;> omega))⟩
                        · rintro ⟨y52_1, y52_2⟩ ⟨y52_1r, y52_2r⟩ ⟨ey52_1, ly52_1, uy52_2, vT_y52_2⟩
                          obtain rfl : y52_1 = y52_1r := ey52_1
                          have ly52_1 : 0 ≤ y52_1.toInt ∧ y52_1.toInt ≤ (16 * 16) := ly52_1
                          have iy52_1 : TI y52_1 y52_1.toInt := rfl
                          have uy52_2 : Up mu 144 y8 y8r y52_2 y52_2r := uy52_2
                          have ty52_2 := cx_up ty8 uy52_2
                          have wW_y52_2 := wq_up uy52_2 vW_y8
                          have vT_y52_2 : WG mu y52_2 y52_2r c4 (0) (16 * 16) (fun j => a5 + j / 16 * 16 + j % 16) := vT_y52_2
                          exact rl_some ⟨rfl, (ti_bd tn_1 (by omega) (by omega)), uy52_2, vT_y52_2⟩
                · rintro ⟨y44_1, y44_2⟩ ⟨y44_1r, y44_2r⟩ ⟨ey44_1, ly44_1, uy44_2, wT_y44_2⟩
                  obtain rfl : y44_1 = y44_1r := ey44_1
                  have ly44_1 : 1 ≤ y44_1.toInt ∧ y44_1.toInt ≤ 1 := ly44_1
                  have iy44_1 : TI y44_1 (1) := ti_c ly44_1
                  have uy44_2 : Up mu 144 y8 y8r y44_2 y44_2r := uy44_2
                  have ty44_2 := cx_up ty8 uy44_2
                  have wW_y44_2 := wq_up uy44_2 vW_y8
                  have wT_y44_2 : WG mu y44_2 y44_2r c4 0 (16 * 16) (fun j => a5 + j / 16 * 16 + j % 16) := wT_y44_2
                  exact rl_some ⟨rfl, (ti_bd iy44_1 (by omega) (by omega)), uy44_2, wT_y44_2⟩
              · have dc45 := tl_ne ix1 tn_0 c45
                exfalso
                omega
            · rintro ⟨y42_1, y42_2⟩ ⟨y42_1r, y42_2r⟩ ⟨ey42_1, ly42_1, uy42_2, wT_y42_2⟩
              obtain rfl : y42_1 = y42_1r := ey42_1
              have ly42_1 : 1 ≤ y42_1.toInt ∧ y42_1.toInt ≤ 1 := ly42_1
              have iy42_1 : TI y42_1 (1) := ti_c ly42_1
              have uy42_2 : Up mu 144 y8 y8r y42_2 y42_2r := uy42_2
              have ty42_2 := cx_up ty8 uy42_2
              have wW_y42_2 := wq_up uy42_2 vW_y8
              have wT_y42_2 : WG mu y42_2 y42_2r c4 0 (16 * 16) (fun j => a5 + j / 16 * 16 + j % 16) := wT_y42_2
              exact rl_some ⟨rfl, (ti_bd iy42_1 (by omega) (by omega)), uy42_2, wT_y42_2⟩
        · rintro ⟨y9_1, y9_2⟩ ⟨y9_1r, y9_2r⟩ ⟨ey9_1, ly9_1, uy9_2, wT_y9_2⟩
          obtain rfl : y9_1 = y9_1r := ey9_1
          have ly9_1 : 1 ≤ y9_1.toInt ∧ y9_1.toInt ≤ 1 := ly9_1
          have iy9_1 : TI y9_1 (1) := ti_c ly9_1
          have uy9_2 : Up mu 144 y8 y8r y9_2 y9_2r := uy9_2
          have ty9_2 := cx_up ty8 uy9_2
          have wW_y9_2 := wq_up uy9_2 vW_y8
          have wT_y9_2 : WG mu y9_2 y9_2r c4 0 (16 * 16) (fun j => a5 + j / 16 * 16 + j % 16) := wT_y9_2
          refine rl_bnd (Q := fun (y z : Int32 × DD) => y.1 = z.1 ∧ (1 ≤ y.1.toInt ∧ y.1.toInt ≤ 1) ∧ Up mu 144 y9_2 y9_2r y.2 z.2) ?_ ?_
          · refine rl_if (fun c56 => ?_) (fun c56 => ?_)
            · have dc56 := tl_eq ix1 tn_0 c56
              exact rl_some ⟨rfl, (ti_bd iy9_1 (by omega) (by omega)), (up_0 mu (κ := 144) _ _)⟩
            · have dc56 := tl_ne ix1 tn_0 c56
              exfalso
              omega
          · rintro ⟨y10_1, y10_2⟩ ⟨y10_1r, y10_2r⟩ ⟨ey10_1, ly10_1, uy10_2⟩
            obtain rfl : y10_1 = y10_1r := ey10_1
            have ly10_1 : 1 ≤ y10_1.toInt ∧ y10_1.toInt ≤ 1 := ly10_1
            have iy10_1 : TI y10_1 (1) := ti_c ly10_1
            have uy10_2 : Up mu 144 y9_2 y9_2r y10_2 y10_2r := uy10_2
            have ty10_2 := cx_up ty9_2 uy10_2
            have wW_y10_2 := wq_up uy10_2 wW_y9_2
            have wT_y10_2 := wg_up uy10_2 wT_y9_2
            refine rl_bnd (Q := fun (y z : Int32 × DD) => y.1 = z.1 ∧ (1 ≤ y.1.toInt ∧ y.1.toInt ≤ 1) ∧ Up mu 144 y10_2 y10_2r y.2 z.2) ?_ ?_
            · refine rl_if (fun c57 => ?_) (fun c57 => ?_)
              · have dc57 := tl_eq ix2 tn_0 c57
                exfalso
                omega
              · refine rl_bnd (Q := fun (y z : Int32 × DD) => y.1 = z.1 ∧ (1 ≤ y.1.toInt ∧ y.1.toInt ≤ 1) ∧ Up mu 144 y10_2 y10_2r y.2 z.2) ?_ ?_
                · refine rl_if (fun c58 => ?_) (fun c58 => ?_)
                  · have dc58 := tl_eq ix1 tn_2 c58
                    exfalso
                    omega
                  · refine rl_bnd (Q := fun (y z : Int32) => y = z ∧ (0 ≤ y.toInt ∧ y.toInt ≤ 0)) ?_ ?_
                    · refine rl_if (fun c59 => ?_) (fun c59 => ?_)
                      · have dc59 := tl_eq ix1 tn_3 c59
                        exfalso
                        omega
                      · exact rl_some ⟨rfl, (ti_bd tn_0 (by omega) (by omega))⟩
                    · rintro y30 y30r ⟨ey30, ly30⟩
                      obtain rfl : y30 = y30r := ey30
                      have ly30 : 0 ≤ y30.toInt ∧ y30.toInt ≤ 0 := ly30
                      have iy30 : TI y30 (0) := ti_c ly30
                      refine rl_ltI (av_add tn_2 iy30 (by omega) (by omega)) (fun x31 ix31 => ?_)
                      refine rl_bnd (r_tapColumns ty10_2 i3 ix31 ⟨rfl, rfl⟩ hc4 i5 (by omega) (by omega) (by omega) (by omega) (by omega) wW_y10_2 (fun _ => wg_cs wT_y10_2 (by omega) (by omega) (fun j h1 h2 => by (try dsimp only) <;> omega))) ?_
                      rintro y32 y32r ⟨uy32', vT_y32'⟩
                      have uy32 : Up mu 144 y10_2 y10_2r y32 y32r := uy32'
                      have ty32 := cx_up ty10_2 uy32
                      have wW_y32 := wq_up uy32 wW_y10_2
                      have wT_y32 := wg_up uy32 wT_y10_2
                      have vT_y32 : WG mu y32 y32r c4 0 (16 * 16) (fun j => a5 + j / 16 * 16 + j % 16) := wg_cs vT_y32' (by omega) (by omega) (fun j h1 h2 => by (try dsimp only) <;> omega)
                      exact rl_some ⟨rfl, (ti_bd tn_1 (by omega) (by omega)), uy32⟩
                · rintro ⟨y28_1, y28_2⟩ ⟨y28_1r, y28_2r⟩ ⟨ey28_1, ly28_1, uy28_2⟩
                  obtain rfl : y28_1 = y28_1r := ey28_1
                  have ly28_1 : 1 ≤ y28_1.toInt ∧ y28_1.toInt ≤ 1 := ly28_1
                  have iy28_1 : TI y28_1 (1) := ti_c ly28_1
                  have uy28_2 : Up mu 144 y10_2 y10_2r y28_2 y28_2r := uy28_2
                  have ty28_2 := cx_up ty10_2 uy28_2
                  have wW_y28_2 := wq_up uy28_2 wW_y10_2
                  have wT_y28_2 := wg_up uy28_2 wT_y10_2
                  exact rl_some ⟨rfl, (ti_bd iy28_1 (by omega) (by omega)), uy28_2⟩
            · rintro ⟨y11_1, y11_2⟩ ⟨y11_1r, y11_2r⟩ ⟨ey11_1, ly11_1, uy11_2⟩
              obtain rfl : y11_1 = y11_1r := ey11_1
              have ly11_1 : 1 ≤ y11_1.toInt ∧ y11_1.toInt ≤ 1 := ly11_1
              have iy11_1 : TI y11_1 (1) := ti_c ly11_1
              have uy11_2 : Up mu 144 y10_2 y10_2r y11_2 y11_2r := uy11_2
              have ty11_2 := cx_up ty10_2 uy11_2
              have wW_y11_2 := wq_up uy11_2 wW_y10_2
              have wT_y11_2 := wg_up uy11_2 wT_y10_2
              refine rl_bnd (Q := fun (y z : DD) => Up mu 144 y11_2 y11_2r y z) ?_ ?_
              · refine rl_if (fun c60 => ?_) (fun c60 => ?_)
                · have dc60 := tl_eq ix1 tn_2 c60
                  exfalso
                  omega
                · refine rl_bnd (Q := fun (y z : DD) => Up mu 144 y11_2 y11_2r y z) ?_ ?_
                  · refine rl_if (fun c61 => ?_) (fun c61 => ?_)
                    · have dc61 := tl_eq ix2 tn_2 c61
                      exfalso
                      omega
                    · exact rl_some (up_0 mu (κ := 144) _ _)
                  · rintro y14 y14r uy14
                    have uy14 : Up mu 144 y11_2 y11_2r y14 y14r := uy14
                    have ty14 := cx_up ty11_2 uy14
                    have wW_y14 := wq_up uy14 wW_y11_2
                    have wT_y14 := wg_up uy14 wT_y11_2
                    exact rl_some uy14
              · rintro y12 y12r uy12
                have uy12 : Up mu 144 y11_2 y11_2r y12 y12r := uy12
                have ty12 := cx_up ty11_2 uy12
                have wW_y12 := wq_up uy12 wW_y11_2
                have wT_y12 := wg_up uy12 wT_y11_2
                exact rl_some ⟨(up_tr (up_tr (up_tr (up_tr uy8 uy9_2) uy10_2) uy11_2) uy12), wT_y12⟩
    · clear ix1 zx1
      have ix1 : TI x1 1 := yx1
      refine rl_ltI (av_and 2 i2 (by decide) (by decide)) (fun x2 ix2 => ?_)
      have zx2 : x2.toInt = _ := ix2
      rcases (by omega : x2.toInt = 0 ∨ x2.toInt = 1 ∨ x2.toInt = 2 ∨ x2.toInt = 3) with yx2 | yx2 | yx2 | yx2
      · clear ix2 zx2
        have ix2 : TI x2 0 := yx2
        refine rl_ltI (av_sar 2 i1 (by decide)) (fun x3 ix3 => ?_)
        refine rl_ltI (av_sub ix3 tn_2 (by omega) (by omega)) (fun x4 ix4 => ?_)
        refine rl_ltI (av_sar 2 i2 (by decide)) (fun x5 ix5 => ?_)
        refine rl_ltI (av_sub ix5 tn_2 (by omega) (by omega)) (fun x6 ix6 => ?_)
        refine rl_ltI (av_add i3 tn_5 (by omega) (by omega)) (fun x7 ix7 => ?_)
        refine rl_bnd (r_fillWindow t ⟨rfl, rfl⟩ hq0 ix7 (by omega) (by omega)) ?_
        rintro y8 y8r ⟨uy8', vW_y8⟩
        have uy8 : Up mu 144 M N y8 y8r := uy8'
        have ty8 := cx_up t uy8
        refine rl_bnd (Q := fun (y z : Int32 × DD) => y.1 = z.1 ∧ (1 ≤ y.1.toInt ∧ y.1.toInt ≤ 1) ∧ Up mu 144 y8 y8r y.2 z.2 ∧ WG mu y.2 z.2 c4 0 (16 * 16) (fun j => a5 + j / 16 * 16 + j % 16)) ?_ ?_
        · refine rl_if (fun c62 => ?_) (fun c62 => ?_)
          · have dc62 := tl_eq ix2 tn_0 c62
            refine rl_bnd (Q := fun (y z : Int32 × DD) => y.1 = z.1 ∧ (1 ≤ y.1.toInt ∧ y.1.toInt ≤ 1) ∧ Up mu 144 y8 y8r y.2 z.2 ∧ WG mu y.2 z.2 c4 0 (16 * 16) (fun j => a5 + j / 16 * 16 + j % 16)) ?_ ?_
            · refine rl_if (fun c63 => ?_) (fun c63 => ?_)
              · have dc63 := tl_eq ix1 tn_2 c63
                exfalso
                omega
              · refine rl_bnd (Q := fun (y z : Int32) => y = z ∧ (0 ≤ y.toInt ∧ y.toInt ≤ 0)) ?_ ?_
                · refine rl_if (fun c64 => ?_) (fun c64 => ?_)
                  · have dc64 := tl_eq ix2 tn_3 c64
                    exfalso
                    omega
                  · exact rl_some ⟨rfl, (ti_bd tn_0 (by omega) (by omega))⟩
                · rintro y77 y77r ⟨ey77, ly77⟩
                  obtain rfl : y77 = y77r := ey77
                  have ly77 : 0 ≤ y77.toInt ∧ y77.toInt ≤ 0 := ly77
                  have iy77 : TI y77 (0) := ti_c ly77
                  have ky77 : y77.toInt = _ := iy77
                  refine rl_ltI (av_add tn_2 iy77 (by omega) (by omega)) (fun x78 ix78 => ?_)
                  refine rl_ltI (av_mul ix78 tn_21 (by omega) (by omega)) (fun x79 ix79 => ?_)
                  refine rl_ltI (av_add ix79 tn_2 (by omega) (by omega)) (fun x80 ix80 => ?_)
                  refine rl_bnd (Q := fun (y z : Int32) => y = z ∧ (0 ≤ y.toInt ∧ y.toInt ≤ 0)) ?_ ?_
                  · refine rl_if (fun c65 => ?_) (fun c65 => ?_)
                    · have dc65 := tl_eq ix1 tn_3 c65
                      exfalso
                      omega
                    · exact rl_some ⟨rfl, (ti_bd tn_0 (by omega) (by omega))⟩
                  · rintro y81 y81r ⟨ey81, ly81⟩
                    obtain rfl : y81 = y81r := ey81
                    have ly81 : 0 ≤ y81.toInt ∧ y81.toInt ≤ 0 := ly81
                    have iy81 : TI y81 (0) := ti_c ly81
                    have ky81 : y81.toInt = _ := iy81
                    refine rl_ltI (av_add ix80 iy81 (by omega) (by omega)) (fun x82 ix82 => ?_)
                    refine rl_bnd (Q := fun (y z : Int32 × DD) => y.1 = z.1 ∧ (0 ≤ y.1.toInt ∧ y.1.toInt ≤ (16 * 16)) ∧ Up mu 144 y8 y8r y.2 z.2 ∧ WG mu y.2 z.2 c4 (0) (16 * 16) (fun j => a5 + j / 16 * 16 + j % 16)) (rl_itr (fun (y z : Int32 × DD) => y.1 = z.1 ∧ (0 ≤ y.1.toInt ∧ y.1.toInt ≤ (16 * 16)) ∧ Up mu 144 y8 y8r y.2 z.2 ∧ WG mu y.2 z.2 c4 (0) (y.1.toInt) (fun j => a5 + j / 16 * 16 + j % 16)) _ ?_ _ _ _ ?_) ?_
                    · rintro ⟨s84_1, s84_2⟩ ⟨s84_1r, s84_2r⟩ ⟨es84_1, ls84_1, us84_2, vT_s84_2⟩
                      obtain rfl : s84_1 = s84_1r := es84_1
                      have ls84_1 : 0 ≤ s84_1.toInt ∧ s84_1.toInt ≤ (16 * 16) := ls84_1
                      have is84_1 : TI s84_1 s84_1.toInt := rfl
                      have us84_2 : Up mu 144 y8 y8r s84_2 s84_2r := us84_2
                      have ts84_2 := cx_up ty8 us84_2
                      have wW_s84_2 := wq_up us84_2 vW_y8
                      have vT_s84_2 : WG mu s84_2 s84_2r c4 (0) (s84_1.toInt) (fun j => a5 + j / 16 * 16 + j % 16) := vT_s84_2
                      refine rl_ltI (av_mul i3 i3 (by omega) (by omega)) (fun x87 ix87 => ?_)
                      refine rl_if (fun c66 => ?_) (fun c66 => ?_)
                      · have dc66 := tl_le ix87 is84_1 c66
                        exact rl_inr ⟨rfl, (ti_bd is84_1 (by omega) (by omega)), us84_2, (wg_sub vT_s84_2 (by omega) (by omega))⟩
                      · have dc66 := tl_nle ix87 is84_1 c66
                        refine rl_chk (fun h => h) (fun k67 => ?_)
                        refine rl_ltI (av_div is84_1 i3 (by omega) (by omega)) (fun x89 ix89 => ?_)
                        refine rl_ltI (av_mul ix89 tn_16 (by omega) (by omega)) (fun x90 ix90 => ?_)
                        refine rl_ltI (av_add i5 ix90 (by omega) (by omega)) (fun x91 ix91 => ?_)
                        refine rl_chk (fun h => h) (fun k68 => ?_)
                        refine rl_ltI (av_mod is84_1 i3 (by omega) (by omega)) (fun x92 ix92 => ?_)
                        refine rl_ltI (av_add ix91 ix92 (by omega) (by omega)) (fun x93 ix93 => ?_)
                        refine rl_chk (fun h => h) (fun k69 => ?_)
                        refine rl_ltI (av_div is84_1 i3 (by omega) (by omega)) (fun x94 ix94 => ?_)
                        refine rl_ltI (av_mul ix94 tn_21 (by omega) (by omega)) (fun x95 ix95 => ?_)
                        refine rl_ltI (av_add ix82 ix95 (by omega) (by omega)) (fun x96 ix96 => ?_)
                        refine rl_chk (fun h => h) (fun k70 => ?_)
                        refine rl_ltI (av_mod is84_1 i3 (by omega) (by omega)) (fun x97 ix97 => ?_)
                        refine rl_ltI (av_add ix96 ix97 (by omega) (by omega)) (fun x98 ix98 => ?_)
                        refine rl_dr (cx_U ts84_2) (rx_c (a := 138) (k := 3) (b := 142) ts84_2 (Or.inr (Or.inl rfl)) rfl (by decide)) (fun gb99 => ?_)
                        refine rl_chk (chkl (cx_U ts84_2) gb99) (fun k71 => ?_)
                        refine rl_rd (wq_use wW_s84_2 ix98 (s84_1.toInt / 16 + 2 + y77.toInt) (s84_1.toInt % 16 + 2 + y81.toInt) (by omega) (by omega) (by omega) (by omega) (by (try dsimp only) <;> omega)) (fun x100 => ?_)
                        refine rl_dr (cx_U ts84_2) ⟨rfl, rfl⟩ (fun gb101 => ?_)
                        refine rl_chk (chkl (cx_U ts84_2) gb101) (fun k72 => ?_)
                        refine rl_w (κ := 144) (cx_U ts84_2) (by rcases hc4 with h | h <;> omega) (fun M102 M102r uM102 AM102 nM102 => ?_)
                        have tM102 := cx_up ts84_2 uM102
                        have wW_M102 := wq_up uM102 wW_s84_2
                        have wT_M102 := wg_up uM102 vT_s84_2
                        refine rl_ltI (av_add is84_1 tn_1 (by omega) (by omega)) (fun x103 ix103 => ?_)
                        exact rl_inl ⟨rfl, (ti_bd ix103 (by omega) (by omega)), (up_tr us84_2 uM102), (wg_ext wT_M102 ix93 (ag_up (up_0 mu (κ := 144) _ _) AM102) (by (try dsimp only) <;> omega) (by have q : _ = _ := ix103; (try dsimp only) <;> omega))⟩
                    · exact ⟨rfl, (ti_bd tn_0 (by omega) (by omega)), (up_0 mu (κ := 144) _ _), (wg_0 (by have q : _ = _ := tn_0; (try dsimp only) <;> omega))⟩
                    · rintro ⟨y83_1, y83_2⟩ ⟨y83_1r, y83_2r⟩ ⟨ey83_1, ly83_1, uy83_2, vT_y83_2⟩
                      obtain rfl : y83_1 = y83_1r := ey83_1
                      have ly83_1 : 0 ≤ y83_1.toInt ∧ y83_1.toInt ≤ (16 * 16) := ly83_1
                      have iy83_1 : TI y83_1 y83_1.toInt := rfl
                      have uy83_2 : Up mu 144 y8 y8r y83_2 y83_2r := uy83_2
                      have ty83_2 := cx_up ty8 uy83_2
                      have wW_y83_2 := wq_up uy83_2 vW_y8
                      have vT_y83_2 : WG mu y83_2 y83_2r c4 (0) (16 * 16) (fun j => a5 + j / 16 * 16 + j % 16) := vT_y83_2
                      exact rl_some ⟨rfl, (ti_bd tn_1 (by omega) (by omega)), uy83_2, vT_y83_2⟩
            · rintro ⟨y75_1, y75_2⟩ ⟨y75_1r, y75_2r⟩ ⟨ey75_1, ly75_1, uy75_2, wT_y75_2⟩
              obtain rfl : y75_1 = y75_1r := ey75_1
              have ly75_1 : 1 ≤ y75_1.toInt ∧ y75_1.toInt ≤ 1 := ly75_1
              have iy75_1 : TI y75_1 (1) := ti_c ly75_1
              have uy75_2 : Up mu 144 y8 y8r y75_2 y75_2r := uy75_2
              have ty75_2 := cx_up ty8 uy75_2
              have wW_y75_2 := wq_up uy75_2 vW_y8
              have wT_y75_2 : WG mu y75_2 y75_2r c4 0 (16 * 16) (fun j => a5 + j / 16 * 16 + j % 16) := wT_y75_2
              exact rl_some ⟨rfl, (ti_bd iy75_1 (by omega) (by omega)), uy75_2, wT_y75_2⟩
          · have dc62 := tl_ne ix2 tn_0 c62
            exfalso
            omega
        · rintro ⟨y9_1, y9_2⟩ ⟨y9_1r, y9_2r⟩ ⟨ey9_1, ly9_1, uy9_2, wT_y9_2⟩
          obtain rfl : y9_1 = y9_1r := ey9_1
          have ly9_1 : 1 ≤ y9_1.toInt ∧ y9_1.toInt ≤ 1 := ly9_1
          have iy9_1 : TI y9_1 (1) := ti_c ly9_1
          have uy9_2 : Up mu 144 y8 y8r y9_2 y9_2r := uy9_2
          have ty9_2 := cx_up ty8 uy9_2
          have wW_y9_2 := wq_up uy9_2 vW_y8
          have wT_y9_2 : WG mu y9_2 y9_2r c4 0 (16 * 16) (fun j => a5 + j / 16 * 16 + j % 16) := wT_y9_2
          refine rl_bnd (Q := fun (y z : Int32 × DD) => y.1 = z.1 ∧ (1 ≤ y.1.toInt ∧ y.1.toInt ≤ 1) ∧ Up mu 144 y9_2 y9_2r y.2 z.2) ?_ ?_
          · refine rl_if (fun c73 => ?_) (fun c73 => ?_)
            · have dc73 := tl_eq ix1 tn_0 c73
              exfalso
              omega
            · refine rl_bnd (Q := fun (y z : Int32 × DD) => y.1 = z.1 ∧ (1 ≤ y.1.toInt ∧ y.1.toInt ≤ 1) ∧ Up mu 144 y9_2 y9_2r y.2 z.2) ?_ ?_
              · refine rl_if (fun c74 => ?_) (fun c74 => ?_)
                · have dc74 := tl_eq ix2 tn_2 c74
                  exfalso
                  omega
                · refine rl_bnd (Q := fun (y z : Int32) => y = z ∧ (0 ≤ y.toInt ∧ y.toInt ≤ 0)) ?_ ?_
                  · refine rl_if (fun c75 => ?_) (fun c75 => ?_)
                    · have dc75 := tl_eq ix2 tn_3 c75
                      exfalso
                      omega
                    · exact rl_some ⟨rfl, (ti_bd tn_0 (by omega) (by omega))⟩
                  · rintro y37 y37r ⟨ey37, ly37⟩
                    obtain rfl : y37 = y37r := ey37
                    have ly37 : 0 ≤ y37.toInt ∧ y37.toInt ≤ 0 := ly37
                    have iy37 : TI y37 (0) := ti_c ly37
                    refine rl_ltI (av_add tn_2 iy37 (by omega) (by omega)) (fun x38 ix38 => ?_)
                    refine rl_bnd (r_tapRows ty9_2 i3 ix38 ⟨rfl, rfl⟩ hc4 i5 (by omega) (by omega) (by omega) (by omega) (by omega) wW_y9_2 (fun _ => wg_cs wT_y9_2 (by omega) (by omega) (fun j h1 h2 => by (try dsimp only) <;> omega))) ?_
                    rintro y39 y39r ⟨uy39', vT_y39'⟩
                    have uy39 : Up mu 144 y9_2 y9_2r y39 y39r := uy39'
                    have ty39 := cx_up ty9_2 uy39
                    have wW_y39 := wq_up uy39 wW_y9_2
                    have wT_y39 := wg_up uy39 wT_y9_2
                    have vT_y39 : WG mu y39 y39r c4 0 (16 * 16) (fun j => a5 + j / 16 * 16 + j % 16) := wg_cs vT_y39' (by omega) (by omega) (fun j h1 h2 => by (try dsimp only) <;> omega)
                    exact rl_some ⟨rfl, (ti_bd tn_1 (by omega) (by omega)), uy39⟩
              · rintro ⟨y35_1, y35_2⟩ ⟨y35_1r, y35_2r⟩ ⟨ey35_1, ly35_1, uy35_2⟩
                obtain rfl : y35_1 = y35_1r := ey35_1
                have ly35_1 : 1 ≤ y35_1.toInt ∧ y35_1.toInt ≤ 1 := ly35_1
                have iy35_1 : TI y35_1 (1) := ti_c ly35_1
                have uy35_2 : Up mu 144 y9_2 y9_2r y35_2 y35_2r := uy35_2
                have ty35_2 := cx_up ty9_2 uy35_2
                have wW_y35_2 := wq_up uy35_2 wW_y9_2
                have wT_y35_2 := wg_up uy35_2 wT_y9_2
                exact rl_some ⟨rfl, (ti_bd iy35_1 (by omega) (by omega)), uy35_2⟩
          · rintro ⟨y10_1, y10_2⟩ ⟨y10_1r, y10_2r⟩ ⟨ey10_1, ly10_1, uy10_2⟩
            obtain rfl : y10_1 = y10_1r := ey10_1
            have ly10_1 : 1 ≤ y10_1.toInt ∧ y10_1.toInt ≤ 1 := ly10_1
            have iy10_1 : TI y10_1 (1) := ti_c ly10_1
            have uy10_2 : Up mu 144 y9_2 y9_2r y10_2 y10_2r := uy10_2
            have ty10_2 := cx_up ty9_2 uy10_2
            have wW_y10_2 := wq_up uy10_2 wW_y9_2
            have wT_y10_2 := wg_up uy10_2 wT_y9_2
            refine rl_bnd (Q := fun (y z : Int32 × DD) => y.1 = z.1 ∧ (1 ≤ y.1.toInt ∧ y.1.toInt ≤ 1) ∧ Up mu 144 y10_2 y10_2r y.2 z.2) ?_ ?_
            · refine rl_if (fun c76 => ?_) (fun c76 => ?_)
              · have dc76 := tl_eq ix2 tn_0 c76
                exact rl_some ⟨rfl, (ti_bd iy10_1 (by omega) (by omega)), (up_0 mu (κ := 144) _ _)⟩
              · have dc76 := tl_ne ix2 tn_0 c76
                exfalso
                omega
            · rintro ⟨y11_1, y11_2⟩ ⟨y11_1r, y11_2r⟩ ⟨ey11_1, ly11_1, uy11_2⟩
              obtain rfl : y11_1 = y11_1r := ey11_1
              have ly11_1 : 1 ≤ y11_1.toInt ∧ y11_1.toInt ≤ 1 := ly11_1
              have iy11_1 : TI y11_1 (1) := ti_c ly11_1
              have uy11_2 : Up mu 144 y10_2 y10_2r y11_2 y11_2r := uy11_2
              have ty11_2 := cx_up ty10_2 uy11_2
              have wW_y11_2 := wq_up uy11_2 wW_y10_2
              have wT_y11_2 := wg_up uy11_2 wT_y10_2
              refine rl_bnd (Q := fun (y z : DD) => Up mu 144 y11_2 y11_2r y z) ?_ ?_
              · refine rl_if (fun c77 => ?_) (fun c77 => ?_)
                · have dc77 := tl_eq ix1 tn_2 c77
                  exfalso
                  omega
                · refine rl_bnd (Q := fun (y z : DD) => Up mu 144 y11_2 y11_2r y z) ?_ ?_
                  · refine rl_if (fun c78 => ?_) (fun c78 => ?_)
                    · have dc78 := tl_eq ix2 tn_2 c78
                      exfalso
                      omega
                    · exact rl_some (up_0 mu (κ := 144) _ _)
                  · rintro y14 y14r uy14
                    have uy14 : Up mu 144 y11_2 y11_2r y14 y14r := uy14
                    have ty14 := cx_up ty11_2 uy14
                    have wW_y14 := wq_up uy14 wW_y11_2
                    have wT_y14 := wg_up uy14 wT_y11_2
                    exact rl_some uy14
              · rintro y12 y12r uy12
                have uy12 : Up mu 144 y11_2 y11_2r y12 y12r := uy12
                have ty12 := cx_up ty11_2 uy12
                have wW_y12 := wq_up uy12 wW_y11_2
                have wT_y12 := wg_up uy12 wT_y11_2
                exact rl_some ⟨(up_tr (up_tr (up_tr (up_tr uy8 uy9_2) uy10_2) uy11_2) uy12), wT_y12⟩
      · clear ix2 zx2
        have ix2 : TI x2 1 := yx2
        refine rl_ltI (av_sar 2 i1 (by decide)) (fun x3 ix3 => ?_)
        refine rl_ltI (av_sub ix3 tn_2 (by omega) (by omega)) (fun x4 ix4 => ?_)
        refine rl_ltI (av_sar 2 i2 (by decide)) (fun x5 ix5 => ?_)
        refine rl_ltI (av_sub ix5 tn_2 (by omega) (by omega)) (fun x6 ix6 => ?_)
        refine rl_ltI (av_add i3 tn_5 (by omega) (by omega)) (fun x7 ix7 => ?_)
        refine rl_bnd (r_fillWindow t ⟨rfl, rfl⟩ hq0 ix7 (by omega) (by omega)) ?_
        rintro y8 y8r ⟨uy8', vW_y8⟩
        have uy8 : Up mu 144 M N y8 y8r := uy8'
        have ty8 := cx_up t uy8
        refine rl_bnd (Q := fun (y z : Int32 × DD) => y.1 = z.1 ∧ (0 ≤ y.1.toInt ∧ y.1.toInt ≤ 0) ∧ Up mu 144 y8 y8r y.2 z.2) ?_ ?_
        · refine rl_if (fun c79 => ?_) (fun c79 => ?_)
          · have dc79 := tl_eq ix2 tn_0 c79
            exfalso
            omega
          · refine rl_bnd (Q := fun (y z : Int32 × DD) => y.1 = z.1 ∧ (0 ≤ y.1.toInt ∧ y.1.toInt ≤ 0) ∧ Up mu 144 y8 y8r y.2 z.2) ?_ ?_
            · refine rl_if (fun c80 => ?_) (fun c80 => ?_)
              · have dc80 := tl_eq ix1 tn_0 c80
                exfalso
                omega
              · exact rl_some ⟨rfl, (ti_bd tn_0 (by omega) (by omega)), (up_0 mu (κ := 144) _ _)⟩
            · rintro ⟨y42_1, y42_2⟩ ⟨y42_1r, y42_2r⟩ ⟨ey42_1, ly42_1, uy42_2⟩
              obtain rfl : y42_1 = y42_1r := ey42_1
              have ly42_1 : 0 ≤ y42_1.toInt ∧ y42_1.toInt ≤ 0 := ly42_1
              have iy42_1 : TI y42_1 (0) := ti_c ly42_1
              have uy42_2 : Up mu 144 y8 y8r y42_2 y42_2r := uy42_2
              have ty42_2 := cx_up ty8 uy42_2
              have wW_y42_2 := wq_up uy42_2 vW_y8
              exact rl_some ⟨rfl, (ti_bd iy42_1 (by omega) (by omega)), uy42_2⟩
        · rintro ⟨y9_1, y9_2⟩ ⟨y9_1r, y9_2r⟩ ⟨ey9_1, ly9_1, uy9_2⟩
          obtain rfl : y9_1 = y9_1r := ey9_1
          have ly9_1 : 0 ≤ y9_1.toInt ∧ y9_1.toInt ≤ 0 := ly9_1
          have iy9_1 : TI y9_1 (0) := ti_c ly9_1
          have uy9_2 : Up mu 144 y8 y8r y9_2 y9_2r := uy9_2
          have ty9_2 := cx_up ty8 uy9_2
          have wW_y9_2 := wq_up uy9_2 vW_y8
          refine rl_bnd (Q := fun (y z : Int32 × DD) => y.1 = z.1 ∧ (1 ≤ y.1.toInt ∧ y.1.toInt ≤ 1) ∧ Up mu 144 y9_2 y9_2r y.2 z.2 ∧ WG mu y.2 z.2 c4 0 (16 * 16) (fun j => a5 + j / 16 * 16 + j % 16)) ?_ ?_
          · refine rl_if (fun c81 => ?_) (fun c81 => ?_)
            · have dc81 := tl_eq ix1 tn_0 c81
              exfalso
              omega
            · refine rl_bnd (Q := fun (y z : Int32 × DD) => y.1 = z.1 ∧ (1 ≤ y.1.toInt ∧ y.1.toInt ≤ 1) ∧ Up mu 144 y9_2 y9_2r y.2 z.2 ∧ WG mu y.2 z.2 c4 0 (16 * 16) (fun j => a5 + j / 16 * 16 + j % 16)) ?_ ?_
              · refine rl_if (fun c82 => ?_) (fun c82 => ?_)
                · have dc82 := tl_eq ix2 tn_2 c82
                  exfalso
                  omega
                · refine rl_bnd (Q := fun (y z : Int32) => y = z ∧ (0 ≤ y.toInt ∧ y.toInt ≤ 0)) ?_ ?_
                  · refine rl_if (fun c83 => ?_) (fun c83 => ?_)
                    · have dc83 := tl_eq ix2 tn_3 c83
                      exfalso
                      omega
                    · exact rl_some ⟨rfl, (ti_bd tn_0 (by omega) (by omega))⟩
                  · rintro y37 y37r ⟨ey37, ly37⟩
                    obtain rfl : y37 = y37r := ey37
                    have ly37 : 0 ≤ y37.toInt ∧ y37.toInt ≤ 0 := ly37
                    have iy37 : TI y37 (0) := ti_c ly37
                    refine rl_ltI (av_add tn_2 iy37 (by omega) (by omega)) (fun x38 ix38 => ?_)
                    refine rl_bnd (r_tapRows ty9_2 i3 ix38 ⟨rfl, rfl⟩ hc4 i5 (by omega) (by omega) (by omega) (by omega) (by omega) wW_y9_2 (fun h => absurd (by first | rfl | assumption | omega) h)) ?_
                    rintro y39 y39r ⟨uy39', vT_y39'⟩
                    have uy39 : Up mu 144 y9_2 y9_2r y39 y39r := uy39'
                    have ty39 := cx_up ty9_2 uy39
                    have wW_y39 := wq_up uy39 wW_y9_2
                    have vT_y39 : WG mu y39 y39r c4 0 (16 * 16) (fun j => a5 + j / 16 * 16 + j % 16) := wg_cs vT_y39' (by omega) (by omega) (fun j h1 h2 => by (try dsimp only) <;> omega)
                    exact rl_some ⟨rfl, (ti_bd tn_1 (by omega) (by omega)), uy39, vT_y39⟩
              · rintro ⟨y35_1, y35_2⟩ ⟨y35_1r, y35_2r⟩ ⟨ey35_1, ly35_1, uy35_2, wT_y35_2⟩
                obtain rfl : y35_1 = y35_1r := ey35_1
                have ly35_1 : 1 ≤ y35_1.toInt ∧ y35_1.toInt ≤ 1 := ly35_1
                have iy35_1 : TI y35_1 (1) := ti_c ly35_1
                have uy35_2 : Up mu 144 y9_2 y9_2r y35_2 y35_2r := uy35_2
                have ty35_2 := cx_up ty9_2 uy35_2
                have wW_y35_2 := wq_up uy35_2 wW_y9_2
                have wT_y35_2 : WG mu y35_2 y35_2r c4 0 (16 * 16) (fun j => a5 + j / 16 * 16 + j % 16) := wT_y35_2
                exact rl_some ⟨rfl, (ti_bd iy35_1 (by omega) (by omega)), uy35_2, wT_y35_2⟩
          · rintro ⟨y10_1, y10_2⟩ ⟨y10_1r, y10_2r⟩ ⟨ey10_1, ly10_1, uy10_2, wT_y10_2⟩
            obtain rfl : y10_1 = y10_1r := ey10_1
            have ly10_1 : 1 ≤ y10_1.toInt ∧ y10_1.toInt ≤ 1 := ly10_1
            have iy10_1 : TI y10_1 (1) := ti_c ly10_1
            have uy10_2 : Up mu 144 y9_2 y9_2r y10_2 y10_2r := uy10_2
            have ty10_2 := cx_up ty9_2 uy10_2
            have wW_y10_2 := wq_up uy10_2 wW_y9_2
            have wT_y10_2 : WG mu y10_2 y10_2r c4 0 (16 * 16) (fun j => a5 + j / 16 * 16 + j % 16) := wT_y10_2
            refine rl_bnd (Q := fun (y z : Int32 × DD) => y.1 = z.1 ∧ (1 ≤ y.1.toInt ∧ y.1.toInt ≤ 1) ∧ Up mu 144 y10_2 y10_2r y.2 z.2) ?_ ?_
            · refine rl_if (fun c84 => ?_) (fun c84 => ?_)
              · have dc84 := tl_eq ix2 tn_0 c84
                exfalso
                omega
              · refine rl_bnd (Q := fun (y z : Int32 × DD) => y.1 = z.1 ∧ (1 ≤ y.1.toInt ∧ y.1.toInt ≤ 1) ∧ Up mu 144 y10_2 y10_2r y.2 z.2) ?_ ?_
                · refine rl_if (fun c85 => ?_) (fun c85 => ?_)
                  · have dc85 := tl_eq ix1 tn_2 c85
                    exfalso
                    omega
                  · refine rl_bnd (Q := fun (y z : Int32) => y = z ∧ (0 ≤ y.toInt ∧ y.toInt ≤ 0)) ?_ ?_
                    · refine rl_if (fun c86 => ?_) (fun c86 => ?_)
                      · have dc86 := tl_eq ix1 tn_3 c86
                        exfalso
                        omega
                      · exact rl_some ⟨rfl, (ti_bd tn_0 (by omega) (by omega))⟩
                    · rintro y30 y30r ⟨ey30, ly30⟩
                      obtain rfl : y30 = y30r := ey30
                      have ly30 : 0 ≤ y30.toInt ∧ y30.toInt ≤ 0 := ly30
                      have iy30 : TI y30 (0) := ti_c ly30
                      refine rl_ltI (av_add tn_2 iy30 (by omega) (by omega)) (fun x31 ix31 => ?_)
                      refine rl_bnd (r_tapColumns ty10_2 i3 ix31 ⟨rfl, rfl⟩ hc4 i5 (by omega) (by omega) (by omega) (by omega) (by omega) wW_y10_2 (fun _ => wg_cs wT_y10_2 (by omega) (by omega) (fun j h1 h2 => by (try dsimp only) <;> omega))) ?_
                      rintro y32 y32r ⟨uy32', vT_y32'⟩
                      have uy32 : Up mu 144 y10_2 y10_2r y32 y32r := uy32'
                      have ty32 := cx_up ty10_2 uy32
                      have wW_y32 := wq_up uy32 wW_y10_2
                      have wT_y32 := wg_up uy32 wT_y10_2
                      have vT_y32 : WG mu y32 y32r c4 0 (16 * 16) (fun j => a5 + j / 16 * 16 + j % 16) := wg_cs vT_y32' (by omega) (by omega) (fun j h1 h2 => by (try dsimp only) <;> omega)
                      exact rl_some ⟨rfl, (ti_bd tn_1 (by omega) (by omega)), uy32⟩
                · rintro ⟨y28_1, y28_2⟩ ⟨y28_1r, y28_2r⟩ ⟨ey28_1, ly28_1, uy28_2⟩
                  obtain rfl : y28_1 = y28_1r := ey28_1
                  have ly28_1 : 1 ≤ y28_1.toInt ∧ y28_1.toInt ≤ 1 := ly28_1
                  have iy28_1 : TI y28_1 (1) := ti_c ly28_1
                  have uy28_2 : Up mu 144 y10_2 y10_2r y28_2 y28_2r := uy28_2
                  have ty28_2 := cx_up ty10_2 uy28_2
                  have wW_y28_2 := wq_up uy28_2 wW_y10_2
                  have wT_y28_2 := wg_up uy28_2 wT_y10_2
                  exact rl_some ⟨rfl, (ti_bd iy28_1 (by omega) (by omega)), uy28_2⟩
            · rintro ⟨y11_1, y11_2⟩ ⟨y11_1r, y11_2r⟩ ⟨ey11_1, ly11_1, uy11_2⟩
              obtain rfl : y11_1 = y11_1r := ey11_1
              have ly11_1 : 1 ≤ y11_1.toInt ∧ y11_1.toInt ≤ 1 := ly11_1
              have iy11_1 : TI y11_1 (1) := ti_c ly11_1
              have uy11_2 : Up mu 144 y10_2 y10_2r y11_2 y11_2r := uy11_2
              have ty11_2 := cx_up ty10_2 uy11_2
              have wW_y11_2 := wq_up uy11_2 wW_y10_2
              have wT_y11_2 := wg_up uy11_2 wT_y10_2
              refine rl_bnd (Q := fun (y z : DD) => Up mu 144 y11_2 y11_2r y z) ?_ ?_
              · refine rl_if (fun c87 => ?_) (fun c87 => ?_)
                · have dc87 := tl_eq ix1 tn_2 c87
                  exfalso
                  omega
                · refine rl_bnd (Q := fun (y z : DD) => Up mu 144 y11_2 y11_2r y z) ?_ ?_
                  · refine rl_if (fun c88 => ?_) (fun c88 => ?_)
                    · have dc88 := tl_eq ix2 tn_2 c88
                      exfalso
                      omega
                    · exact rl_some (up_0 mu (κ := 144) _ _)
                  · rintro y14 y14r uy14
                    have uy14 : Up mu 144 y11_2 y11_2r y14 y14r := uy14
                    have ty14 := cx_up ty11_2 uy14
                    have wW_y14 := wq_up uy14 wW_y11_2
                    have wT_y14 := wg_up uy14 wT_y11_2
                    exact rl_some uy14
              · rintro y12 y12r uy12
                have uy12 : Up mu 144 y11_2 y11_2r y12 y12r := uy12
                have ty12 := cx_up ty11_2 uy12
                have wW_y12 := wq_up uy12 wW_y11_2
                have wT_y12 := wg_up uy12 wT_y11_2
                exact rl_some ⟨(up_tr (up_tr (up_tr (up_tr uy8 uy9_2) uy10_2) uy11_2) uy12), wT_y12⟩
      · clear ix2 zx2
        have ix2 : TI x2 2 := yx2
        refine rl_ltI (av_sar 2 i1 (by decide)) (fun x3 ix3 => ?_)
        refine rl_ltI (av_sub ix3 tn_2 (by omega) (by omega)) (fun x4 ix4 => ?_)
        refine rl_ltI (av_sar 2 i2 (by decide)) (fun x5 ix5 => ?_)
        refine rl_ltI (av_sub ix5 tn_2 (by omega) (by omega)) (fun x6 ix6 => ?_)
        refine rl_ltI (av_add i3 tn_5 (by omega) (by omega)) (fun x7 ix7 => ?_)
        refine rl_bnd (r_fillWindow t ⟨rfl, rfl⟩ hq0 ix7 (by omega) (by omega)) ?_
        rintro y8 y8r ⟨uy8', vW_y8⟩
        have uy8 : Up mu 144 M N y8 y8r := uy8'
        have ty8 := cx_up t uy8
        refine rl_bnd (Q := fun (y z : Int32 × DD) => y.1 = z.1 ∧ (0 ≤ y.1.toInt ∧ y.1.toInt ≤ 0) ∧ Up mu 144 y8 y8r y.2 z.2) ?_ ?_
        · refine rl_if (fun c89 => ?_) (fun c89 => ?_)
          · have dc89 := tl_eq ix2 tn_0 c89
            exfalso
            omega
          · refine rl_bnd (Q := fun (y z : Int32 × DD) => y.1 = z.1 ∧ (0 ≤ y.1.toInt ∧ y.1.toInt ≤ 0) ∧ Up mu 144 y8 y8r y.2 z.2) ?_ ?_
            · refine rl_if (fun c90 => ?_) (fun c90 => ?_)
              · have dc90 := tl_eq ix1 tn_0 c90
                exfalso
                omega
              · exact rl_some ⟨rfl, (ti_bd tn_0 (by omega) (by omega)), (up_0 mu (κ := 144) _ _)⟩
            · rintro ⟨y42_1, y42_2⟩ ⟨y42_1r, y42_2r⟩ ⟨ey42_1, ly42_1, uy42_2⟩
              obtain rfl : y42_1 = y42_1r := ey42_1
              have ly42_1 : 0 ≤ y42_1.toInt ∧ y42_1.toInt ≤ 0 := ly42_1
              have iy42_1 : TI y42_1 (0) := ti_c ly42_1
              have uy42_2 : Up mu 144 y8 y8r y42_2 y42_2r := uy42_2
              have ty42_2 := cx_up ty8 uy42_2
              have wW_y42_2 := wq_up uy42_2 vW_y8
              exact rl_some ⟨rfl, (ti_bd iy42_1 (by omega) (by omega)), uy42_2⟩
        · rintro ⟨y9_1, y9_2⟩ ⟨y9_1r, y9_2r⟩ ⟨ey9_1, ly9_1, uy9_2⟩
          obtain rfl : y9_1 = y9_1r := ey9_1
          have ly9_1 : 0 ≤ y9_1.toInt ∧ y9_1.toInt ≤ 0 := ly9_1
          have iy9_1 : TI y9_1 (0) := ti_c ly9_1
          have uy9_2 : Up mu 144 y8 y8r y9_2 y9_2r := uy9_2
          have ty9_2 := cx_up ty8 uy9_2
          have wW_y9_2 := wq_up uy9_2 vW_y8
          refine rl_bnd (Q := fun (y z : Int32 × DD) => y.1 = z.1 ∧ (0 ≤ y.1.toInt ∧ y.1.toInt ≤ 0) ∧ Up mu 144 y9_2 y9_2r y.2 z.2) ?_ ?_
          · refine rl_if (fun c91 => ?_) (fun c91 => ?_)
            · have dc91 := tl_eq ix1 tn_0 c91
              exfalso
              omega
            · refine rl_bnd (Q := fun (y z : Int32 × DD) => y.1 = z.1 ∧ (0 ≤ y.1.toInt ∧ y.1.toInt ≤ 0) ∧ Up mu 144 y9_2 y9_2r y.2 z.2) ?_ ?_
              · refine rl_if (fun c92 => ?_) (fun c92 => ?_)
                · have dc92 := tl_eq ix2 tn_2 c92
                  exact rl_some ⟨rfl, (ti_bd iy9_1 (by omega) (by omega)), (up_0 mu (κ := 144) _ _)⟩
                · have dc92 := tl_ne ix2 tn_2 c92
                  exfalso
                  omega
              · rintro ⟨y35_1, y35_2⟩ ⟨y35_1r, y35_2r⟩ ⟨ey35_1, ly35_1, uy35_2⟩
                obtain rfl : y35_1 = y35_1r := ey35_1
                have ly35_1 : 0 ≤ y35_1.toInt ∧ y35_1.toInt ≤ 0 := ly35_1
                have iy35_1 : TI y35_1 (0) := ti_c ly35_1
                have uy35_2 : Up mu 144 y9_2 y9_2r y35_2 y35_2r := uy35_2
                have ty35_2 := cx_up ty9_2 uy35_2
                have wW_y35_2 := wq_up uy35_2 wW_y9_2
                exact rl_some ⟨rfl, (ti_bd iy35_1 (by omega) (by omega)), uy35_2⟩
          · rintro ⟨y10_1, y10_2⟩ ⟨y10_1r, y10_2r⟩ ⟨ey10_1, ly10_1, uy10_2⟩
            obtain rfl : y10_1 = y10_1r := ey10_1
            have ly10_1 : 0 ≤ y10_1.toInt ∧ y10_1.toInt ≤ 0 := ly10_1
            have iy10_1 : TI y10_1 (0) := ti_c ly10_1
            have uy10_2 : Up mu 144 y9_2 y9_2r y10_2 y10_2r := uy10_2
            have ty10_2 := cx_up ty9_2 uy10_2
            have wW_y10_2 := wq_up uy10_2 wW_y9_2
            refine rl_bnd (Q := fun (y z : Int32 × DD) => y.1 = z.1 ∧ (1 ≤ y.1.toInt ∧ y.1.toInt ≤ 1) ∧ Up mu 144 y10_2 y10_2r y.2 z.2 ∧ WG mu y.2 z.2 c4 0 (16 * 16) (fun j => a5 + j / 16 * 16 + j % 16)) ?_ ?_
            · refine rl_if (fun c93 => ?_) (fun c93 => ?_)
              · have dc93 := tl_eq ix2 tn_0 c93
                exfalso
                omega
              · refine rl_bnd (Q := fun (y z : Int32 × DD) => y.1 = z.1 ∧ (1 ≤ y.1.toInt ∧ y.1.toInt ≤ 1) ∧ Up mu 144 y10_2 y10_2r y.2 z.2 ∧ WG mu y.2 z.2 c4 0 (16 * 16) (fun j => a5 + j / 16 * 16 + j % 16)) ?_ ?_
                · refine rl_if (fun c94 => ?_) (fun c94 => ?_)
                  · have dc94 := tl_eq ix1 tn_2 c94
                    exfalso
                    omega
                  · refine rl_bnd (Q := fun (y z : Int32) => y = z ∧ (0 ≤ y.toInt ∧ y.toInt ≤ 0)) ?_ ?_
                    · refine rl_if (fun c95 => ?_) (fun c95 => ?_)
                      · have dc95 := tl_eq ix1 tn_3 c95
                        exfalso
                        omega
                      · exact rl_some ⟨rfl, (ti_bd tn_0 (by omega) (by omega))⟩
                    · rintro y30 y30r ⟨ey30, ly30⟩
                      obtain rfl : y30 = y30r := ey30
                      have ly30 : 0 ≤ y30.toInt ∧ y30.toInt ≤ 0 := ly30
                      have iy30 : TI y30 (0) := ti_c ly30
                      refine rl_ltI (av_add tn_2 iy30 (by omega) (by omega)) (fun x31 ix31 => ?_)
                      refine rl_bnd (r_tapColumns ty10_2 i3 ix31 ⟨rfl, rfl⟩ hc4 i5 (by omega) (by omega) (by omega) (by omega) (by omega) wW_y10_2 (fun h => absurd (by first | rfl | assumption | omega) h)) ?_
                      rintro y32 y32r ⟨uy32', vT_y32'⟩
                      have uy32 : Up mu 144 y10_2 y10_2r y32 y32r := uy32'
                      have ty32 := cx_up ty10_2 uy32
                      have wW_y32 := wq_up uy32 wW_y10_2
                      have vT_y32 : WG mu y32 y32r c4 0 (16 * 16) (fun j => a5 + j / 16 * 16 + j % 16) := wg_cs vT_y32' (by omega) (by omega) (fun j h1 h2 => by (try dsimp only) <;> omega)
                      exact rl_some ⟨rfl, (ti_bd tn_1 (by omega) (by omega)), uy32, vT_y32⟩
                · rintro ⟨y28_1, y28_2⟩ ⟨y28_1r, y28_2r⟩ ⟨ey28_1, ly28_1, uy28_2, wT_y28_2⟩
                  obtain rfl : y28_1 = y28_1r := ey28_1
                  have ly28_1 : 1 ≤ y28_1.toInt ∧ y28_1.toInt ≤ 1 := ly28_1
                  have iy28_1 : TI y28_1 (1) := ti_c ly28_1
                  have uy28_2 : Up mu 144 y10_2 y10_2r y28_2 y28_2r := uy28_2
                  have ty28_2 := cx_up ty10_2 uy28_2
                  have wW_y28_2 := wq_up uy28_2 wW_y10_2
                  have wT_y28_2 : WG mu y28_2 y28_2r c4 0 (16 * 16) (fun j => a5 + j / 16 * 16 + j % 16) := wT_y28_2
                  exact rl_some ⟨rfl, (ti_bd iy28_1 (by omega) (by omega)), uy28_2, wT_y28_2⟩
            · rintro ⟨y11_1, y11_2⟩ ⟨y11_1r, y11_2r⟩ ⟨ey11_1, ly11_1, uy11_2, wT_y11_2⟩
              obtain rfl : y11_1 = y11_1r := ey11_1
              have ly11_1 : 1 ≤ y11_1.toInt ∧ y11_1.toInt ≤ 1 := ly11_1
              have iy11_1 : TI y11_1 (1) := ti_c ly11_1
              have uy11_2 : Up mu 144 y10_2 y10_2r y11_2 y11_2r := uy11_2
              have ty11_2 := cx_up ty10_2 uy11_2
              have wW_y11_2 := wq_up uy11_2 wW_y10_2
              have wT_y11_2 : WG mu y11_2 y11_2r c4 0 (16 * 16) (fun j => a5 + j / 16 * 16 + j % 16) := wT_y11_2
              refine rl_bnd (Q := fun (y z : DD) => Up mu 144 y11_2 y11_2r y z) ?_ ?_
              · refine rl_if (fun c96 => ?_) (fun c96 => ?_)
                · have dc96 := tl_eq ix1 tn_2 c96
                  exfalso
                  omega
                · refine rl_bnd (Q := fun (y z : DD) => Up mu 144 y11_2 y11_2r y z) ?_ ?_
                  · refine rl_if (fun c97 => ?_) (fun c97 => ?_)
                    · have dc97 := tl_eq ix2 tn_2 c97
                      refine rl_bnd (Q := fun (y z : DD) => Up mu 144 y11_2 y11_2r y z) ?_ ?_
                      · refine rl_if (fun c98 => ?_) (fun c98 => ?_)
                        · have dc98 := tl_eq ix1 tn_0 c98
                          exfalso
                          omega
                        · refine rl_bnd (r_tapBoth ty11_2 i3 ⟨rfl, rfl⟩ hc4 i5 (by omega) (by omega) (by omega) wW_y11_2 (fun _ => wg_cs wT_y11_2 (by omega) (by omega) (fun j h1 h2 => by (try dsimp only) <;> omega))) ?_
                          rintro y18 y18r ⟨uy18', vT_y18'⟩
                          have uy18 : Up mu 144 y11_2 y11_2r y18 y18r := uy18'
                          have ty18 := cx_up ty11_2 uy18
                          have wW_y18 := wq_up uy18 wW_y11_2
                          have wT_y18 := wg_up uy18 wT_y11_2
                          have vT_y18 : WG mu y18 y18r c4 0 (16 * 16) (fun j => a5 + j / 16 * 16 + j % 16) := wg_cs vT_y18' (by omega) (by omega) (fun j h1 h2 => by (try dsimp only) <;> omega)
                          exact rl_some uy18
                      · rintro y16 y16r uy16
                        have uy16 : Up mu 144 y11_2 y11_2r y16 y16r := uy16
                        have ty16 := cx_up ty11_2 uy16
                        have wW_y16 := wq_up uy16 wW_y11_2
                        have wT_y16 := wg_up uy16 wT_y11_2
                        exact rl_some uy16
                    · have dc97 := tl_ne ix2 tn_2 c97
                      exfalso
                      omega
                  · rintro y14 y14r uy14
                    have uy14 : Up mu 144 y11_2 y11_2r y14 y14r := uy14
                    have ty14 := cx_up ty11_2 uy14
                    have wW_y14 := wq_up uy14 wW_y11_2
                    have wT_y14 := wg_up uy14 wT_y11_2
                    exact rl_some uy14
              · rintro y12 y12r uy12
                have uy12 : Up mu 144 y11_2 y11_2r y12 y12r := uy12
                have ty12 := cx_up ty11_2 uy12
                have wW_y12 := wq_up uy12 wW_y11_2
                have wT_y12 := wg_up uy12 wT_y11_2
                exact rl_some ⟨(up_tr (up_tr (up_tr (up_tr uy8 uy9_2) uy10_2) uy11_2) uy12), wT_y12⟩
      · clear ix2 zx2
        have ix2 : TI x2 3 := yx2
        refine rl_ltI (av_sar 2 i1 (by decide)) (fun x3 ix3 => ?_)
        refine rl_ltI (av_sub ix3 tn_2 (by omega) (by omega)) (fun x4 ix4 => ?_)
        refine rl_ltI (av_sar 2 i2 (by decide)) (fun x5 ix5 => ?_)
        refine rl_ltI (av_sub ix5 tn_2 (by omega) (by omega)) (fun x6 ix6 => ?_)
        refine rl_ltI (av_add i3 tn_5 (by omega) (by omega)) (fun x7 ix7 => ?_)
        refine rl_bnd (r_fillWindow t ⟨rfl, rfl⟩ hq0 ix7 (by omega) (by omega)) ?_
        rintro y8 y8r ⟨uy8', vW_y8⟩
        have uy8 : Up mu 144 M N y8 y8r := uy8'
        have ty8 := cx_up t uy8
        refine rl_bnd (Q := fun (y z : Int32 × DD) => y.1 = z.1 ∧ (0 ≤ y.1.toInt ∧ y.1.toInt ≤ 0) ∧ Up mu 144 y8 y8r y.2 z.2) ?_ ?_
        · refine rl_if (fun c99 => ?_) (fun c99 => ?_)
          · have dc99 := tl_eq ix2 tn_0 c99
            exfalso
            omega
          · refine rl_bnd (Q := fun (y z : Int32 × DD) => y.1 = z.1 ∧ (0 ≤ y.1.toInt ∧ y.1.toInt ≤ 0) ∧ Up mu 144 y8 y8r y.2 z.2) ?_ ?_
            · refine rl_if (fun c100 => ?_) (fun c100 => ?_)
              · have dc100 := tl_eq ix1 tn_0 c100
                exfalso
                omega
              · exact rl_some ⟨rfl, (ti_bd tn_0 (by omega) (by omega)), (up_0 mu (κ := 144) _ _)⟩
            · rintro ⟨y42_1, y42_2⟩ ⟨y42_1r, y42_2r⟩ ⟨ey42_1, ly42_1, uy42_2⟩
              obtain rfl : y42_1 = y42_1r := ey42_1
              have ly42_1 : 0 ≤ y42_1.toInt ∧ y42_1.toInt ≤ 0 := ly42_1
              have iy42_1 : TI y42_1 (0) := ti_c ly42_1
              have uy42_2 : Up mu 144 y8 y8r y42_2 y42_2r := uy42_2
              have ty42_2 := cx_up ty8 uy42_2
              have wW_y42_2 := wq_up uy42_2 vW_y8
              exact rl_some ⟨rfl, (ti_bd iy42_1 (by omega) (by omega)), uy42_2⟩
        · rintro ⟨y9_1, y9_2⟩ ⟨y9_1r, y9_2r⟩ ⟨ey9_1, ly9_1, uy9_2⟩
          obtain rfl : y9_1 = y9_1r := ey9_1
          have ly9_1 : 0 ≤ y9_1.toInt ∧ y9_1.toInt ≤ 0 := ly9_1
          have iy9_1 : TI y9_1 (0) := ti_c ly9_1
          have uy9_2 : Up mu 144 y8 y8r y9_2 y9_2r := uy9_2
          have ty9_2 := cx_up ty8 uy9_2
          have wW_y9_2 := wq_up uy9_2 vW_y8
          refine rl_bnd (Q := fun (y z : Int32 × DD) => y.1 = z.1 ∧ (1 ≤ y.1.toInt ∧ y.1.toInt ≤ 1) ∧ Up mu 144 y9_2 y9_2r y.2 z.2 ∧ WG mu y.2 z.2 c4 0 (16 * 16) (fun j => a5 + j / 16 * 16 + j % 16)) ?_ ?_
          · refine rl_if (fun c101 => ?_) (fun c101 => ?_)
            · have dc101 := tl_eq ix1 tn_0 c101
              exfalso
              omega
            · refine rl_bnd (Q := fun (y z : Int32 × DD) => y.1 = z.1 ∧ (1 ≤ y.1.toInt ∧ y.1.toInt ≤ 1) ∧ Up mu 144 y9_2 y9_2r y.2 z.2 ∧ WG mu y.2 z.2 c4 0 (16 * 16) (fun j => a5 + j / 16 * 16 + j % 16)) ?_ ?_
              · refine rl_if (fun c102 => ?_) (fun c102 => ?_)
                · have dc102 := tl_eq ix2 tn_2 c102
                  exfalso
                  omega
                · refine rl_bnd (Q := fun (y z : Int32) => y = z ∧ (1 ≤ y.toInt ∧ y.toInt ≤ 1)) ?_ ?_
                  · refine rl_if (fun c103 => ?_) (fun c103 => ?_)
                    · have dc103 := tl_eq ix2 tn_3 c103
                      exact rl_some ⟨rfl, (ti_bd tn_1 (by omega) (by omega))⟩
                    · have dc103 := tl_ne ix2 tn_3 c103
                      exfalso
                      omega
                  · rintro y37 y37r ⟨ey37, ly37⟩
                    obtain rfl : y37 = y37r := ey37
                    have ly37 : 1 ≤ y37.toInt ∧ y37.toInt ≤ 1 := ly37
                    have iy37 : TI y37 (1) := ti_c ly37
                    refine rl_ltI (av_add tn_2 iy37 (by omega) (by omega)) (fun x38 ix38 => ?_)
                    refine rl_bnd (r_tapRows ty9_2 i3 ix38 ⟨rfl, rfl⟩ hc4 i5 (by omega) (by omega) (by omega) (by omega) (by omega) wW_y9_2 (fun h => absurd (by first | rfl | assumption | omega) h)) ?_
                    rintro y39 y39r ⟨uy39', vT_y39'⟩
                    have uy39 : Up mu 144 y9_2 y9_2r y39 y39r := uy39'
                    have ty39 := cx_up ty9_2 uy39
                    have wW_y39 := wq_up uy39 wW_y9_2
                    have vT_y39 : WG mu y39 y39r c4 0 (16 * 16) (fun j => a5 + j / 16 * 16 + j % 16) := wg_cs vT_y39' (by omega) (by omega) (fun j h1 h2 => by (try dsimp only) <;> omega)
                    exact rl_some ⟨rfl, (ti_bd tn_1 (by omega) (by omega)), uy39, vT_y39⟩
              · rintro ⟨y35_1, y35_2⟩ ⟨y35_1r, y35_2r⟩ ⟨ey35_1, ly35_1, uy35_2, wT_y35_2⟩
                obtain rfl : y35_1 = y35_1r := ey35_1
                have ly35_1 : 1 ≤ y35_1.toInt ∧ y35_1.toInt ≤ 1 := ly35_1
                have iy35_1 : TI y35_1 (1) := ti_c ly35_1
                have uy35_2 : Up mu 144 y9_2 y9_2r y35_2 y35_2r := uy35_2
                have ty35_2 := cx_up ty9_2 uy35_2
                have wW_y35_2 := wq_up uy35_2 wW_y9_2
                have wT_y35_2 : WG mu y35_2 y35_2r c4 0 (16 * 16) (fun j => a5 + j / 16 * 16 + j % 16) := wT_y35_2
                exact rl_some ⟨rfl, (ti_bd iy35_1 (by omega) (by omega)), uy35_2, wT_y35_2⟩
          · rintro ⟨y10_1, y10_2⟩ ⟨y10_1r, y10_2r⟩ ⟨ey10_1, ly10_1, uy10_2, wT_y10_2⟩
            obtain rfl : y10_1 = y10_1r := ey10_1
            have ly10_1 : 1 ≤ y10_1.toInt ∧ y10_1.toInt ≤ 1 := ly10_1
            have iy10_1 : TI y10_1 (1) := ti_c ly10_1
            have uy10_2 : Up mu 144 y9_2 y9_2r y10_2 y10_2r := uy10_2
            have ty10_2 := cx_up ty9_2 uy10_2
            have wW_y10_2 := wq_up uy10_2 wW_y9_2
            have wT_y10_2 : WG mu y10_2 y10_2r c4 0 (16 * 16) (fun j => a5 + j / 16 * 16 + j % 16) := wT_y10_2
            refine rl_bnd (Q := fun (y z : Int32 × DD) => y.1 = z.1 ∧ (1 ≤ y.1.toInt ∧ y.1.toInt ≤ 1) ∧ Up mu 144 y10_2 y10_2r y.2 z.2) ?_ ?_
            · refine rl_if (fun c104 => ?_) (fun c104 => ?_)
              · have dc104 := tl_eq ix2 tn_0 c104
                exfalso
                omega
              · refine rl_bnd (Q := fun (y z : Int32 × DD) => y.1 = z.1 ∧ (1 ≤ y.1.toInt ∧ y.1.toInt ≤ 1) ∧ Up mu 144 y10_2 y10_2r y.2 z.2) ?_ ?_
                · refine rl_if (fun c105 => ?_) (fun c105 => ?_)
                  · have dc105 := tl_eq ix1 tn_2 c105
                    exfalso
                    omega
                  · refine rl_bnd (Q := fun (y z : Int32) => y = z ∧ (0 ≤ y.toInt ∧ y.toInt ≤ 0)) ?_ ?_
                    · refine rl_if (fun c106 => ?_) (fun c106 => ?_)
                      · have dc106 := tl_eq ix1 tn_3 c106
                        exfalso
                        omega
                      · exact rl_some ⟨rfl, (ti_bd tn_0 (by omega) (by omega))⟩
                    · rintro y30 y30r ⟨ey30, ly30⟩
                      obtain rfl : y30 = y30r := ey30
                      have ly30 : 0 ≤ y30.toInt ∧ y30.toInt ≤ 0 := ly30
                      have iy30 : TI y30 (0) := ti_c ly30
                      refine rl_ltI (av_add tn_2 iy30 (by omega) (by omega)) (fun x31 ix31 => ?_)
                      refine rl_bnd (r_tapColumns ty10_2 i3 ix31 ⟨rfl, rfl⟩ hc4 i5 (by omega) (by omega) (by omega) (by omega) (by omega) wW_y10_2 (fun _ => wg_cs wT_y10_2 (by omega) (by omega) (fun j h1 h2 => by (try dsimp only) <;> omega))) ?_
                      rintro y32 y32r ⟨uy32', vT_y32'⟩
                      have uy32 : Up mu 144 y10_2 y10_2r y32 y32r := uy32'
                      have ty32 := cx_up ty10_2 uy32
                      have wW_y32 := wq_up uy32 wW_y10_2
                      have wT_y32 := wg_up uy32 wT_y10_2
                      have vT_y32 : WG mu y32 y32r c4 0 (16 * 16) (fun j => a5 + j / 16 * 16 + j % 16) := wg_cs vT_y32' (by omega) (by omega) (fun j h1 h2 => by (try dsimp only) <;> omega)
                      exact rl_some ⟨rfl, (ti_bd tn_1 (by omega) (by omega)), uy32⟩
                · rintro ⟨y28_1, y28_2⟩ ⟨y28_1r, y28_2r⟩ ⟨ey28_1, ly28_1, uy28_2⟩
                  obtain rfl : y28_1 = y28_1r := ey28_1
                  have ly28_1 : 1 ≤ y28_1.toInt ∧ y28_1.toInt ≤ 1 := ly28_1
                  have iy28_1 : TI y28_1 (1) := ti_c ly28_1
                  have uy28_2 : Up mu 144 y10_2 y10_2r y28_2 y28_2r := uy28_2
                  have ty28_2 := cx_up ty10_2 uy28_2
                  have wW_y28_2 := wq_up uy28_2 wW_y10_2
                  have wT_y28_2 := wg_up uy28_2 wT_y10_2
                  exact rl_some ⟨rfl, (ti_bd iy28_1 (by omega) (by omega)), uy28_2⟩
            · rintro ⟨y11_1, y11_2⟩ ⟨y11_1r, y11_2r⟩ ⟨ey11_1, ly11_1, uy11_2⟩
              obtain rfl : y11_1 = y11_1r := ey11_1
              have ly11_1 : 1 ≤ y11_1.toInt ∧ y11_1.toInt ≤ 1 := ly11_1
              have iy11_1 : TI y11_1 (1) := ti_c ly11_1
              have uy11_2 : Up mu 144 y10_2 y10_2r y11_2 y11_2r := uy11_2
              have ty11_2 := cx_up ty10_2 uy11_2
              have wW_y11_2 := wq_up uy11_2 wW_y10_2
              have wT_y11_2 := wg_up uy11_2 wT_y10_2
              refine rl_bnd (Q := fun (y z : DD) => Up mu 144 y11_2 y11_2r y z) ?_ ?_
              · refine rl_if (fun c107 => ?_) (fun c107 => ?_)
                · have dc107 := tl_eq ix1 tn_2 c107
                  exfalso
                  omega
                · refine rl_bnd (Q := fun (y z : DD) => Up mu 144 y11_2 y11_2r y z) ?_ ?_
                  · refine rl_if (fun c108 => ?_) (fun c108 => ?_)
                    · have dc108 := tl_eq ix2 tn_2 c108
                      exfalso
                      omega
                    · exact rl_some (up_0 mu (κ := 144) _ _)
                  · rintro y14 y14r uy14
                    have uy14 : Up mu 144 y11_2 y11_2r y14 y14r := uy14
                    have ty14 := cx_up ty11_2 uy14
                    have wW_y14 := wq_up uy14 wW_y11_2
                    have wT_y14 := wg_up uy14 wT_y11_2
                    exact rl_some uy14
              · rintro y12 y12r uy12
                have uy12 : Up mu 144 y11_2 y11_2r y12 y12r := uy12
                have ty12 := cx_up ty11_2 uy12
                have wW_y12 := wq_up uy12 wW_y11_2
                have wT_y12 := wg_up uy12 wT_y11_2
                exact rl_some ⟨(up_tr (up_tr (up_tr (up_tr uy8 uy9_2) uy10_2) uy11_2) uy12), wT_y12⟩
    · clear ix1 zx1
      have ix1 : TI x1 2 := yx1
      refine rl_ltI (av_and 2 i2 (by decide) (by decide)) (fun x2 ix2 => ?_)
      have zx2 : x2.toInt = _ := ix2
      rcases (by omega : x2.toInt = 0 ∨ x2.toInt = 1 ∨ x2.toInt = 2 ∨ x2.toInt = 3) with yx2 | yx2 | yx2 | yx2
      · clear ix2 zx2
        have ix2 : TI x2 0 := yx2
        refine rl_ltI (av_sar 2 i1 (by decide)) (fun x3 ix3 => ?_)
        refine rl_ltI (av_sub ix3 tn_2 (by omega) (by omega)) (fun x4 ix4 => ?_)
        refine rl_ltI (av_sar 2 i2 (by decide)) (fun x5 ix5 => ?_)
        refine rl_ltI (av_sub ix5 tn_2 (by omega) (by omega)) (fun x6 ix6 => ?_)
        refine rl_ltI (av_add i3 tn_5 (by omega) (by omega)) (fun x7 ix7 => ?_)
        refine rl_bnd (r_fillWindow t ⟨rfl, rfl⟩ hq0 ix7 (by omega) (by omega)) ?_
        rintro y8 y8r ⟨uy8', vW_y8⟩
        have uy8 : Up mu 144 M N y8 y8r := uy8'
        have ty8 := cx_up t uy8
        refine rl_bnd (Q := fun (y z : Int32 × DD) => y.1 = z.1 ∧ (0 ≤ y.1.toInt ∧ y.1.toInt ≤ 0) ∧ Up mu 144 y8 y8r y.2 z.2) ?_ ?_
        · refine rl_if (fun c109 => ?_) (fun c109 => ?_)
          · have dc109 := tl_eq ix2 tn_0 c109
            refine rl_bnd (Q := fun (y z : Int32 × DD) => y.1 = z.1 ∧ (0 ≤ y.1.toInt ∧ y.1.toInt ≤ 0) ∧ Up mu 144 y8 y8r y.2 z.2) ?_ ?_
            · refine rl_if (fun c110 => ?_) (fun c110 => ?_)
              · have dc110 := tl_eq ix1 tn_2 c110
                refine rl_bnd (Q := fun (y z : Int32 × DD) => y.1 = z.1 ∧ (0 ≤ y.1.toInt ∧ y.1.toInt ≤ 0) ∧ Up mu 144 y8 y8r y.2 z.2) ?_ ?_
                · refine rl_if (fun c111 => ?_) (fun c111 => ?_)
                  · have dc111 := tl_eq ix1 tn_0 c111
                    exfalso
                    omega
                  · exact rl_some ⟨rfl, (ti_bd tn_0 (by omega) (by omega)), (up_0 mu (κ := 144) _ _)⟩
                · rintro ⟨y106_1, y106_2⟩ ⟨y106_1r, y106_2r⟩ ⟨ey106_1, ly106_1, uy106_2⟩
                  obtain rfl : y106_1 = y106_1r := ey106_1
                  have ly106_1 : 0 ≤ y106_1.toInt ∧ y106_1.toInt ≤ 0 := ly106_1
                  have iy106_1 : TI y106_1 (0) := ti_c ly106_1
                  have uy106_2 : Up mu 144 y8 y8r y106_2 y106_2r := uy106_2
                  have ty106_2 := cx_up ty8 uy106_2
                  have wW_y106_2 := wq_up uy106_2 vW_y8
                  exact rl_some ⟨rfl, (ti_bd iy106_1 (by omega) (by omega)), uy106_2⟩
              · have dc110 := tl_ne ix1 tn_2 c110
                exfalso
                omega
            · rintro ⟨y75_1, y75_2⟩ ⟨y75_1r, y75_2r⟩ ⟨ey75_1, ly75_1, uy75_2⟩
              obtain rfl : y75_1 = y75_1r := ey75_1
              have ly75_1 : 0 ≤ y75_1.toInt ∧ y75_1.toInt ≤ 0 := ly75_1
              have iy75_1 : TI y75_1 (0) := ti_c ly75_1
              have uy75_2 : Up mu 144 y8 y8r y75_2 y75_2r := uy75_2
              have ty75_2 := cx_up ty8 uy75_2
              have wW_y75_2 := wq_up uy75_2 vW_y8
              exact rl_some ⟨rfl, (ti_bd iy75_1 (by omega) (by omega)), uy75_2⟩
          · have dc109 := tl_ne ix2 tn_0 c109
            exfalso
            omega
        · rintro ⟨y9_1, y9_2⟩ ⟨y9_1r, y9_2r⟩ ⟨ey9_1, ly9_1, uy9_2⟩
          obtain rfl : y9_1 = y9_1r := ey9_1
          have ly9_1 : 0 ≤ y9_1.toInt ∧ y9_1.toInt ≤ 0 := ly9_1
          have iy9_1 : TI y9_1 (0) := ti_c ly9_1
          have uy9_2 : Up mu 144 y8 y8r y9_2 y9_2r := uy9_2
          have ty9_2 := cx_up ty8 uy9_2
          have wW_y9_2 := wq_up uy9_2 vW_y8
          refine rl_bnd (Q := fun (y z : Int32 × DD) => y.1 = z.1 ∧ (1 ≤ y.1.toInt ∧ y.1.toInt ≤ 1) ∧ Up mu 144 y9_2 y9_2r y.2 z.2 ∧ WG mu y.2 z.2 c4 0 (16 * 16) (fun j => a5 + j / 16 * 16 + j % 16)) ?_ ?_
          · refine rl_if (fun c112 => ?_) (fun c112 => ?_)
            · have dc112 := tl_eq ix1 tn_0 c112
              exfalso
              omega
            · refine rl_bnd (Q := fun (y z : Int32 × DD) => y.1 = z.1 ∧ (1 ≤ y.1.toInt ∧ y.1.toInt ≤ 1) ∧ Up mu 144 y9_2 y9_2r y.2 z.2 ∧ WG mu y.2 z.2 c4 0 (16 * 16) (fun j => a5 + j / 16 * 16 + j % 16)) ?_ ?_
              · refine rl_if (fun c113 => ?_) (fun c113 => ?_)
                · have dc113 := tl_eq ix2 tn_2 c113
                  exfalso
                  omega
                · refine rl_bnd (Q := fun (y z : Int32) => y = z ∧ (0 ≤ y.toInt ∧ y.toInt ≤ 0)) ?_ ?_
                  · refine rl_if (fun c114 => ?_) (fun c114 => ?_)
                    · have dc114 := tl_eq ix2 tn_3 c114
                      exfalso
                      omega
                    · exact rl_some ⟨rfl, (ti_bd tn_0 (by omega) (by omega))⟩
                  · rintro y37 y37r ⟨ey37, ly37⟩
                    obtain rfl : y37 = y37r := ey37
                    have ly37 : 0 ≤ y37.toInt ∧ y37.toInt ≤ 0 := ly37
                    have iy37 : TI y37 (0) := ti_c ly37
                    refine rl_ltI (av_add tn_2 iy37 (by omega) (by omega)) (fun x38 ix38 => ?_)
                    refine rl_bnd (r_tapRows ty9_2 i3 ix38 ⟨rfl, rfl⟩ hc4 i5 (by omega) (by omega) (by omega) (by omega) (by omega) wW_y9_2 (fun h => absurd (by first | rfl | assumption | omega) h)) ?_
                    rintro y39 y39r ⟨uy39', vT_y39'⟩
                    have uy39 : Up mu 144 y9_2 y9_2r y39 y39r := uy39'
                    have ty39 := cx_up ty9_2 uy39
                    have wW_y39 := wq_up uy39 wW_y9_2
                    have vT_y39 : WG mu y39 y39r c4 0 (16 * 16) (fun j => a5 + j / 16 * 16 + j % 16) := wg_cs vT_y39' (by omega) (by omega) (fun j h1 h2 => by (try dsimp only) <;> omega)
                    exact rl_some ⟨rfl, (ti_bd tn_1 (by omega) (by omega)), uy39, vT_y39⟩
              · rintro ⟨y35_1, y35_2⟩ ⟨y35_1r, y35_2r⟩ ⟨ey35_1, ly35_1, uy35_2, wT_y35_2⟩
                obtain rfl : y35_1 = y35_1r := ey35_1
                have ly35_1 : 1 ≤ y35_1.toInt ∧ y35_1.toInt ≤ 1 := ly35_1
                have iy35_1 : TI y35_1 (1) := ti_c ly35_1
                have uy35_2 : Up mu 144 y9_2 y9_2r y35_2 y35_2r := uy35_2
                have ty35_2 := cx_up ty9_2 uy35_2
                have wW_y35_2 := wq_up uy35_2 wW_y9_2
                have wT_y35_2 : WG mu y35_2 y35_2r c4 0 (16 * 16) (fun j => a5 + j / 16 * 16 + j % 16) := wT_y35_2
                exact rl_some ⟨rfl, (ti_bd iy35_1 (by omega) (by omega)), uy35_2, wT_y35_2⟩
          · rintro ⟨y10_1, y10_2⟩ ⟨y10_1r, y10_2r⟩ ⟨ey10_1, ly10_1, uy10_2, wT_y10_2⟩
            obtain rfl : y10_1 = y10_1r := ey10_1
            have ly10_1 : 1 ≤ y10_1.toInt ∧ y10_1.toInt ≤ 1 := ly10_1
            have iy10_1 : TI y10_1 (1) := ti_c ly10_1
            have uy10_2 : Up mu 144 y9_2 y9_2r y10_2 y10_2r := uy10_2
            have ty10_2 := cx_up ty9_2 uy10_2
            have wW_y10_2 := wq_up uy10_2 wW_y9_2
            have wT_y10_2 : WG mu y10_2 y10_2r c4 0 (16 * 16) (fun j => a5 + j / 16 * 16 + j % 16) := wT_y10_2
            refine rl_bnd (Q := fun (y z : Int32 × DD) => y.1 = z.1 ∧ (1 ≤ y.1.toInt ∧ y.1.toInt ≤ 1) ∧ Up mu 144 y10_2 y10_2r y.2 z.2) ?_ ?_
            · refine rl_if (fun c115 => ?_) (fun c115 => ?_)
              · have dc115 := tl_eq ix2 tn_0 c115
                exact rl_some ⟨rfl, (ti_bd iy10_1 (by omega) (by omega)), (up_0 mu (κ := 144) _ _)⟩
              · have dc115 := tl_ne ix2 tn_0 c115
                exfalso
                omega
            · rintro ⟨y11_1, y11_2⟩ ⟨y11_1r, y11_2r⟩ ⟨ey11_1, ly11_1, uy11_2⟩
              obtain rfl : y11_1 = y11_1r := ey11_1
              have ly11_1 : 1 ≤ y11_1.toInt ∧ y11_1.toInt ≤ 1 := ly11_1
              have iy11_1 : TI y11_1 (1) := ti_c ly11_1
              have uy11_2 : Up mu 144 y10_2 y10_2r y11_2 y11_2r := uy11_2
              have ty11_2 := cx_up ty10_2 uy11_2
              have wW_y11_2 := wq_up uy11_2 wW_y10_2
              have wT_y11_2 := wg_up uy11_2 wT_y10_2
              refine rl_bnd (Q := fun (y z : DD) => Up mu 144 y11_2 y11_2r y z) ?_ ?_
              · refine rl_if (fun c116 => ?_) (fun c116 => ?_)
                · have dc116 := tl_eq ix1 tn_2 c116
                  refine rl_bnd (Q := fun (y z : DD) => Up mu 144 y11_2 y11_2r y z) ?_ ?_
                  · refine rl_if (fun c117 => ?_) (fun c117 => ?_)
                    · have dc117 := tl_eq ix2 tn_0 c117
                      refine rl_bnd (Q := fun (y z : DD) => Up mu 144 y11_2 y11_2r y z) ?_ ?_
                      · refine rl_if (fun c118 => ?_) (fun c118 => ?_)
                        · have dc118 := tl_eq ix2 tn_2 c118
                          exfalso
                          omega
                        · exact rl_some (up_0 mu (κ := 144) _ _)
                      · rintro y22 y22r uy22
                        have uy22 : Up mu 144 y11_2 y11_2r y22 y22r := uy22
                        have ty22 := cx_up ty11_2 uy22
                        have wW_y22 := wq_up uy22 wW_y11_2
                        have wT_y22 := wg_up uy22 wT_y11_2
                        exact rl_some uy22
                    · have dc117 := tl_ne ix2 tn_0 c117
                      exfalso
                      omega
                  · rintro y19 y19r uy19
                    have uy19 : Up mu 144 y11_2 y11_2r y19 y19r := uy19
                    have ty19 := cx_up ty11_2 uy19
                    have wW_y19 := wq_up uy19 wW_y11_2
                    have wT_y19 := wg_up uy19 wT_y11_2
                    exact rl_some uy19
                · have dc116 := tl_ne ix1 tn_2 c116
                  exfalso
                  omega
              · rintro y12 y12r uy12
                have uy12 : Up mu 144 y11_2 y11_2r y12 y12r := uy12
                have ty12 := cx_up ty11_2 uy12
                have wW_y12 := wq_up uy12 wW_y11_2
                have wT_y12 := wg_up uy12 wT_y11_2
                exact rl_some ⟨(up_tr (up_tr (up_tr (up_tr uy8 uy9_2) uy10_2) uy11_2) uy12), wT_y12⟩
      · clear ix2 zx2
        have ix2 : TI x2 1 := yx2
        refine rl_ltI (av_sar 2 i1 (by decide)) (fun x3 ix3 => ?_)
        refine rl_ltI (av_sub ix3 tn_2 (by omega) (by omega)) (fun x4 ix4 => ?_)
        refine rl_ltI (av_sar 2 i2 (by decide)) (fun x5 ix5 => ?_)
        refine rl_ltI (av_sub ix5 tn_2 (by omega) (by omega)) (fun x6 ix6 => ?_)
        refine rl_ltI (av_add i3 tn_5 (by omega) (by omega)) (fun x7 ix7 => ?_)
        refine rl_bnd (r_fillWindow t ⟨rfl, rfl⟩ hq0 ix7 (by omega) (by omega)) ?_
        rintro y8 y8r ⟨uy8', vW_y8⟩
        have uy8 : Up mu 144 M N y8 y8r := uy8'
        have ty8 := cx_up t uy8
        refine rl_bnd (Q := fun (y z : Int32 × DD) => y.1 = z.1 ∧ (0 ≤ y.1.toInt ∧ y.1.toInt ≤ 0) ∧ Up mu 144 y8 y8r y.2 z.2) ?_ ?_
        · refine rl_if (fun c119 => ?_) (fun c119 => ?_)
          · have dc119 := tl_eq ix2 tn_0 c119
            exfalso
            omega
          · refine rl_bnd (Q := fun (y z : Int32 × DD) => y.1 = z.1 ∧ (0 ≤ y.1.toInt ∧ y.1.toInt ≤ 0) ∧ Up mu 144 y8 y8r y.2 z.2) ?_ ?_
            · refine rl_if (fun c120 => ?_) (fun c120 => ?_)
              · have dc120 := tl_eq ix1 tn_0 c120
                exfalso
                omega
              · exact rl_some ⟨rfl, (ti_bd tn_0 (by omega) (by omega)), (up_0 mu (κ := 144) _ _)⟩
            · rintro ⟨y42_1, y42_2⟩ ⟨y42_1r, y42_2r⟩ ⟨ey42_1, ly42_1, uy42_2⟩
              obtain rfl : y42_1 = y42_1r := ey42_1
              have ly42_1 : 0 ≤ y42_1.toInt ∧ y42_1.toInt ≤ 0 := ly42_1
              have iy42_1 : TI y42_1 (0) := ti_c ly42_1
              have uy42_2 : Up mu 144 y8 y8r y42_2 y42_2r := uy42_2
              have ty42_2 := cx_up ty8 uy42_2
              have wW_y42_2 := wq_up uy42_2 vW_y8
              exact rl_some ⟨rfl, (ti_bd iy42_1 (by omega) (by omega)), uy42_2⟩
        · rintro ⟨y9_1, y9_2⟩ ⟨y9_1r, y9_2r⟩ ⟨ey9_1, ly9_1, uy9_2⟩
          obtain rfl : y9_1 = y9_1r := ey9_1
          have ly9_1 : 0 ≤ y9_1.toInt ∧ y9_1.toInt ≤ 0 := ly9_1
          have iy9_1 : TI y9_1 (0) := ti_c ly9_1
          have uy9_2 : Up mu 144 y8 y8r y9_2 y9_2r := uy9_2
          have ty9_2 := cx_up ty8 uy9_2
          have wW_y9_2 := wq_up uy9_2 vW_y8
          refine rl_bnd (Q := fun (y z : Int32 × DD) => y.1 = z.1 ∧ (1 ≤ y.1.toInt ∧ y.1.toInt ≤ 1) ∧ Up mu 144 y9_2 y9_2r y.2 z.2 ∧ WG mu y.2 z.2 c4 0 (16 * 16) (fun j => a5 + j / 16 * 16 + j % 16)) ?_ ?_
          · refine rl_if (fun c121 => ?_) (fun c121 => ?_)
            · have dc121 := tl_eq ix1 tn_0 c121
              exfalso
              omega
            · refine rl_bnd (Q := fun (y z : Int32 × DD) => y.1 = z.1 ∧ (1 ≤ y.1.toInt ∧ y.1.toInt ≤ 1) ∧ Up mu 144 y9_2 y9_2r y.2 z.2 ∧ WG mu y.2 z.2 c4 0 (16 * 16) (fun j => a5 + j / 16 * 16 + j % 16)) ?_ ?_
              · refine rl_if (fun c122 => ?_) (fun c122 => ?_)
                · have dc122 := tl_eq ix2 tn_2 c122
                  exfalso
                  omega
                · refine rl_bnd (Q := fun (y z : Int32) => y = z ∧ (0 ≤ y.toInt ∧ y.toInt ≤ 0)) ?_ ?_
                  · refine rl_if (fun c123 => ?_) (fun c123 => ?_)
                    · have dc123 := tl_eq ix2 tn_3 c123
                      exfalso
                      omega
                    · exact rl_some ⟨rfl, (ti_bd tn_0 (by omega) (by omega))⟩
                  · rintro y37 y37r ⟨ey37, ly37⟩
                    obtain rfl : y37 = y37r := ey37
                    have ly37 : 0 ≤ y37.toInt ∧ y37.toInt ≤ 0 := ly37
                    have iy37 : TI y37 (0) := ti_c ly37
                    refine rl_ltI (av_add tn_2 iy37 (by omega) (by omega)) (fun x38 ix38 => ?_)
                    refine rl_bnd (r_tapRows ty9_2 i3 ix38 ⟨rfl, rfl⟩ hc4 i5 (by omega) (by omega) (by omega) (by omega) (by omega) wW_y9_2 (fun h => absurd (by first | rfl | assumption | omega) h)) ?_
                    rintro y39 y39r ⟨uy39', vT_y39'⟩
                    have uy39 : Up mu 144 y9_2 y9_2r y39 y39r := uy39'
                    have ty39 := cx_up ty9_2 uy39
                    have wW_y39 := wq_up uy39 wW_y9_2
                    have vT_y39 : WG mu y39 y39r c4 0 (16 * 16) (fun j => a5 + j / 16 * 16 + j % 16) := wg_cs vT_y39' (by omega) (by omega) (fun j h1 h2 => by (try dsimp only) <;> omega)
                    exact rl_some ⟨rfl, (ti_bd tn_1 (by omega) (by omega)), uy39, vT_y39⟩
              · rintro ⟨y35_1, y35_2⟩ ⟨y35_1r, y35_2r⟩ ⟨ey35_1, ly35_1, uy35_2, wT_y35_2⟩
                obtain rfl : y35_1 = y35_1r := ey35_1
                have ly35_1 : 1 ≤ y35_1.toInt ∧ y35_1.toInt ≤ 1 := ly35_1
                have iy35_1 : TI y35_1 (1) := ti_c ly35_1
                have uy35_2 : Up mu 144 y9_2 y9_2r y35_2 y35_2r := uy35_2
                have ty35_2 := cx_up ty9_2 uy35_2
                have wW_y35_2 := wq_up uy35_2 wW_y9_2
                have wT_y35_2 : WG mu y35_2 y35_2r c4 0 (16 * 16) (fun j => a5 + j / 16 * 16 + j % 16) := wT_y35_2
                exact rl_some ⟨rfl, (ti_bd iy35_1 (by omega) (by omega)), uy35_2, wT_y35_2⟩
          · rintro ⟨y10_1, y10_2⟩ ⟨y10_1r, y10_2r⟩ ⟨ey10_1, ly10_1, uy10_2, wT_y10_2⟩
            obtain rfl : y10_1 = y10_1r := ey10_1
            have ly10_1 : 1 ≤ y10_1.toInt ∧ y10_1.toInt ≤ 1 := ly10_1
            have iy10_1 : TI y10_1 (1) := ti_c ly10_1
            have uy10_2 : Up mu 144 y9_2 y9_2r y10_2 y10_2r := uy10_2
            have ty10_2 := cx_up ty9_2 uy10_2
            have wW_y10_2 := wq_up uy10_2 wW_y9_2
            have wT_y10_2 : WG mu y10_2 y10_2r c4 0 (16 * 16) (fun j => a5 + j / 16 * 16 + j % 16) := wT_y10_2
            refine rl_bnd (Q := fun (y z : Int32 × DD) => y.1 = z.1 ∧ (1 ≤ y.1.toInt ∧ y.1.toInt ≤ 1) ∧ Up mu 144 y10_2 y10_2r y.2 z.2) ?_ ?_
            · refine rl_if (fun c124 => ?_) (fun c124 => ?_)
              · have dc124 := tl_eq ix2 tn_0 c124
                exfalso
                omega
              · refine rl_bnd (Q := fun (y z : Int32 × DD) => y.1 = z.1 ∧ (1 ≤ y.1.toInt ∧ y.1.toInt ≤ 1) ∧ Up mu 144 y10_2 y10_2r y.2 z.2) ?_ ?_
                · refine rl_if (fun c125 => ?_) (fun c125 => ?_)
                  · have dc125 := tl_eq ix1 tn_2 c125
                    exact rl_some ⟨rfl, (ti_bd iy10_1 (by omega) (by omega)), (up_0 mu (κ := 144) _ _)⟩
                  · have dc125 := tl_ne ix1 tn_2 c125
                    exfalso
                    omega
                · rintro ⟨y28_1, y28_2⟩ ⟨y28_1r, y28_2r⟩ ⟨ey28_1, ly28_1, uy28_2⟩
                  obtain rfl : y28_1 = y28_1r := ey28_1
                  have ly28_1 : 1 ≤ y28_1.toInt ∧ y28_1.toInt ≤ 1 := ly28_1
                  have iy28_1 : TI y28_1 (1) := ti_c ly28_1
                  have uy28_2 : Up mu 144 y10_2 y10_2r y28_2 y28_2r := uy28_2
                  have ty28_2 := cx_up ty10_2 uy28_2
                  have wW_y28_2 := wq_up uy28_2 wW_y10_2
                  have wT_y28_2 := wg_up uy28_2 wT_y10_2
                  exact rl_some ⟨rfl, (ti_bd iy28_1 (by omega) (by omega)), uy28_2⟩
            · rintro ⟨y11_1, y11_2⟩ ⟨y11_1r, y11_2r⟩ ⟨ey11_1, ly11_1, uy11_2⟩
              obtain rfl : y11_1 = y11_1r := ey11_1
              have ly11_1 : 1 ≤ y11_1.toInt ∧ y11_1.toInt ≤ 1 := ly11_1
              have iy11_1 : TI y11_1 (1) := ti_c ly11_1
              have uy11_2 : Up mu 144 y10_2 y10_2r y11_2 y11_2r := uy11_2
              have ty11_2 := cx_up ty10_2 uy11_2
              have wW_y11_2 := wq_up uy11_2 wW_y10_2
              have wT_y11_2 := wg_up uy11_2 wT_y10_2
              refine rl_bnd (Q := fun (y z : DD) => Up mu 144 y11_2 y11_2r y z) ?_ ?_
              · refine rl_if (fun c126 => ?_) (fun c126 => ?_)
                · have dc126 := tl_eq ix1 tn_2 c126
                  refine rl_bnd (Q := fun (y z : DD) => Up mu 144 y11_2 y11_2r y z) ?_ ?_
                  · refine rl_if (fun c127 => ?_) (fun c127 => ?_)
                    · have dc127 := tl_eq ix2 tn_0 c127
                      exfalso
                      omega
                    · refine rl_bnd (r_tapBoth ty11_2 i3 ⟨rfl, rfl⟩ hc4 i5 (by omega) (by omega) (by omega) wW_y11_2 (fun _ => wg_cs wT_y11_2 (by omega) (by omega) (fun j h1 h2 => by (try dsimp only) <;> omega))) ?_
                      rintro y21 y21r ⟨uy21', vT_y21'⟩
                      have uy21 : Up mu 144 y11_2 y11_2r y21 y21r := uy21'
                      have ty21 := cx_up ty11_2 uy21
                      have wW_y21 := wq_up uy21 wW_y11_2
                      have wT_y21 := wg_up uy21 wT_y11_2
                      have vT_y21 : WG mu y21 y21r c4 0 (16 * 16) (fun j => a5 + j / 16 * 16 + j % 16) := wg_cs vT_y21' (by omega) (by omega) (fun j h1 h2 => by (try dsimp only) <;> omega)
                      exact rl_some uy21
                  · rintro y19 y19r uy19
                    have uy19 : Up mu 144 y11_2 y11_2r y19 y19r := uy19
                    have ty19 := cx_up ty11_2 uy19
                    have wW_y19 := wq_up uy19 wW_y11_2
                    have wT_y19 := wg_up uy19 wT_y11_2
                    exact rl_some uy19
                · have dc126 := tl_ne ix1 tn_2 c126
                  exfalso
                  omega
              · rintro y12 y12r uy12
                have uy12 : Up mu 144 y11_2 y11_2r y12 y12r := uy12
                have ty12 := cx_up ty11_2 uy12
                have wW_y12 := wq_up uy12 wW_y11_2
                have wT_y12 := wg_up uy12 wT_y11_2
                exact rl_some ⟨(up_tr (up_tr (up_tr (up_tr uy8 uy9_2) uy10_2) uy11_2) uy12), wT_y12⟩
      · clear ix2 zx2
        have ix2 : TI x2 2 := yx2
        refine rl_ltI (av_sar 2 i1 (by decide)) (fun x3 ix3 => ?_)
        refine rl_ltI (av_sub ix3 tn_2 (by omega) (by omega)) (fun x4 ix4 => ?_)
        refine rl_ltI (av_sar 2 i2 (by decide)) (fun x5 ix5 => ?_)
        refine rl_ltI (av_sub ix5 tn_2 (by omega) (by omega)) (fun x6 ix6 => ?_)
        refine rl_ltI (av_add i3 tn_5 (by omega) (by omega)) (fun x7 ix7 => ?_)
        refine rl_bnd (r_fillWindow t ⟨rfl, rfl⟩ hq0 ix7 (by omega) (by omega)) ?_
        rintro y8 y8r ⟨uy8', vW_y8⟩
        have uy8 : Up mu 144 M N y8 y8r := uy8'
        have ty8 := cx_up t uy8
        refine rl_bnd (Q := fun (y z : Int32 × DD) => y.1 = z.1 ∧ (0 ≤ y.1.toInt ∧ y.1.toInt ≤ 0) ∧ Up mu 144 y8 y8r y.2 z.2) ?_ ?_
        · refine rl_if (fun c128 => ?_) (fun c128 => ?_)
          · have dc128 := tl_eq ix2 tn_0 c128
            exfalso
            omega
          · refine rl_bnd (Q := fun (y z : Int32 × DD) => y.1 = z.1 ∧ (0 ≤ y.1.toInt ∧ y.1.toInt ≤ 0) ∧ Up mu 144 y8 y8r y.2 z.2) ?_ ?_
            · refine rl_if (fun c129 => ?_) (fun c129 => ?_)
              · have dc129 := tl_eq ix1 tn_0 c129
                exfalso
                omega
              · exact rl_some ⟨rfl, (ti_bd tn_0 (by omega) (by omega)), (up_0 mu (κ := 144) _ _)⟩
            · rintro ⟨y42_1, y42_2⟩ ⟨y42_1r, y42_2r⟩ ⟨ey42_1, ly42_1, uy42_2⟩
              obtain rfl : y42_1 = y42_1r := ey42_1
              have ly42_1 : 0 ≤ y42_1.toInt ∧ y42_1.toInt ≤ 0 := ly42_1
              have iy42_1 : TI y42_1 (0) := ti_c ly42_1
              have uy42_2 : Up mu 144 y8 y8r y42_2 y42_2r := uy42_2
              have ty42_2 := cx_up ty8 uy42_2
              have wW_y42_2 := wq_up uy42_2 vW_y8
              exact rl_some ⟨rfl, (ti_bd iy42_1 (by omega) (by omega)), uy42_2⟩
        · rintro ⟨y9_1, y9_2⟩ ⟨y9_1r, y9_2r⟩ ⟨ey9_1, ly9_1, uy9_2⟩
          obtain rfl : y9_1 = y9_1r := ey9_1
          have ly9_1 : 0 ≤ y9_1.toInt ∧ y9_1.toInt ≤ 0 := ly9_1
          have iy9_1 : TI y9_1 (0) := ti_c ly9_1
          have uy9_2 : Up mu 144 y8 y8r y9_2 y9_2r := uy9_2
          have ty9_2 := cx_up ty8 uy9_2
          have wW_y9_2 := wq_up uy9_2 vW_y8
          refine rl_bnd (Q := fun (y z : Int32 × DD) => y.1 = z.1 ∧ (0 ≤ y.1.toInt ∧ y.1.toInt ≤ 0) ∧ Up mu 144 y9_2 y9_2r y.2 z.2) ?_ ?_
          · refine rl_if (fun c130 => ?_) (fun c130 => ?_)
            · have dc130 := tl_eq ix1 tn_0 c130
              exfalso
              omega
            · refine rl_bnd (Q := fun (y z : Int32 × DD) => y.1 = z.1 ∧ (0 ≤ y.1.toInt ∧ y.1.toInt ≤ 0) ∧ Up mu 144 y9_2 y9_2r y.2 z.2) ?_ ?_
              · refine rl_if (fun c131 => ?_) (fun c131 => ?_)
                · have dc131 := tl_eq ix2 tn_2 c131
                  exact rl_some ⟨rfl, (ti_bd iy9_1 (by omega) (by omega)), (up_0 mu (κ := 144) _ _)⟩
                · have dc131 := tl_ne ix2 tn_2 c131
                  exfalso
                  omega
              · rintro ⟨y35_1, y35_2⟩ ⟨y35_1r, y35_2r⟩ ⟨ey35_1, ly35_1, uy35_2⟩
                obtain rfl : y35_1 = y35_1r := ey35_1
                have ly35_1 : 0 ≤ y35_1.toInt ∧ y35_1.toInt ≤ 0 := ly35_1
                have iy35_1 : TI y35_1 (0) := ti_c ly35_1
                have uy35_2 : Up mu 144 y9_2 y9_2r y35_2 y35_2r := uy35_2
                have ty35_2 := cx_up ty9_2 uy35_2
                have wW_y35_2 := wq_up uy35_2 wW_y9_2
                exact rl_some ⟨rfl, (ti_bd iy35_1 (by omega) (by omega)), uy35_2⟩
          · rintro ⟨y10_1, y10_2⟩ ⟨y10_1r, y10_2r⟩ ⟨ey10_1, ly10_1, uy10_2⟩
            obtain rfl : y10_1 = y10_1r := ey10_1
            have ly10_1 : 0 ≤ y10_1.toInt ∧ y10_1.toInt ≤ 0 := ly10_1
            have iy10_1 : TI y10_1 (0) := ti_c ly10_1
            have uy10_2 : Up mu 144 y9_2 y9_2r y10_2 y10_2r := uy10_2
            have ty10_2 := cx_up ty9_2 uy10_2
            have wW_y10_2 := wq_up uy10_2 wW_y9_2
            refine rl_bnd (Q := fun (y z : Int32 × DD) => y.1 = z.1 ∧ (0 ≤ y.1.toInt ∧ y.1.toInt ≤ 0) ∧ Up mu 144 y10_2 y10_2r y.2 z.2) ?_ ?_
            · refine rl_if (fun c132 => ?_) (fun c132 => ?_)
              · have dc132 := tl_eq ix2 tn_0 c132
                exfalso
                omega
              · refine rl_bnd (Q := fun (y z : Int32 × DD) => y.1 = z.1 ∧ (0 ≤ y.1.toInt ∧ y.1.toInt ≤ 0) ∧ Up mu 144 y10_2 y10_2r y.2 z.2) ?_ ?_
                · refine rl_if (fun c133 => ?_) (fun c133 => ?_)
                  · have dc133 := tl_eq ix1 tn_2 c133
                    exact rl_some ⟨rfl, (ti_bd iy10_1 (by omega) (by omega)), (up_0 mu (κ := 144) _ _)⟩
                  · have dc133 := tl_ne ix1 tn_2 c133
                    exfalso
                    omega
                · rintro ⟨y28_1, y28_2⟩ ⟨y28_1r, y28_2r⟩ ⟨ey28_1, ly28_1, uy28_2⟩
                  obtain rfl : y28_1 = y28_1r := ey28_1
                  have ly28_1 : 0 ≤ y28_1.toInt ∧ y28_1.toInt ≤ 0 := ly28_1
                  have iy28_1 : TI y28_1 (0) := ti_c ly28_1
                  have uy28_2 : Up mu 144 y10_2 y10_2r y28_2 y28_2r := uy28_2
                  have ty28_2 := cx_up ty10_2 uy28_2
                  have wW_y28_2 := wq_up uy28_2 wW_y10_2
                  exact rl_some ⟨rfl, (ti_bd iy28_1 (by omega) (by omega)), uy28_2⟩
            · rintro ⟨y11_1, y11_2⟩ ⟨y11_1r, y11_2r⟩ ⟨ey11_1, ly11_1, uy11_2⟩
              obtain rfl : y11_1 = y11_1r := ey11_1
              have ly11_1 : 0 ≤ y11_1.toInt ∧ y11_1.toInt ≤ 0 := ly11_1
              have iy11_1 : TI y11_1 (0) := ti_c ly11_1
              have uy11_2 : Up mu 144 y10_2 y10_2r y11_2 y11_2r := uy11_2
              have ty11_2 := cx_up ty10_2 uy11_2
              have wW_y11_2 := wq_up uy11_2 wW_y10_2
              refine rl_bnd (Q := fun (y z : DD) => Up mu 144 y11_2 y11_2r y z ∧ WG mu y z c4 0 (16 * 16) (fun j => a5 + j / 16 * 16 + j % 16)) ?_ ?_
              · refine rl_if (fun c134 => ?_) (fun c134 => ?_)
                · have dc134 := tl_eq ix1 tn_2 c134
                  refine rl_bnd (Q := fun (y z : DD) => Up mu 144 y11_2 y11_2r y z ∧ WG mu y z c4 0 (16 * 16) (fun j => a5 + j / 16 * 16 + j % 16)) ?_ ?_
                  · refine rl_if (fun c135 => ?_) (fun c135 => ?_)
                    · have dc135 := tl_eq ix2 tn_0 c135
                      exfalso
                      omega
                    · refine rl_bnd (r_tapBoth ty11_2 i3 ⟨rfl, rfl⟩ hc4 i5 (by omega) (by omega) (by omega) wW_y11_2 (fun h => absurd (by first | rfl | assumption | omega) h)) ?_
                      rintro y21 y21r ⟨uy21', vT_y21'⟩
                      have uy21 : Up mu 144 y11_2 y11_2r y21 y21r := uy21'
                      have ty21 := cx_up ty11_2 uy21
                      have wW_y21 := wq_up uy21 wW_y11_2
                      have vT_y21 : WG mu y21 y21r c4 0 (16 * 16) (fun j => a5 + j / 16 * 16 + j % 16) := wg_cs vT_y21' (by omega) (by omega) (fun j h1 h2 => by (try dsimp only) <;> omega)
                      exact rl_some ⟨uy21, vT_y21⟩
                  · rintro y19 y19r ⟨uy19, wT_y19⟩
                    have uy19 : Up mu 144 y11_2 y11_2r y19 y19r := uy19
                    have ty19 := cx_up ty11_2 uy19
                    have wW_y19 := wq_up uy19 wW_y11_2
                    have wT_y19 : WG mu y19 y19r c4 0 (16 * 16) (fun j => a5 + j / 16 * 16 + j % 16) := wT_y19
                    exact rl_some ⟨uy19, wT_y19⟩
                · have dc134 := tl_ne ix1 tn_2 c134
                  exfalso
                  omega
              · rintro y12 y12r ⟨uy12, wT_y12⟩
                have uy12 : Up mu 144 y11_2 y11_2r y12 y12r := uy12
                have ty12 := cx_up ty11_2 uy12
                have wW_y12 := wq_up uy12 wW_y11_2
                have wT_y12 : WG mu y12 y12r c4 0 (16 * 16) (fun j => a5 + j / 16 * 16 + j % 16) := wT_y12
                exact rl_some ⟨(up_tr (up_tr (up_tr (up_tr uy8 uy9_2) uy10_2) uy11_2) uy12), wT_y12⟩
      · clear ix2 zx2
        have ix2 : TI x2 3 := yx2
        refine rl_ltI (av_sar 2 i1 (by decide)) (fun x3 ix3 => ?_)
        refine rl_ltI (av_sub ix3 tn_2 (by omega) (by omega)) (fun x4 ix4 => ?_)
        refine rl_ltI (av_sar 2 i2 (by decide)) (fun x5 ix5 => ?_)
        refine rl_ltI (av_sub ix5 tn_2 (by omega) (by omega)) (fun x6 ix6 => ?_)
        refine rl_ltI (av_add i3 tn_5 (by omega) (by omega)) (fun x7 ix7 => ?_)
        refine rl_bnd (r_fillWindow t ⟨rfl, rfl⟩ hq0 ix7 (by omega) (by omega)) ?_
        rintro y8 y8r ⟨uy8', vW_y8⟩
        have uy8 : Up mu 144 M N y8 y8r := uy8'
        have ty8 := cx_up t uy8
        refine rl_bnd (Q := fun (y z : Int32 × DD) => y.1 = z.1 ∧ (0 ≤ y.1.toInt ∧ y.1.toInt ≤ 0) ∧ Up mu 144 y8 y8r y.2 z.2) ?_ ?_
        · refine rl_if (fun c136 => ?_) (fun c136 => ?_)
          · have dc136 := tl_eq ix2 tn_0 c136
            exfalso
            omega
          · refine rl_bnd (Q := fun (y z : Int32 × DD) => y.1 = z.1 ∧ (0 ≤ y.1.toInt ∧ y.1.toInt ≤ 0) ∧ Up mu 144 y8 y8r y.2 z.2) ?_ ?_
            · refine rl_if (fun c137 => ?_) (fun c137 => ?_)
              · have dc137 := tl_eq ix1 tn_0 c137
                exfalso
                omega
              · exact rl_some ⟨rfl, (ti_bd tn_0 (by omega) (by omega)), (up_0 mu (κ := 144) _ _)⟩
            · rintro ⟨y42_1, y42_2⟩ ⟨y42_1r, y42_2r⟩ ⟨ey42_1, ly42_1, uy42_2⟩
              obtain rfl : y42_1 = y42_1r := ey42_1
              have ly42_1 : 0 ≤ y42_1.toInt ∧ y42_1.toInt ≤ 0 := ly42_1
              have iy42_1 : TI y42_1 (0) := ti_c ly42_1
              have uy42_2 : Up mu 144 y8 y8r y42_2 y42_2r := uy42_2
              have ty42_2 := cx_up ty8 uy42_2
              have wW_y42_2 := wq_up uy42_2 vW_y8
              exact rl_some ⟨rfl, (ti_bd iy42_1 (by omega) (by omega)), uy42_2⟩
        · rintro ⟨y9_1, y9_2⟩ ⟨y9_1r, y9_2r⟩ ⟨ey9_1, ly9_1, uy9_2⟩
          obtain rfl : y9_1 = y9_1r := ey9_1
          have ly9_1 : 0 ≤ y9_1.toInt ∧ y9_1.toInt ≤ 0 := ly9_1
          have iy9_1 : TI y9_1 (0) := ti_c ly9_1
          have uy9_2 : Up mu 144 y8 y8r y9_2 y9_2r := uy9_2
          have ty9_2 := cx_up ty8 uy9_2
          have wW_y9_2 := wq_up uy9_2 vW_y8
          refine rl_bnd (Q := fun (y z : Int32 × DD) => y.1 = z.1 ∧ (1 ≤ y.1.toInt ∧ y.1.toInt ≤ 1) ∧ Up mu 144 y9_2 y9_2r y.2 z.2 ∧ WG mu y.2 z.2 c4 0 (16 * 16) (fun j => a5 + j / 16 * 16 + j % 16)) ?_ ?_
          · refine rl_if (fun c138 => ?_) (fun c138 => ?_)
            · have dc138 := tl_eq ix1 tn_0 c138
              exfalso
              omega
            · refine rl_bnd (Q := fun (y z : Int32 × DD) => y.1 = z.1 ∧ (1 ≤ y.1.toInt ∧ y.1.toInt ≤ 1) ∧ Up mu 144 y9_2 y9_2r y.2 z.2 ∧ WG mu y.2 z.2 c4 0 (16 * 16) (fun j => a5 + j / 16 * 16 + j % 16)) ?_ ?_
              · refine rl_if (fun c139 => ?_) (fun c139 => ?_)
                · have dc139 := tl_eq ix2 tn_2 c139
                  exfalso
                  omega
                · refine rl_bnd (Q := fun (y z : Int32) => y = z ∧ (1 ≤ y.toInt ∧ y.toInt ≤ 1)) ?_ ?_
                  · refine rl_if (fun c140 => ?_) (fun c140 => ?_)
                    · have dc140 := tl_eq ix2 tn_3 c140
                      exact rl_some ⟨rfl, (ti_bd tn_1 (by omega) (by omega))⟩
                    · have dc140 := tl_ne ix2 tn_3 c140
                      exfalso
                      omega
                  · rintro y37 y37r ⟨ey37, ly37⟩
                    obtain rfl : y37 = y37r := ey37
                    have ly37 : 1 ≤ y37.toInt ∧ y37.toInt ≤ 1 := ly37
                    have iy37 : TI y37 (1) := ti_c ly37
                    refine rl_ltI (av_add tn_2 iy37 (by omega) (by omega)) (fun x38 ix38 => ?_)
                    refine rl_bnd (r_tapRows ty9_2 i3 ix38 ⟨rfl, rfl⟩ hc4 i5 (by omega) (by omega) (by omega) (by omega) (by omega) wW_y9_2 (fun h => absurd (by first | rfl | assumption | omega) h)) ?_
                    rintro y39 y39r ⟨uy39', vT_y39'⟩
                    have uy39 : Up mu 144 y9_2 y9_2r y39 y39r := uy39'
                    have ty39 := cx_up ty9_2 uy39
                    have wW_y39 := wq_up uy39 wW_y9_2
                    have vT_y39 : WG mu y39 y39r c4 0 (16 * 16) (fun j => a5 + j / 16 * 16 + j % 16) := wg_cs vT_y39' (by omega) (by omega) (fun j h1 h2 => by (try dsimp only) <;> omega)
                    exact rl_some ⟨rfl, (ti_bd tn_1 (by omega) (by omega)), uy39, vT_y39⟩
              · rintro ⟨y35_1, y35_2⟩ ⟨y35_1r, y35_2r⟩ ⟨ey35_1, ly35_1, uy35_2, wT_y35_2⟩
                obtain rfl : y35_1 = y35_1r := ey35_1
                have ly35_1 : 1 ≤ y35_1.toInt ∧ y35_1.toInt ≤ 1 := ly35_1
                have iy35_1 : TI y35_1 (1) := ti_c ly35_1
                have uy35_2 : Up mu 144 y9_2 y9_2r y35_2 y35_2r := uy35_2
                have ty35_2 := cx_up ty9_2 uy35_2
                have wW_y35_2 := wq_up uy35_2 wW_y9_2
                have wT_y35_2 : WG mu y35_2 y35_2r c4 0 (16 * 16) (fun j => a5 + j / 16 * 16 + j % 16) := wT_y35_2
                exact rl_some ⟨rfl, (ti_bd iy35_1 (by omega) (by omega)), uy35_2, wT_y35_2⟩
          · rintro ⟨y10_1, y10_2⟩ ⟨y10_1r, y10_2r⟩ ⟨ey10_1, ly10_1, uy10_2, wT_y10_2⟩
            obtain rfl : y10_1 = y10_1r := ey10_1
            have ly10_1 : 1 ≤ y10_1.toInt ∧ y10_1.toInt ≤ 1 := ly10_1
            have iy10_1 : TI y10_1 (1) := ti_c ly10_1
            have uy10_2 : Up mu 144 y9_2 y9_2r y10_2 y10_2r := uy10_2
            have ty10_2 := cx_up ty9_2 uy10_2
            have wW_y10_2 := wq_up uy10_2 wW_y9_2
            have wT_y10_2 : WG mu y10_2 y10_2r c4 0 (16 * 16) (fun j => a5 + j / 16 * 16 + j % 16) := wT_y10_2
            refine rl_bnd (Q := fun (y z : Int32 × DD) => y.1 = z.1 ∧ (1 ≤ y.1.toInt ∧ y.1.toInt ≤ 1) ∧ Up mu 144 y10_2 y10_2r y.2 z.2) ?_ ?_
            · refine rl_if (fun c141 => ?_) (fun c141 => ?_)
              · have dc141 := tl_eq ix2 tn_0 c141
                exfalso
                omega
              · refine rl_bnd (Q := fun (y z : Int32 × DD) => y.1 = z.1 ∧ (1 ≤ y.1.toInt ∧ y.1.toInt ≤ 1) ∧ Up mu 144 y10_2 y10_2r y.2 z.2) ?_ ?_
                · refine rl_if (fun c142 => ?_) (fun c142 => ?_)
                  · have dc142 := tl_eq ix1 tn_2 c142
                    exact rl_some ⟨rfl, (ti_bd iy10_1 (by omega) (by omega)), (up_0 mu (κ := 144) _ _)⟩
                  · have dc142 := tl_ne ix1 tn_2 c142
                    exfalso
                    omega
                · rintro ⟨y28_1, y28_2⟩ ⟨y28_1r, y28_2r⟩ ⟨ey28_1, ly28_1, uy28_2⟩
                  obtain rfl : y28_1 = y28_1r := ey28_1
                  have ly28_1 : 1 ≤ y28_1.toInt ∧ y28_1.toInt ≤ 1 := ly28_1
                  have iy28_1 : TI y28_1 (1) := ti_c ly28_1
                  have uy28_2 : Up mu 144 y10_2 y10_2r y28_2 y28_2r := uy28_2
                  have ty28_2 := cx_up ty10_2 uy28_2
                  have wW_y28_2 := wq_up uy28_2 wW_y10_2
                  have wT_y28_2 := wg_up uy28_2 wT_y10_2
                  exact rl_some ⟨rfl, (ti_bd iy28_1 (by omega) (by omega)), uy28_2⟩
            · rintro ⟨y11_1, y11_2⟩ ⟨y11_1r, y11_2r⟩ ⟨ey11_1, ly11_1, uy11_2⟩
              obtain rfl : y11_1 = y11_1r := ey11_1
              have ly11_1 : 1 ≤ y11_1.toInt ∧ y11_1.toInt ≤ 1 := ly11_1
              have iy11_1 : TI y11_1 (1) := ti_c ly11_1
              have uy11_2 : Up mu 144 y10_2 y10_2r y11_2 y11_2r := uy11_2
              have ty11_2 := cx_up ty10_2 uy11_2
              have wW_y11_2 := wq_up uy11_2 wW_y10_2
              have wT_y11_2 := wg_up uy11_2 wT_y10_2
              refine rl_bnd (Q := fun (y z : DD) => Up mu 144 y11_2 y11_2r y z) ?_ ?_
              · refine rl_if (fun c143 => ?_) (fun c143 => ?_)
                · have dc143 := tl_eq ix1 tn_2 c143
                  refine rl_bnd (Q := fun (y z : DD) => Up mu 144 y11_2 y11_2r y z) ?_ ?_
                  · refine rl_if (fun c144 => ?_) (fun c144 => ?_)
                    · have dc144 := tl_eq ix2 tn_0 c144
                      exfalso
                      omega
                    · refine rl_bnd (r_tapBoth ty11_2 i3 ⟨rfl, rfl⟩ hc4 i5 (by omega) (by omega) (by omega) wW_y11_2 (fun _ => wg_cs wT_y11_2 (by omega) (by omega) (fun j h1 h2 => by (try dsimp only) <;> omega))) ?_
                      rintro y21 y21r ⟨uy21', vT_y21'⟩
                      have uy21 : Up mu 144 y11_2 y11_2r y21 y21r := uy21'
                      have ty21 := cx_up ty11_2 uy21
                      have wW_y21 := wq_up uy21 wW_y11_2
                      have wT_y21 := wg_up uy21 wT_y11_2
                      have vT_y21 : WG mu y21 y21r c4 0 (16 * 16) (fun j => a5 + j / 16 * 16 + j % 16) := wg_cs vT_y21' (by omega) (by omega) (fun j h1 h2 => by (try dsimp only) <;> omega)
                      exact rl_some uy21
                  · rintro y19 y19r uy19
                    have uy19 : Up mu 144 y11_2 y11_2r y19 y19r := uy19
                    have ty19 := cx_up ty11_2 uy19
                    have wW_y19 := wq_up uy19 wW_y11_2
                    have wT_y19 := wg_up uy19 wT_y11_2
                    exact rl_some uy19
                · have dc143 := tl_ne ix1 tn_2 c143
                  exfalso
                  omega
              · rintro y12 y12r uy12
                have uy12 : Up mu 144 y11_2 y11_2r y12 y12r := uy12
                have ty12 := cx_up ty11_2 uy12
                have wW_y12 := wq_up uy12 wW_y11_2
                have wT_y12 := wg_up uy12 wT_y11_2
                exact rl_some ⟨(up_tr (up_tr (up_tr (up_tr uy8 uy9_2) uy10_2) uy11_2) uy12), wT_y12⟩
    · clear ix1 zx1
      have ix1 : TI x1 3 := yx1
      refine rl_ltI (av_and 2 i2 (by decide) (by decide)) (fun x2 ix2 => ?_)
      have zx2 : x2.toInt = _ := ix2
      rcases (by omega : x2.toInt = 0 ∨ x2.toInt = 1 ∨ x2.toInt = 2 ∨ x2.toInt = 3) with yx2 | yx2 | yx2 | yx2
      · clear ix2 zx2
        have ix2 : TI x2 0 := yx2
        refine rl_ltI (av_sar 2 i1 (by decide)) (fun x3 ix3 => ?_)
        refine rl_ltI (av_sub ix3 tn_2 (by omega) (by omega)) (fun x4 ix4 => ?_)
        refine rl_ltI (av_sar 2 i2 (by decide)) (fun x5 ix5 => ?_)
        refine rl_ltI (av_sub ix5 tn_2 (by omega) (by omega)) (fun x6 ix6 => ?_)
        refine rl_ltI (av_add i3 tn_5 (by omega) (by omega)) (fun x7 ix7 => ?_)
        refine rl_bnd (r_fillWindow t ⟨rfl, rfl⟩ hq0 ix7 (by omega) (by omega)) ?_
        rintro y8 y8r ⟨uy8', vW_y8⟩
        have uy8 : Up mu 144 M N y8 y8r := uy8'
        have ty8 := cx_up t uy8
        refine rl_bnd (Q := fun (y z : Int32 × DD) => y.1 = z.1 ∧ (1 ≤ y.1.toInt ∧ y.1.toInt ≤ 1) ∧ Up mu 144 y8 y8r y.2 z.2 ∧ WG mu y.2 z.2 c4 0 (16 * 16) (fun j => a5 + j / 16 * 16 + j % 16)) ?_ ?_
        · refine rl_if (fun c145 => ?_) (fun c145 => ?_)
          · have dc145 := tl_eq ix2 tn_0 c145
            refine rl_bnd (Q := fun (y z : Int32 × DD) => y.1 = z.1 ∧ (1 ≤ y.1.toInt ∧ y.1.toInt ≤ 1) ∧ Up mu 144 y8 y8r y.2 z.2 ∧ WG mu y.2 z.2 c4 0 (16 * 16) (fun j => a5 + j / 16 * 16 + j % 16)) ?_ ?_
            · refine rl_if (fun c146 => ?_) (fun c146 => ?_)
              · have dc146 := tl_eq ix1 tn_2 c146
                exfalso
                omega
              · refine rl_bnd (Q := fun (y z : Int32) => y = z ∧ (0 ≤ y.toInt ∧ y.toInt ≤ 0)) ?_ ?_
                · refine rl_if (fun c147 => ?_) (fun c147 => ?_)
                  · have dc147 := tl_eq ix2 tn_3 c147
                    exfalso
                    omega
                  · exact rl_some ⟨rfl, (ti_bd tn_0 (by omega) (by omega))⟩
                · rintro y77 y77r ⟨ey77, ly77⟩
                  obtain rfl : y77 = y77r := ey77
                  have ly77 : 0 ≤ y77.toInt ∧ y77.toInt ≤ 0 := ly77
                  have iy77 : TI y77 (0) := ti_c ly77
                  have ky77 : y77.toInt = _ := iy77
                  refine rl_ltI (av_add tn_2 iy77 (by omega) (by omega)) (fun x78 ix78 => ?_)
                  refine rl_ltI (av_mul ix78 tn_21 (by omega) (by omega)) (fun x79 ix79 => ?_)
                  refine rl_ltI (av_add ix79 tn_2 (by omega) (by omega)) (fun x80 ix80 => ?_)
                  refine rl_bnd (Q := fun (y z : Int32) => y = z ∧ (1 ≤ y.toInt ∧ y.toInt ≤ 1)) ?_ ?_
                  · refine rl_if (fun c148 => ?_) (fun c148 => ?_)
                    · have dc148 := tl_eq ix1 tn_3 c148
                      exact rl_some ⟨rfl, (ti_bd tn_1 (by omega) (by omega))⟩
                    · have dc148 := tl_ne ix1 tn_3 c148
                      exfalso
                      omega
                  · rintro y81 y81r ⟨ey81, ly81⟩
                    obtain rfl : y81 = y81r := ey81
                    have ly81 : 1 ≤ y81.toInt ∧ y81.toInt ≤ 1 := ly81
                    have iy81 : TI y81 (1) := ti_c ly81
                    have ky81 : y81.toInt = _ := iy81
                    refine rl_ltI (av_add ix80 iy81 (by omega) (by omega)) (fun x82 ix82 => ?_)
                    refine rl_bnd (Q := fun (y z : Int32 × DD) => y.1 = z.1 ∧ (0 ≤ y.1.toInt ∧ y.1.toInt ≤ (16 * 16)) ∧ Up mu 144 y8 y8r y.2 z.2 ∧ WG mu y.2 z.2 c4 (0) (16 * 16) (fun j => a5 + j / 16 * 16 + j % 16)) (rl_itr (fun (y z : Int32 × DD) => y.1 = z.1 ∧ (0 ≤ y.1.toInt ∧ y.1.toInt ≤ (16 * 16)) ∧ Up mu 144 y8 y8r y.2 z.2 ∧ WG mu y.2 z.2 c4 (0) (y.1.toInt) (fun j => a5 + j / 16 * 16 + j % 16)) _ ?_ _ _ _ ?_) ?_
                    · rintro ⟨s84_1, s84_2⟩ ⟨s84_1r, s84_2r⟩ ⟨es84_1, ls84_1, us84_2, vT_s84_2⟩
                      obtain rfl : s84_1 = s84_1r := es84_1
                      have ls84_1 : 0 ≤ s84_1.toInt ∧ s84_1.toInt ≤ (16 * 16) := ls84_1
                      have is84_1 : TI s84_1 s84_1.toInt := rfl
                      have us84_2 : Up mu 144 y8 y8r s84_2 s84_2r := us84_2
                      have ts84_2 := cx_up ty8 us84_2
                      have wW_s84_2 := wq_up us84_2 vW_y8
                      have vT_s84_2 : WG mu s84_2 s84_2r c4 (0) (s84_1.toInt) (fun j => a5 + j / 16 * 16 + j % 16) := vT_s84_2
                      refine rl_ltI (av_mul i3 i3 (by omega) (by omega)) (fun x87 ix87 => ?_)
                      refine rl_if (fun c149 => ?_) (fun c149 => ?_)
                      · have dc149 := tl_le ix87 is84_1 c149
                        exact rl_inr ⟨rfl, (ti_bd is84_1 (by omega) (by omega)), us84_2, (wg_sub vT_s84_2 (by omega) (by omega))⟩
                      · have dc149 := tl_nle ix87 is84_1 c149
                        refine rl_chk (fun h => h) (fun k150 => ?_)
                        refine rl_ltI (av_div is84_1 i3 (by omega) (by omega)) (fun x89 ix89 => ?_)
                        refine rl_ltI (av_mul ix89 tn_16 (by omega) (by omega)) (fun x90 ix90 => ?_)
                        refine rl_ltI (av_add i5 ix90 (by omega) (by omega)) (fun x91 ix91 => ?_)
                        refine rl_chk (fun h => h) (fun k151 => ?_)
                        refine rl_ltI (av_mod is84_1 i3 (by omega) (by omega)) (fun x92 ix92 => ?_)
                        refine rl_ltI (av_add ix91 ix92 (by omega) (by omega)) (fun x93 ix93 => ?_)
                        refine rl_chk (fun h => h) (fun k152 => ?_)
                        refine rl_ltI (av_div is84_1 i3 (by omega) (by omega)) (fun x94 ix94 => ?_)
                        refine rl_ltI (av_mul ix94 tn_21 (by omega) (by omega)) (fun x95 ix95 => ?_)
                        refine rl_ltI (av_add ix82 ix95 (by omega) (by omega)) (fun x96 ix96 => ?_)
                        refine rl_chk (fun h => h) (fun k153 => ?_)
                        refine rl_ltI (av_mod is84_1 i3 (by omega) (by omega)) (fun x97 ix97 => ?_)
                        refine rl_ltI (av_add ix96 ix97 (by omega) (by omega)) (fun x98 ix98 => ?_)
                        refine rl_dr (cx_U ts84_2) (rx_c (a := 138) (k := 3) (b := 142) ts84_2 (Or.inr (Or.inl rfl)) rfl (by decide)) (fun gb99 => ?_)
                        refine rl_chk (chkl (cx_U ts84_2) gb99) (fun k154 => ?_)
                        refine rl_rd (wq_use wW_s84_2 ix98 (s84_1.toInt / 16 + 2 + y77.toInt) (s84_1.toInt % 16 + 2 + y81.toInt) (by omega) (by omega) (by omega) (by omega) (by (try dsimp only) <;> omega)) (fun x100 => ?_)
                        refine rl_dr (cx_U ts84_2) ⟨rfl, rfl⟩ (fun gb101 => ?_)
                        refine rl_chk (chkl (cx_U ts84_2) gb101) (fun k155 => ?_)
                        refine rl_w (κ := 144) (cx_U ts84_2) (by rcases hc4 with h | h <;> omega) (fun M102 M102r uM102 AM102 nM102 => ?_)
                        have tM102 := cx_up ts84_2 uM102
                        have wW_M102 := wq_up uM102 wW_s84_2
                        have wT_M102 := wg_up uM102 vT_s84_2
                        refine rl_ltI (av_add is84_1 tn_1 (by omega) (by omega)) (fun x103 ix103 => ?_)
                        exact rl_inl ⟨rfl, (ti_bd ix103 (by omega) (by omega)), (up_tr us84_2 uM102), (wg_ext wT_M102 ix93 (ag_up (up_0 mu (κ := 144) _ _) AM102) (by (try dsimp only) <;> omega) (by have q : _ = _ := ix103; (try dsimp only) <;> omega))⟩
                    · exact ⟨rfl, (ti_bd tn_0 (by omega) (by omega)), (up_0 mu (κ := 144) _ _), (wg_0 (by have q : _ = _ := tn_0; (try dsimp only) <;> omega))⟩
                    · rintro ⟨y83_1, y83_2⟩ ⟨y83_1r, y83_2r⟩ ⟨ey83_1, ly83_1, uy83_2, vT_y83_2⟩
                      obtain rfl : y83_1 = y83_1r := ey83_1
                      have ly83_1 : 0 ≤ y83_1.toInt ∧ y83_1.toInt ≤ (16 * 16) := ly83_1
                      have iy83_1 : TI y83_1 y83_1.toInt := rfl
                      have uy83_2 : Up mu 144 y8 y8r y83_2 y83_2r := uy83_2
                      have ty83_2 := cx_up ty8 uy83_2
                      have wW_y83_2 := wq_up uy83_2 vW_y8
                      have vT_y83_2 : WG mu y83_2 y83_2r c4 (0) (16 * 16) (fun j => a5 + j / 16 * 16 + j % 16) := vT_y83_2
                      exact rl_some ⟨rfl, (ti_bd tn_1 (by omega) (by omega)), uy83_2, vT_y83_2⟩
            · rintro ⟨y75_1, y75_2⟩ ⟨y75_1r, y75_2r⟩ ⟨ey75_1, ly75_1, uy75_2, wT_y75_2⟩
              obtain rfl : y75_1 = y75_1r := ey75_1
              have ly75_1 : 1 ≤ y75_1.toInt ∧ y75_1.toInt ≤ 1 := ly75_1
              have iy75_1 : TI y75_1 (1) := ti_c ly75_1
              have uy75_2 : Up mu 144 y8 y8r y75_2 y75_2r := uy75_2
              have ty75_2 := cx_up ty8 uy75_2
              have wW_y75_2 := wq_up uy75_2 vW_y8
              have wT_y75_2 : WG mu y75_2 y75_2r c4 0 (16 * 16) (fun j => a5 + j / 16 * 16 + j % 16) := wT_y75_2
              exact rl_some ⟨rfl, (ti_bd iy75_1 (by omega) (by omega)), uy75_2, wT_y75_2⟩
          · have dc145 := tl_ne ix2 tn_0 c145
            exfalso
            omega
        · rintro ⟨y9_1, y9_2⟩ ⟨y9_1r, y9_2r⟩ ⟨ey9_1, ly9_1, uy9_2, wT_y9_2⟩
          obtain rfl : y9_1 = y9_1r := ey9_1
          have ly9_1 : 1 ≤ y9_1.toInt ∧ y9_1.toInt ≤ 1 := ly9_1
          have iy9_1 : TI y9_1 (1) := ti_c ly9_1
          have uy9_2 : Up mu 144 y8 y8r y9_2 y9_2r := uy9_2
          have ty9_2 := cx_up ty8 uy9_2
          have wW_y9_2 := wq_up uy9_2 vW_y8
          have wT_y9_2 : WG mu y9_2 y9_2r c4 0 (16 * 16) (fun j => a5 + j / 16 * 16 + j % 16) := wT_y9_2
          refine rl_bnd (Q := fun (y z : Int32 × DD) => y.1 = z.1 ∧ (1 ≤ y.1.toInt ∧ y.1.toInt ≤ 1) ∧ Up mu 144 y9_2 y9_2r y.2 z.2) ?_ ?_
          · refine rl_if (fun c156 => ?_) (fun c156 => ?_)
            · have dc156 := tl_eq ix1 tn_0 c156
              exfalso
              omega
            · refine rl_bnd (Q := fun (y z : Int32 × DD) => y.1 = z.1 ∧ (1 ≤ y.1.toInt ∧ y.1.toInt ≤ 1) ∧ Up mu 144 y9_2 y9_2r y.2 z.2) ?_ ?_
              · refine rl_if (fun c157 => ?_) (fun c157 => ?_)
                · have dc157 := tl_eq ix2 tn_2 c157
                  exfalso
                  omega
                · refine rl_bnd (Q := fun (y z : Int32) => y = z ∧ (0 ≤ y.toInt ∧ y.toInt ≤ 0)) ?_ ?_
                  · refine rl_if (fun c158 => ?_) (fun c158 => ?_)
                    · have dc158 := tl_eq ix2 tn_3 c158
                      exfalso
                      omega
                    · exact rl_some ⟨rfl, (ti_bd tn_0 (by omega) (by omega))⟩
                  · rintro y37 y37r ⟨ey37, ly37⟩
                    obtain rfl : y37 = y37r := ey37
                    have ly37 : 0 ≤ y37.toInt ∧ y37.toInt ≤ 0 := ly37
                    have iy37 : TI y37 (0) := ti_c ly37
                    refine rl_ltI (av_add tn_2 iy37 (by omega) (by omega)) (fun x38 ix38 => ?_)
                    refine rl_bnd (r_tapRows ty9_2 i3 ix38 ⟨rfl, rfl⟩ hc4 i5 (by omega) (by omega) (by omega) (by omega) (by omega) wW_y9_2 (fun _ => wg_cs wT_y9_2 (by omega) (by omega) (fun j h1 h2 => by (try dsimp only) <;> omega))) ?_
                    rintro y39 y39r ⟨uy39', vT_y39'⟩
                    have uy39 : Up mu 144 y9_2 y9_2r y39 y39r := uy39'
                    have ty39 := cx_up ty9_2 uy39
                    have wW_y39 := wq_up uy39 wW_y9_2
                    have wT_y39 := wg_up uy39 wT_y9_2
                    have vT_y39 : WG mu y39 y39r c4 0 (16 * 16) (fun j => a5 + j / 16 * 16 + j % 16) := wg_cs vT_y39' (by omega) (by omega) (fun j h1 h2 => by (try dsimp only) <;> omega)
                    exact rl_some ⟨rfl, (ti_bd tn_1 (by omega) (by omega)), uy39⟩
              · rintro ⟨y35_1, y35_2⟩ ⟨y35_1r, y35_2r⟩ ⟨ey35_1, ly35_1, uy35_2⟩
                obtain rfl : y35_1 = y35_1r := ey35_1
                have ly35_1 : 1 ≤ y35_1.toInt ∧ y35_1.toInt ≤ 1 := ly35_1
                have iy35_1 : TI y35_1 (1) := ti_c ly35_1
                have uy35_2 : Up mu 144 y9_2 y9_2r y35_2 y35_2r := uy35_2
                have ty35_2 := cx_up ty9_2 uy35_2
                have wW_y35_2 := wq_up uy35_2 wW_y9_2
                have wT_y35_2 := wg_up uy35_2 wT_y9_2
                exact rl_some ⟨rfl, (ti_bd iy35_1 (by omega) (by omega)), uy35_2⟩
          · rintro ⟨y10_1, y10_2⟩ ⟨y10_1r, y10_2r⟩ ⟨ey10_1, ly10_1, uy10_2⟩
            obtain rfl : y10_1 = y10_1r := ey10_1
            have ly10_1 : 1 ≤ y10_1.toInt ∧ y10_1.toInt ≤ 1 := ly10_1
            have iy10_1 : TI y10_1 (1) := ti_c ly10_1
            have uy10_2 : Up mu 144 y9_2 y9_2r y10_2 y10_2r := uy10_2
            have ty10_2 := cx_up ty9_2 uy10_2
            have wW_y10_2 := wq_up uy10_2 wW_y9_2
            have wT_y10_2 := wg_up uy10_2 wT_y9_2
            refine rl_bnd (Q := fun (y z : Int32 × DD) => y.1 = z.1 ∧ (1 ≤ y.1.toInt ∧ y.1.toInt ≤ 1) ∧ Up mu 144 y10_2 y10_2r y.2 z.2) ?_ ?_
            · refine rl_if (fun c159 => ?_) (fun c159 => ?_)
              · have dc159 := tl_eq ix2 tn_0 c159
                exact rl_some ⟨rfl, (ti_bd iy10_1 (by omega) (by omega)), (up_0 mu (κ := 144) _ _)⟩
              · have dc159 := tl_ne ix2 tn_0 c159
                exfalso
                omega
            · rintro ⟨y11_1, y11_2⟩ ⟨y11_1r, y11_2r⟩ ⟨ey11_1, ly11_1, uy11_2⟩
              obtain rfl : y11_1 = y11_1r := ey11_1
              have ly11_1 : 1 ≤ y11_1.toInt ∧ y11_1.toInt ≤ 1 := ly11_1
              have iy11_1 : TI y11_1 (1) := ti_c ly11_1
              have uy11_2 : Up mu 144 y10_2 y10_2r y11_2 y11_2r := uy11_2
              have ty11_2 := cx_up ty10_2 uy11_2
              have wW_y11_2 := wq_up uy11_2 wW_y10_2
              have wT_y11_2 := wg_up uy11_2 wT_y10_2
              refine rl_bnd (Q := fun (y z : DD) => Up mu 144 y11_2 y11_2r y z) ?_ ?_
              · refine rl_if (fun c160 => ?_) (fun c160 => ?_)
                · have dc160 := tl_eq ix1 tn_2 c160
                  exfalso
                  omega
                · refine rl_bnd (Q := fun (y z : DD) => Up mu 144 y11_2 y11_2r y z) ?_ ?_
                  · refine rl_if (fun c161 => ?_) (fun c161 => ?_)
                    · have dc161 := tl_eq ix2 tn_2 c161
                      exfalso
                      omega
                    · exact rl_some (up_0 mu (κ := 144) _ _)
                  · rintro y14 y14r uy14
                    have uy14 : Up mu 144 y11_2 y11_2r y14 y14r := uy14
                    have ty14 := cx_up ty11_2 uy14
                    have wW_y14 := wq_up uy14 wW_y11_2
                    have wT_y14 := wg_up uy14 wT_y11_2
                    exact rl_some uy14
              · rintro y12 y12r uy12
                have uy12 : Up mu 144 y11_2 y11_2r y12 y12r := uy12
                have ty12 := cx_up ty11_2 uy12
                have wW_y12 := wq_up uy12 wW_y11_2
                have wT_y12 := wg_up uy12 wT_y11_2
                exact rl_some ⟨(up_tr (up_tr (up_tr (up_tr uy8 uy9_2) uy10_2) uy11_2) uy12), wT_y12⟩
      · clear ix2 zx2
        have ix2 : TI x2 1 := yx2
        refine rl_ltI (av_sar 2 i1 (by decide)) (fun x3 ix3 => ?_)
        refine rl_ltI (av_sub ix3 tn_2 (by omega) (by omega)) (fun x4 ix4 => ?_)
        refine rl_ltI (av_sar 2 i2 (by decide)) (fun x5 ix5 => ?_)
        refine rl_ltI (av_sub ix5 tn_2 (by omega) (by omega)) (fun x6 ix6 => ?_)
        refine rl_ltI (av_add i3 tn_5 (by omega) (by omega)) (fun x7 ix7 => ?_)
        refine rl_bnd (r_fillWindow t ⟨rfl, rfl⟩ hq0 ix7 (by omega) (by omega)) ?_
        rintro y8 y8r ⟨uy8', vW_y8⟩
        have uy8 : Up mu 144 M N y8 y8r := uy8'
        have ty8 := cx_up t uy8
        refine rl_bnd (Q := fun (y z : Int32 × DD) => y.1 = z.1 ∧ (0 ≤ y.1.toInt ∧ y.1.toInt ≤ 0) ∧ Up mu 144 y8 y8r y.2 z.2) ?_ ?_
        · refine rl_if (fun c162 => ?_) (fun c162 => ?_)
          · have dc162 := tl_eq ix2 tn_0 c162
            exfalso
            omega
          · refine rl_bnd (Q := fun (y z : Int32 × DD) => y.1 = z.1 ∧ (0 ≤ y.1.toInt ∧ y.1.toInt ≤ 0) ∧ Up mu 144 y8 y8r y.2 z.2) ?_ ?_
            · refine rl_if (fun c163 => ?_) (fun c163 => ?_)
              · have dc163 := tl_eq ix1 tn_0 c163
                exfalso
                omega
              · exact rl_some ⟨rfl, (ti_bd tn_0 (by omega) (by omega)), (up_0 mu (κ := 144) _ _)⟩
            · rintro ⟨y42_1, y42_2⟩ ⟨y42_1r, y42_2r⟩ ⟨ey42_1, ly42_1, uy42_2⟩
              obtain rfl : y42_1 = y42_1r := ey42_1
              have ly42_1 : 0 ≤ y42_1.toInt ∧ y42_1.toInt ≤ 0 := ly42_1
              have iy42_1 : TI y42_1 (0) := ti_c ly42_1
              have uy42_2 : Up mu 144 y8 y8r y42_2 y42_2r := uy42_2
              have ty42_2 := cx_up ty8 uy42_2
              have wW_y42_2 := wq_up uy42_2 vW_y8
              exact rl_some ⟨rfl, (ti_bd iy42_1 (by omega) (by omega)), uy42_2⟩
        · rintro ⟨y9_1, y9_2⟩ ⟨y9_1r, y9_2r⟩ ⟨ey9_1, ly9_1, uy9_2⟩
          obtain rfl : y9_1 = y9_1r := ey9_1
          have ly9_1 : 0 ≤ y9_1.toInt ∧ y9_1.toInt ≤ 0 := ly9_1
          have iy9_1 : TI y9_1 (0) := ti_c ly9_1
          have uy9_2 : Up mu 144 y8 y8r y9_2 y9_2r := uy9_2
          have ty9_2 := cx_up ty8 uy9_2
          have wW_y9_2 := wq_up uy9_2 vW_y8
          refine rl_bnd (Q := fun (y z : Int32 × DD) => y.1 = z.1 ∧ (1 ≤ y.1.toInt ∧ y.1.toInt ≤ 1) ∧ Up mu 144 y9_2 y9_2r y.2 z.2 ∧ WG mu y.2 z.2 c4 0 (16 * 16) (fun j => a5 + j / 16 * 16 + j % 16)) ?_ ?_
          · refine rl_if (fun c164 => ?_) (fun c164 => ?_)
            · have dc164 := tl_eq ix1 tn_0 c164
              exfalso
              omega
            · refine rl_bnd (Q := fun (y z : Int32 × DD) => y.1 = z.1 ∧ (1 ≤ y.1.toInt ∧ y.1.toInt ≤ 1) ∧ Up mu 144 y9_2 y9_2r y.2 z.2 ∧ WG mu y.2 z.2 c4 0 (16 * 16) (fun j => a5 + j / 16 * 16 + j % 16)) ?_ ?_
              · refine rl_if (fun c165 => ?_) (fun c165 => ?_)
                · have dc165 := tl_eq ix2 tn_2 c165
                  exfalso
                  omega
                · refine rl_bnd (Q := fun (y z : Int32) => y = z ∧ (0 ≤ y.toInt ∧ y.toInt ≤ 0)) ?_ ?_
                  · refine rl_if (fun c166 => ?_) (fun c166 => ?_)
                    · have dc166 := tl_eq ix2 tn_3 c166
                      exfalso
                      omega
                    · exact rl_some ⟨rfl, (ti_bd tn_0 (by omega) (by omega))⟩
                  · rintro y37 y37r ⟨ey37, ly37⟩
                    obtain rfl : y37 = y37r := ey37
                    have ly37 : 0 ≤ y37.toInt ∧ y37.toInt ≤ 0 := ly37
                    have iy37 : TI y37 (0) := ti_c ly37
                    refine rl_ltI (av_add tn_2 iy37 (by omega) (by omega)) (fun x38 ix38 => ?_)
                    refine rl_bnd (r_tapRows ty9_2 i3 ix38 ⟨rfl, rfl⟩ hc4 i5 (by omega) (by omega) (by omega) (by omega) (by omega) wW_y9_2 (fun h => absurd (by first | rfl | assumption | omega) h)) ?_
                    rintro y39 y39r ⟨uy39', vT_y39'⟩
                    have uy39 : Up mu 144 y9_2 y9_2r y39 y39r := uy39'
                    have ty39 := cx_up ty9_2 uy39
                    have wW_y39 := wq_up uy39 wW_y9_2
                    have vT_y39 : WG mu y39 y39r c4 0 (16 * 16) (fun j => a5 + j / 16 * 16 + j % 16) := wg_cs vT_y39' (by omega) (by omega) (fun j h1 h2 => by (try dsimp only) <;> omega)
                    exact rl_some ⟨rfl, (ti_bd tn_1 (by omega) (by omega)), uy39, vT_y39⟩
              · rintro ⟨y35_1, y35_2⟩ ⟨y35_1r, y35_2r⟩ ⟨ey35_1, ly35_1, uy35_2, wT_y35_2⟩
                obtain rfl : y35_1 = y35_1r := ey35_1
                have ly35_1 : 1 ≤ y35_1.toInt ∧ y35_1.toInt ≤ 1 := ly35_1
                have iy35_1 : TI y35_1 (1) := ti_c ly35_1
                have uy35_2 : Up mu 144 y9_2 y9_2r y35_2 y35_2r := uy35_2
                have ty35_2 := cx_up ty9_2 uy35_2
                have wW_y35_2 := wq_up uy35_2 wW_y9_2
                have wT_y35_2 : WG mu y35_2 y35_2r c4 0 (16 * 16) (fun j => a5 + j / 16 * 16 + j % 16) := wT_y35_2
                exact rl_some ⟨rfl, (ti_bd iy35_1 (by omega) (by omega)), uy35_2, wT_y35_2⟩
          · rintro ⟨y10_1, y10_2⟩ ⟨y10_1r, y10_2r⟩ ⟨ey10_1, ly10_1, uy10_2, wT_y10_2⟩
            obtain rfl : y10_1 = y10_1r := ey10_1
            have ly10_1 : 1 ≤ y10_1.toInt ∧ y10_1.toInt ≤ 1 := ly10_1
            have iy10_1 : TI y10_1 (1) := ti_c ly10_1
            have uy10_2 : Up mu 144 y9_2 y9_2r y10_2 y10_2r := uy10_2
            have ty10_2 := cx_up ty9_2 uy10_2
            have wW_y10_2 := wq_up uy10_2 wW_y9_2
            have wT_y10_2 : WG mu y10_2 y10_2r c4 0 (16 * 16) (fun j => a5 + j / 16 * 16 + j % 16) := wT_y10_2
            refine rl_bnd (Q := fun (y z : Int32 × DD) => y.1 = z.1 ∧ (1 ≤ y.1.toInt ∧ y.1.toInt ≤ 1) ∧ Up mu 144 y10_2 y10_2r y.2 z.2) ?_ ?_
            · refine rl_if (fun c167 => ?_) (fun c167 => ?_)
              · have dc167 := tl_eq ix2 tn_0 c167
                exfalso
                omega
              · refine rl_bnd (Q := fun (y z : Int32 × DD) => y.1 = z.1 ∧ (1 ≤ y.1.toInt ∧ y.1.toInt ≤ 1) ∧ Up mu 144 y10_2 y10_2r y.2 z.2) ?_ ?_
                · refine rl_if (fun c168 => ?_) (fun c168 => ?_)
                  · have dc168 := tl_eq ix1 tn_2 c168
                    exfalso
                    omega
                  · refine rl_bnd (Q := fun (y z : Int32) => y = z ∧ (1 ≤ y.toInt ∧ y.toInt ≤ 1)) ?_ ?_
                    · refine rl_if (fun c169 => ?_) (fun c169 => ?_)
                      · have dc169 := tl_eq ix1 tn_3 c169
                        exact rl_some ⟨rfl, (ti_bd tn_1 (by omega) (by omega))⟩
                      · have dc169 := tl_ne ix1 tn_3 c169
                        exfalso
                        omega
                    · rintro y30 y30r ⟨ey30, ly30⟩
                      obtain rfl : y30 = y30r := ey30
                      have ly30 : 1 ≤ y30.toInt ∧ y30.toInt ≤ 1 := ly30
                      have iy30 : TI y30 (1) := ti_c ly30
                      refine rl_ltI (av_add tn_2 iy30 (by omega) (by omega)) (fun x31 ix31 => ?_)
                      refine rl_bnd (r_tapColumns ty10_2 i3 ix31 ⟨rfl, rfl⟩ hc4 i5 (by omega) (by omega) (by omega) (by omega) (by omega) wW_y10_2 (fun _ => wg_cs wT_y10_2 (by omega) (by omega) (fun j h1 h2 => by (try dsimp only) <;> omega))) ?_
                      rintro y32 y32r ⟨uy32', vT_y32'⟩
                      have uy32 : Up mu 144 y10_2 y10_2r y32 y32r := uy32'
                      have ty32 := cx_up ty10_2 uy32
                      have wW_y32 := wq_up uy32 wW_y10_2
                      have wT_y32 := wg_up uy32 wT_y10_2
                      have vT_y32 : WG mu y32 y32r c4 0 (16 * 16) (fun j => a5 + j / 16 * 16 + j % 16) := wg_cs vT_y32' (by omega) (by omega) (fun j h1 h2 => by (try dsimp only) <;> omega)
                      exact rl_some ⟨rfl, (ti_bd tn_1 (by omega) (by omega)), uy32⟩
                · rintro ⟨y28_1, y28_2⟩ ⟨y28_1r, y28_2r⟩ ⟨ey28_1, ly28_1, uy28_2⟩
                  obtain rfl : y28_1 = y28_1r := ey28_1
                  have ly28_1 : 1 ≤ y28_1.toInt ∧ y28_1.toInt ≤ 1 := ly28_1
                  have iy28_1 : TI y28_1 (1) := ti_c ly28_1
                  have uy28_2 : Up mu 144 y10_2 y10_2r y28_2 y28_2r := uy28_2
                  have ty28_2 := cx_up ty10_2 uy28_2
                  have wW_y28_2 := wq_up uy28_2 wW_y10_2
                  have wT_y28_2 := wg_up uy28_2 wT_y10_2
                  exact rl_some ⟨rfl, (ti_bd iy28_1 (by omega) (by omega)), uy28_2⟩
            · rintro ⟨y11_1, y11_2⟩ ⟨y11_1r, y11_2r⟩ ⟨ey11_1, ly11_1, uy11_2⟩
              obtain rfl : y11_1 = y11_1r := ey11_1
              have ly11_1 : 1 ≤ y11_1.toInt ∧ y11_1.toInt ≤ 1 := ly11_1
              have iy11_1 : TI y11_1 (1) := ti_c ly11_1
              have uy11_2 : Up mu 144 y10_2 y10_2r y11_2 y11_2r := uy11_2
              have ty11_2 := cx_up ty10_2 uy11_2
              have wW_y11_2 := wq_up uy11_2 wW_y10_2
              have wT_y11_2 := wg_up uy11_2 wT_y10_2
              refine rl_bnd (Q := fun (y z : DD) => Up mu 144 y11_2 y11_2r y z) ?_ ?_
              · refine rl_if (fun c170 => ?_) (fun c170 => ?_)
                · have dc170 := tl_eq ix1 tn_2 c170
                  exfalso
                  omega
                · refine rl_bnd (Q := fun (y z : DD) => Up mu 144 y11_2 y11_2r y z) ?_ ?_
                  · refine rl_if (fun c171 => ?_) (fun c171 => ?_)
                    · have dc171 := tl_eq ix2 tn_2 c171
                      exfalso
                      omega
                    · exact rl_some (up_0 mu (κ := 144) _ _)
                  · rintro y14 y14r uy14
                    have uy14 : Up mu 144 y11_2 y11_2r y14 y14r := uy14
                    have ty14 := cx_up ty11_2 uy14
                    have wW_y14 := wq_up uy14 wW_y11_2
                    have wT_y14 := wg_up uy14 wT_y11_2
                    exact rl_some uy14
              · rintro y12 y12r uy12
                have uy12 : Up mu 144 y11_2 y11_2r y12 y12r := uy12
                have ty12 := cx_up ty11_2 uy12
                have wW_y12 := wq_up uy12 wW_y11_2
                have wT_y12 := wg_up uy12 wT_y11_2
                exact rl_some ⟨(up_tr (up_tr (up_tr (up_tr uy8 uy9_2) uy10_2) uy11_2) uy12), wT_y12⟩
      · clear ix2 zx2
        have ix2 : TI x2 2 := yx2
        refine rl_ltI (av_sar 2 i1 (by decide)) (fun x3 ix3 => ?_)
        refine rl_ltI (av_sub ix3 tn_2 (by omega) (by omega)) (fun x4 ix4 => ?_)
        refine rl_ltI (av_sar 2 i2 (by decide)) (fun x5 ix5 => ?_)
        refine rl_ltI (av_sub ix5 tn_2 (by omega) (by omega)) (fun x6 ix6 => ?_)
        refine rl_ltI (av_add i3 tn_5 (by omega) (by omega)) (fun x7 ix7 => ?_)
        refine rl_bnd (r_fillWindow t ⟨rfl, rfl⟩ hq0 ix7 (by omega) (by omega)) ?_
        rintro y8 y8r ⟨uy8', vW_y8⟩
        have uy8 : Up mu 144 M N y8 y8r := uy8'
        have ty8 := cx_up t uy8
        refine rl_bnd (Q := fun (y z : Int32 × DD) => y.1 = z.1 ∧ (0 ≤ y.1.toInt ∧ y.1.toInt ≤ 0) ∧ Up mu 144 y8 y8r y.2 z.2) ?_ ?_
        · refine rl_if (fun c172 => ?_) (fun c172 => ?_)
          · have dc172 := tl_eq ix2 tn_0 c172
            exfalso
            omega
          · refine rl_bnd (Q := fun (y z : Int32 × DD) => y.1 = z.1 ∧ (0 ≤ y.1.toInt ∧ y.1.toInt ≤ 0) ∧ Up mu 144 y8 y8r y.2 z.2) ?_ ?_
            · refine rl_if (fun c173 => ?_) (fun c173 => ?_)
              · have dc173 := tl_eq ix1 tn_0 c173
                exfalso
                omega
              · exact rl_some ⟨rfl, (ti_bd tn_0 (by omega) (by omega)), (up_0 mu (κ := 144) _ _)⟩
            · rintro ⟨y42_1, y42_2⟩ ⟨y42_1r, y42_2r⟩ ⟨ey42_1, ly42_1, uy42_2⟩
              obtain rfl : y42_1 = y42_1r := ey42_1
              have ly42_1 : 0 ≤ y42_1.toInt ∧ y42_1.toInt ≤ 0 := ly42_1
              have iy42_1 : TI y42_1 (0) := ti_c ly42_1
              have uy42_2 : Up mu 144 y8 y8r y42_2 y42_2r := uy42_2
              have ty42_2 := cx_up ty8 uy42_2
              have wW_y42_2 := wq_up uy42_2 vW_y8
              exact rl_some ⟨rfl, (ti_bd iy42_1 (by omega) (by omega)), uy42_2⟩
        · rintro ⟨y9_1, y9_2⟩ ⟨y9_1r, y9_2r⟩ ⟨ey9_1, ly9_1, uy9_2⟩
          obtain rfl : y9_1 = y9_1r := ey9_1
          have ly9_1 : 0 ≤ y9_1.toInt ∧ y9_1.toInt ≤ 0 := ly9_1
          have iy9_1 : TI y9_1 (0) := ti_c ly9_1
          have uy9_2 : Up mu 144 y8 y8r y9_2 y9_2r := uy9_2
          have ty9_2 := cx_up ty8 uy9_2
          have wW_y9_2 := wq_up uy9_2 vW_y8
          refine rl_bnd (Q := fun (y z : Int32 × DD) => y.1 = z.1 ∧ (0 ≤ y.1.toInt ∧ y.1.toInt ≤ 0) ∧ Up mu 144 y9_2 y9_2r y.2 z.2) ?_ ?_
          · refine rl_if (fun c174 => ?_) (fun c174 => ?_)
            · have dc174 := tl_eq ix1 tn_0 c174
              exfalso
              omega
            · refine rl_bnd (Q := fun (y z : Int32 × DD) => y.1 = z.1 ∧ (0 ≤ y.1.toInt ∧ y.1.toInt ≤ 0) ∧ Up mu 144 y9_2 y9_2r y.2 z.2) ?_ ?_
              · refine rl_if (fun c175 => ?_) (fun c175 => ?_)
                · have dc175 := tl_eq ix2 tn_2 c175
                  exact rl_some ⟨rfl, (ti_bd iy9_1 (by omega) (by omega)), (up_0 mu (κ := 144) _ _)⟩
                · have dc175 := tl_ne ix2 tn_2 c175
                  exfalso
                  omega
              · rintro ⟨y35_1, y35_2⟩ ⟨y35_1r, y35_2r⟩ ⟨ey35_1, ly35_1, uy35_2⟩
                obtain rfl : y35_1 = y35_1r := ey35_1
                have ly35_1 : 0 ≤ y35_1.toInt ∧ y35_1.toInt ≤ 0 := ly35_1
                have iy35_1 : TI y35_1 (0) := ti_c ly35_1
                have uy35_2 : Up mu 144 y9_2 y9_2r y35_2 y35_2r := uy35_2
                have ty35_2 := cx_up ty9_2 uy35_2
                have wW_y35_2 := wq_up uy35_2 wW_y9_2
                exact rl_some ⟨rfl, (ti_bd iy35_1 (by omega) (by omega)), uy35_2⟩
          · rintro ⟨y10_1, y10_2⟩ ⟨y10_1r, y10_2r⟩ ⟨ey10_1, ly10_1, uy10_2⟩
            obtain rfl : y10_1 = y10_1r := ey10_1
            have ly10_1 : 0 ≤ y10_1.toInt ∧ y10_1.toInt ≤ 0 := ly10_1
            have iy10_1 : TI y10_1 (0) := ti_c ly10_1
            have uy10_2 : Up mu 144 y9_2 y9_2r y10_2 y10_2r := uy10_2
            have ty10_2 := cx_up ty9_2 uy10_2
            have wW_y10_2 := wq_up uy10_2 wW_y9_2
            refine rl_bnd (Q := fun (y z : Int32 × DD) => y.1 = z.1 ∧ (1 ≤ y.1.toInt ∧ y.1.toInt ≤ 1) ∧ Up mu 144 y10_2 y10_2r y.2 z.2 ∧ WG mu y.2 z.2 c4 0 (16 * 16) (fun j => a5 + j / 16 * 16 + j % 16)) ?_ ?_
            · refine rl_if (fun c176 => ?_) (fun c176 => ?_)
              · have dc176 := tl_eq ix2 tn_0 c176
                exfalso
                omega
              · refine rl_bnd (Q := fun (y z : Int32 × DD) => y.1 = z.1 ∧ (1 ≤ y.1.toInt ∧ y.1.toInt ≤ 1) ∧ Up mu 144 y10_2 y10_2r y.2 z.2 ∧ WG mu y.2 z.2 c4 0 (16 * 16) (fun j => a5 + j / 16 * 16 + j % 16)) ?_ ?_
                · refine rl_if (fun c177 => ?_) (fun c177 => ?_)
                  · have dc177 := tl_eq ix1 tn_2 c177
                    exfalso
                    omega
                  · refine rl_bnd (Q := fun (y z : Int32) => y = z ∧ (1 ≤ y.toInt ∧ y.toInt ≤ 1)) ?_ ?_
                    · refine rl_if (fun c178 => ?_) (fun c178 => ?_)
                      · have dc178 := tl_eq ix1 tn_3 c178
                        exact rl_some ⟨rfl, (ti_bd tn_1 (by omega) (by omega))⟩
                      · have dc178 := tl_ne ix1 tn_3 c178
                        exfalso
                        omega
                    · rintro y30 y30r ⟨ey30, ly30⟩
                      obtain rfl : y30 = y30r := ey30
                      have ly30 : 1 ≤ y30.toInt ∧ y30.toInt ≤ 1 := ly30
                      have iy30 : TI y30 (1) := ti_c ly30
                      refine rl_ltI (av_add tn_2 iy30 (by omega) (by omega)) (fun x31 ix31 => ?_)
                      refine rl_bnd (r_tapColumns ty10_2 i3 ix31 ⟨rfl, rfl⟩ hc4 i5 (by omega) (by omega) (by omega) (by omega) (by omega) wW_y10_2 (fun h => absurd (by first | rfl | assumption | omega) h)) ?_
                      rintro y32 y32r ⟨uy32', vT_y32'⟩
                      have uy32 : Up mu 144 y10_2 y10_2r y32 y32r := uy32'
                      have ty32 := cx_up ty10_2 uy32
                      have wW_y32 := wq_up uy32 wW_y10_2
                      have vT_y32 : WG mu y32 y32r c4 0 (16 * 16) (fun j => a5 + j / 16 * 16 + j % 16) := wg_cs vT_y32' (by omega) (by omega) (fun j h1 h2 => by (try dsimp only) <;> omega)
                      exact rl_some ⟨rfl, (ti_bd tn_1 (by omega) (by omega)), uy32, vT_y32⟩
                · rintro ⟨y28_1, y28_2⟩ ⟨y28_1r, y28_2r⟩ ⟨ey28_1, ly28_1, uy28_2, wT_y28_2⟩
                  obtain rfl : y28_1 = y28_1r := ey28_1
                  have ly28_1 : 1 ≤ y28_1.toInt ∧ y28_1.toInt ≤ 1 := ly28_1
                  have iy28_1 : TI y28_1 (1) := ti_c ly28_1
                  have uy28_2 : Up mu 144 y10_2 y10_2r y28_2 y28_2r := uy28_2
                  have ty28_2 := cx_up ty10_2 uy28_2
                  have wW_y28_2 := wq_up uy28_2 wW_y10_2
                  have wT_y28_2 : WG mu y28_2 y28_2r c4 0 (16 * 16) (fun j => a5 + j / 16 * 16 + j % 16) := wT_y28_2
                  exact rl_some ⟨rfl, (ti_bd iy28_1 (by omega) (by omega)), uy28_2, wT_y28_2⟩
            · rintro ⟨y11_1, y11_2⟩ ⟨y11_1r, y11_2r⟩ ⟨ey11_1, ly11_1, uy11_2, wT_y11_2⟩
              obtain rfl : y11_1 = y11_1r := ey11_1
              have ly11_1 : 1 ≤ y11_1.toInt ∧ y11_1.toInt ≤ 1 := ly11_1
              have iy11_1 : TI y11_1 (1) := ti_c ly11_1
              have uy11_2 : Up mu 144 y10_2 y10_2r y11_2 y11_2r := uy11_2
              have ty11_2 := cx_up ty10_2 uy11_2
              have wW_y11_2 := wq_up uy11_2 wW_y10_2
              have wT_y11_2 : WG mu y11_2 y11_2r c4 0 (16 * 16) (fun j => a5 + j / 16 * 16 + j % 16) := wT_y11_2
              refine rl_bnd (Q := fun (y z : DD) => Up mu 144 y11_2 y11_2r y z) ?_ ?_
              · refine rl_if (fun c179 => ?_) (fun c179 => ?_)
                · have dc179 := tl_eq ix1 tn_2 c179
                  exfalso
                  omega
                · refine rl_bnd (Q := fun (y z : DD) => Up mu 144 y11_2 y11_2r y z) ?_ ?_
                  · refine rl_if (fun c180 => ?_) (fun c180 => ?_)
                    · have dc180 := tl_eq ix2 tn_2 c180
                      refine rl_bnd (Q := fun (y z : DD) => Up mu 144 y11_2 y11_2r y z) ?_ ?_
                      · refine rl_if (fun c181 => ?_) (fun c181 => ?_)
                        · have dc181 := tl_eq ix1 tn_0 c181
                          exfalso
                          omega
                        · refine rl_bnd (r_tapBoth ty11_2 i3 ⟨rfl, rfl⟩ hc4 i5 (by omega) (by omega) (by omega) wW_y11_2 (fun _ => wg_cs wT_y11_2 (by omega) (by omega) (fun j h1 h2 => by (try dsimp only) <;> omega))) ?_
                          rintro y18 y18r ⟨uy18', vT_y18'⟩
                          have uy18 : Up mu 144 y11_2 y11_2r y18 y18r := uy18'
                          have ty18 := cx_up ty11_2 uy18
                          have wW_y18 := wq_up uy18 wW_y11_2
                          have wT_y18 := wg_up uy18 wT_y11_2
                          have vT_y18 : WG mu y18 y18r c4 0 (16 * 16) (fun j => a5 + j / 16 * 16 + j % 16) := wg_cs vT_y18' (by omega) (by omega) (fun j h1 h2 => by (try dsimp only) <;> omega)
                          exact rl_some uy18
                      · rintro y16 y16r uy16
                        have uy16 : Up mu 144 y11_2 y11_2r y16 y16r := uy16
                        have ty16 := cx_up ty11_2 uy16
                        have wW_y16 := wq_up uy16 wW_y11_2
                        have wT_y16 := wg_up uy16 wT_y11_2
                        exact rl_some uy16
                    · have dc180 := tl_ne ix2 tn_2 c180
                      exfalso
                      omega
                  · rintro y14 y14r uy14
                    have uy14 : Up mu 144 y11_2 y11_2r y14 y14r := uy14
                    have ty14 := cx_up ty11_2 uy14
                    have wW_y14 := wq_up uy14 wW_y11_2
                    have wT_y14 := wg_up uy14 wT_y11_2
                    exact rl_some uy14
              · rintro y12 y12r uy12
                have uy12 : Up mu 144 y11_2 y11_2r y12 y12r := uy12
                have ty12 := cx_up ty11_2 uy12
                have wW_y12 := wq_up uy12 wW_y11_2
                have wT_y12 := wg_up uy12 wT_y11_2
                exact rl_some ⟨(up_tr (up_tr (up_tr (up_tr uy8 uy9_2) uy10_2) uy11_2) uy12), wT_y12⟩
      · clear ix2 zx2
        have ix2 : TI x2 3 := yx2
        refine rl_ltI (av_sar 2 i1 (by decide)) (fun x3 ix3 => ?_)
        refine rl_ltI (av_sub ix3 tn_2 (by omega) (by omega)) (fun x4 ix4 => ?_)
        refine rl_ltI (av_sar 2 i2 (by decide)) (fun x5 ix5 => ?_)
        refine rl_ltI (av_sub ix5 tn_2 (by omega) (by omega)) (fun x6 ix6 => ?_)
        refine rl_ltI (av_add i3 tn_5 (by omega) (by omega)) (fun x7 ix7 => ?_)
        refine rl_bnd (r_fillWindow t ⟨rfl, rfl⟩ hq0 ix7 (by omega) (by omega)) ?_
        rintro y8 y8r ⟨uy8', vW_y8⟩
        have uy8 : Up mu 144 M N y8 y8r := uy8'
        have ty8 := cx_up t uy8
        refine rl_bnd (Q := fun (y z : Int32 × DD) => y.1 = z.1 ∧ (0 ≤ y.1.toInt ∧ y.1.toInt ≤ 0) ∧ Up mu 144 y8 y8r y.2 z.2) ?_ ?_
        · refine rl_if (fun c182 => ?_) (fun c182 => ?_)
          · have dc182 := tl_eq ix2 tn_0 c182
            exfalso
            omega
          · refine rl_bnd (Q := fun (y z : Int32 × DD) => y.1 = z.1 ∧ (0 ≤ y.1.toInt ∧ y.1.toInt ≤ 0) ∧ Up mu 144 y8 y8r y.2 z.2) ?_ ?_
            · refine rl_if (fun c183 => ?_) (fun c183 => ?_)
              · have dc183 := tl_eq ix1 tn_0 c183
                exfalso
                omega
              · exact rl_some ⟨rfl, (ti_bd tn_0 (by omega) (by omega)), (up_0 mu (κ := 144) _ _)⟩
            · rintro ⟨y42_1, y42_2⟩ ⟨y42_1r, y42_2r⟩ ⟨ey42_1, ly42_1, uy42_2⟩
              obtain rfl : y42_1 = y42_1r := ey42_1
              have ly42_1 : 0 ≤ y42_1.toInt ∧ y42_1.toInt ≤ 0 := ly42_1
              have iy42_1 : TI y42_1 (0) := ti_c ly42_1
              have uy42_2 : Up mu 144 y8 y8r y42_2 y42_2r := uy42_2
              have ty42_2 := cx_up ty8 uy42_2
              have wW_y42_2 := wq_up uy42_2 vW_y8
              exact rl_some ⟨rfl, (ti_bd iy42_1 (by omega) (by omega)), uy42_2⟩
        · rintro ⟨y9_1, y9_2⟩ ⟨y9_1r, y9_2r⟩ ⟨ey9_1, ly9_1, uy9_2⟩
          obtain rfl : y9_1 = y9_1r := ey9_1
          have ly9_1 : 0 ≤ y9_1.toInt ∧ y9_1.toInt ≤ 0 := ly9_1
          have iy9_1 : TI y9_1 (0) := ti_c ly9_1
          have uy9_2 : Up mu 144 y8 y8r y9_2 y9_2r := uy9_2
          have ty9_2 := cx_up ty8 uy9_2
          have wW_y9_2 := wq_up uy9_2 vW_y8
          refine rl_bnd (Q := fun (y z : Int32 × DD) => y.1 = z.1 ∧ (1 ≤ y.1.toInt ∧ y.1.toInt ≤ 1) ∧ Up mu 144 y9_2 y9_2r y.2 z.2 ∧ WG mu y.2 z.2 c4 0 (16 * 16) (fun j => a5 + j / 16 * 16 + j % 16)) ?_ ?_
          · refine rl_if (fun c184 => ?_) (fun c184 => ?_)
            · have dc184 := tl_eq ix1 tn_0 c184
              exfalso
              omega
            · refine rl_bnd (Q := fun (y z : Int32 × DD) => y.1 = z.1 ∧ (1 ≤ y.1.toInt ∧ y.1.toInt ≤ 1) ∧ Up mu 144 y9_2 y9_2r y.2 z.2 ∧ WG mu y.2 z.2 c4 0 (16 * 16) (fun j => a5 + j / 16 * 16 + j % 16)) ?_ ?_
              · refine rl_if (fun c185 => ?_) (fun c185 => ?_)
                · have dc185 := tl_eq ix2 tn_2 c185
                  exfalso
                  omega
                · refine rl_bnd (Q := fun (y z : Int32) => y = z ∧ (1 ≤ y.toInt ∧ y.toInt ≤ 1)) ?_ ?_
                  · refine rl_if (fun c186 => ?_) (fun c186 => ?_)
                    · have dc186 := tl_eq ix2 tn_3 c186
                      exact rl_some ⟨rfl, (ti_bd tn_1 (by omega) (by omega))⟩
                    · have dc186 := tl_ne ix2 tn_3 c186
                      exfalso
                      omega
                  · rintro y37 y37r ⟨ey37, ly37⟩
                    obtain rfl : y37 = y37r := ey37
                    have ly37 : 1 ≤ y37.toInt ∧ y37.toInt ≤ 1 := ly37
                    have iy37 : TI y37 (1) := ti_c ly37
                    refine rl_ltI (av_add tn_2 iy37 (by omega) (by omega)) (fun x38 ix38 => ?_)
                    refine rl_bnd (r_tapRows ty9_2 i3 ix38 ⟨rfl, rfl⟩ hc4 i5 (by omega) (by omega) (by omega) (by omega) (by omega) wW_y9_2 (fun h => absurd (by first | rfl | assumption | omega) h)) ?_
                    rintro y39 y39r ⟨uy39', vT_y39'⟩
                    have uy39 : Up mu 144 y9_2 y9_2r y39 y39r := uy39'
                    have ty39 := cx_up ty9_2 uy39
                    have wW_y39 := wq_up uy39 wW_y9_2
                    have vT_y39 : WG mu y39 y39r c4 0 (16 * 16) (fun j => a5 + j / 16 * 16 + j % 16) := wg_cs vT_y39' (by omega) (by omega) (fun j h1 h2 => by (try dsimp only) <;> omega)
                    exact rl_some ⟨rfl, (ti_bd tn_1 (by omega) (by omega)), uy39, vT_y39⟩
              · rintro ⟨y35_1, y35_2⟩ ⟨y35_1r, y35_2r⟩ ⟨ey35_1, ly35_1, uy35_2, wT_y35_2⟩
                obtain rfl : y35_1 = y35_1r := ey35_1
                have ly35_1 : 1 ≤ y35_1.toInt ∧ y35_1.toInt ≤ 1 := ly35_1
                have iy35_1 : TI y35_1 (1) := ti_c ly35_1
                have uy35_2 : Up mu 144 y9_2 y9_2r y35_2 y35_2r := uy35_2
                have ty35_2 := cx_up ty9_2 uy35_2
                have wW_y35_2 := wq_up uy35_2 wW_y9_2
                have wT_y35_2 : WG mu y35_2 y35_2r c4 0 (16 * 16) (fun j => a5 + j / 16 * 16 + j % 16) := wT_y35_2
                exact rl_some ⟨rfl, (ti_bd iy35_1 (by omega) (by omega)), uy35_2, wT_y35_2⟩
          · rintro ⟨y10_1, y10_2⟩ ⟨y10_1r, y10_2r⟩ ⟨ey10_1, ly10_1, uy10_2, wT_y10_2⟩
            obtain rfl : y10_1 = y10_1r := ey10_1
            have ly10_1 : 1 ≤ y10_1.toInt ∧ y10_1.toInt ≤ 1 := ly10_1
            have iy10_1 : TI y10_1 (1) := ti_c ly10_1
            have uy10_2 : Up mu 144 y9_2 y9_2r y10_2 y10_2r := uy10_2
            have ty10_2 := cx_up ty9_2 uy10_2
            have wW_y10_2 := wq_up uy10_2 wW_y9_2
            have wT_y10_2 : WG mu y10_2 y10_2r c4 0 (16 * 16) (fun j => a5 + j / 16 * 16 + j % 16) := wT_y10_2
            refine rl_bnd (Q := fun (y z : Int32 × DD) => y.1 = z.1 ∧ (1 ≤ y.1.toInt ∧ y.1.toInt ≤ 1) ∧ Up mu 144 y10_2 y10_2r y.2 z.2) ?_ ?_
            · refine rl_if (fun c187 => ?_) (fun c187 => ?_)
              · have dc187 := tl_eq ix2 tn_0 c187
                exfalso
                omega
              · refine rl_bnd (Q := fun (y z : Int32 × DD) => y.1 = z.1 ∧ (1 ≤ y.1.toInt ∧ y.1.toInt ≤ 1) ∧ Up mu 144 y10_2 y10_2r y.2 z.2) ?_ ?_
                · refine rl_if (fun c188 => ?_) (fun c188 => ?_)
                  · have dc188 := tl_eq ix1 tn_2 c188
                    exfalso
                    omega
                  · refine rl_bnd (Q := fun (y z : Int32) => y = z ∧ (1 ≤ y.toInt ∧ y.toInt ≤ 1)) ?_ ?_
                    · refine rl_if (fun c189 => ?_) (fun c189 => ?_)
                      · have dc189 := tl_eq ix1 tn_3 c189
                        exact rl_some ⟨rfl, (ti_bd tn_1 (by omega) (by omega))⟩
                      · have dc189 := tl_ne ix1 tn_3 c189
                        exfalso
                        omega
                    · rintro y30 y30r ⟨ey30, ly30⟩
                      obtain rfl : y30 = y30r := ey30
                      have ly30 : 1 ≤ y30.toInt ∧ y30.toInt ≤ 1 := ly30
                      have iy30 : TI y30 (1) := ti_c ly30
                      refine rl_ltI (av_add tn_2 iy30 (by omega) (by omega)) (fun x31 ix31 => ?_)
                      refine rl_bnd (r_tapColumns ty10_2 i3 ix31 ⟨rfl, rfl⟩ hc4 i5 (by omega) (by omega) (by omega) (by omega) (by omega) wW_y10_2 (fun _ => wg_cs wT_y10_2 (by omega) (by omega) (fun j h1 h2 => by (try dsimp only) <;> omega))) ?_
                      rintro y32 y32r ⟨uy32', vT_y32'⟩
                      have uy32 : Up mu 144 y10_2 y10_2r y32 y32r := uy32'
                      have ty32 := cx_up ty10_2 uy32
                      have wW_y32 := wq_up uy32 wW_y10_2
                      have wT_y32 := wg_up uy32 wT_y10_2
                      have vT_y32 : WG mu y32 y32r c4 0 (16 * 16) (fun j => a5 + j / 16 * 16 + j % 16) := wg_cs vT_y32' (by omega) (by omega) (fun j h1 h2 => by (try dsimp only) <;> omega)
                      exact rl_some ⟨rfl, (ti_bd tn_1 (by omega) (by omega)), uy32⟩
                · rintro ⟨y28_1, y28_2⟩ ⟨y28_1r, y28_2r⟩ ⟨ey28_1, ly28_1, uy28_2⟩
                  obtain rfl : y28_1 = y28_1r := ey28_1
                  have ly28_1 : 1 ≤ y28_1.toInt ∧ y28_1.toInt ≤ 1 := ly28_1
                  have iy28_1 : TI y28_1 (1) := ti_c ly28_1
                  have uy28_2 : Up mu 144 y10_2 y10_2r y28_2 y28_2r := uy28_2
                  have ty28_2 := cx_up ty10_2 uy28_2
                  have wW_y28_2 := wq_up uy28_2 wW_y10_2
                  have wT_y28_2 := wg_up uy28_2 wT_y10_2
                  exact rl_some ⟨rfl, (ti_bd iy28_1 (by omega) (by omega)), uy28_2⟩
            · rintro ⟨y11_1, y11_2⟩ ⟨y11_1r, y11_2r⟩ ⟨ey11_1, ly11_1, uy11_2⟩
              obtain rfl : y11_1 = y11_1r := ey11_1
              have ly11_1 : 1 ≤ y11_1.toInt ∧ y11_1.toInt ≤ 1 := ly11_1
              have iy11_1 : TI y11_1 (1) := ti_c ly11_1
              have uy11_2 : Up mu 144 y10_2 y10_2r y11_2 y11_2r := uy11_2
              have ty11_2 := cx_up ty10_2 uy11_2
              have wW_y11_2 := wq_up uy11_2 wW_y10_2
              have wT_y11_2 := wg_up uy11_2 wT_y10_2
              refine rl_bnd (Q := fun (y z : DD) => Up mu 144 y11_2 y11_2r y z) ?_ ?_
              · refine rl_if (fun c190 => ?_) (fun c190 => ?_)
                · have dc190 := tl_eq ix1 tn_2 c190
                  exfalso
                  omega
                · refine rl_bnd (Q := fun (y z : DD) => Up mu 144 y11_2 y11_2r y z) ?_ ?_
                  · refine rl_if (fun c191 => ?_) (fun c191 => ?_)
                    · have dc191 := tl_eq ix2 tn_2 c191
                      exfalso
                      omega
                    · exact rl_some (up_0 mu (κ := 144) _ _)
                  · rintro y14 y14r uy14
                    have uy14 : Up mu 144 y11_2 y11_2r y14 y14r := uy14
                    have ty14 := cx_up ty11_2 uy14
                    have wW_y14 := wq_up uy14 wW_y11_2
                    have wT_y14 := wg_up uy14 wT_y11_2
                    exact rl_some uy14
              · rintro y12 y12r uy12
                have uy12 : Up mu 144 y11_2 y11_2r y12 y12r := uy12
                have ty12 := cx_up ty11_2 uy12
                have wW_y12 := wq_up uy12 wW_y11_2
                have wT_y12 := wg_up uy12 wT_y11_2
                exact rl_some ⟨(up_tr (up_tr (up_tr (up_tr uy8 uy9_2) uy10_2) uy11_2) uy12), wT_y12⟩
theorem r_predictColours {mu : Nat → Nat} {G H : GG} {M N : DD} {p : Nat} {L : List Nat} (t : CX mu G H M N p L) {p0 p0r : Option Nat} {q0 : Nat} (e0 : p0 = some q0 ∧ p0r = some (mu q0)) (hq0 : q0 ∈ L) {p1 : Int32} {a1 : Int} (i1 : TI p1 a1) {p2 : Int32} {a2 : Int} (i2 : TI p2 a2) {p3 : Int32} {a3 : Int} (i3 : TI p3 a3) {p4 p4r : Option Nat} {c4 : Nat} (e4 : p4 = some c4 ∧ p4r = some (mu c4)) (hc4 : c4 = 140 ∨ c4 = 141) {p5 : Int32} {a5 : Int} (i5 : TI p5 a5) (h0 : a3 = 2 ∨ a3 = 4 ∨ a3 = 8) (h1 : 256 ≤ a5) (h2 : a5 ≤ 383) : LKS (FX6_predictColours G M 138 p0 p1 p2 p3 p4 p5) (FX6_predictColours H N (mu 138) p0r p1 p2 p3 p4r p5) (fun y z => Up mu 144 M N y z ∧ WG mu y z c4 0 (a3 * a3) (fun j => a5 + j / a3 * 8 + j % a3) ∧ WG mu y z c4 0 (a3 * a3) (fun j => a5 + 64 + j / a3 * 8 + j % a3)) := by
  unfold FX6_predictColours
  obtain ⟨rfl, rfl⟩ := e0
  have r1 := i32_b i1
  have r2 := i32_b i2
  obtain ⟨rfl, rfl⟩ := e4
  rcases h0 with rfl | rfl | rfl
  · refine rl_dr (cx_U t) ⟨rfl, rfl⟩ (fun gb1 => ?_)
    refine rl_rd (cx_q (j := 0) (k := 1) t hq0 rfl) (fun x2 => ?_)
    refine rl_ltA (fun x3 => ?_)
    refine rl_rd (cx_q (j := 0) (k := 2) t hq0 rfl) (fun x4 => ?_)
    refine rl_ltA (fun x5 => ?_)
    refine rl_ltI (av_and 3 i1 (by decide) (by decide)) (fun x6 ix6 => ?_)
    refine rl_ltI (av_and 3 i2 (by decide) (by decide)) (fun x7 ix7 => ?_)
    refine rl_bnd (Q := fun (y z : Int32 × DD) => y.1 = z.1 ∧ (0 ≤ y.1.toInt ∧ y.1.toInt ≤ (2 * 2)) ∧ Up mu 144 M N y.2 z.2 ∧ WG mu y.2 z.2 c4 (0) (2 * 2) (fun j => a5 + j / 2 * 8 + j % 2) ∧ WG mu y.2 z.2 c4 (0) (2 * 2) (fun j => a5 + 64 + j / 2 * 8 + j % 2)) (rl_itr (fun (y z : Int32 × DD) => y.1 = z.1 ∧ (0 ≤ y.1.toInt ∧ y.1.toInt ≤ (2 * 2)) ∧ Up mu 144 M N y.2 z.2 ∧ WG mu y.2 z.2 c4 (0) (y.1.toInt) (fun j => a5 + j / 2 * 8 + j % 2) ∧ WG mu y.2 z.2 c4 (0) (y.1.toInt) (fun j => a5 + 64 + j / 2 * 8 + j % 2)) _ ?_ _ _ _ ?_) ?_
    · rintro ⟨s9_1, s9_2⟩ ⟨s9_1r, s9_2r⟩ ⟨es9_1, ls9_1, us9_2, vU_s9_2, vV_s9_2⟩
      obtain rfl : s9_1 = s9_1r := es9_1
      have ls9_1 : 0 ≤ s9_1.toInt ∧ s9_1.toInt ≤ (2 * 2) := ls9_1
      have is9_1 : TI s9_1 s9_1.toInt := rfl
      have us9_2 : Up mu 144 M N s9_2 s9_2r := us9_2
      have ts9_2 := cx_up t us9_2
      have vU_s9_2 : WG mu s9_2 s9_2r c4 (0) (s9_1.toInt) (fun j => a5 + j / 2 * 8 + j % 2) := vU_s9_2
      have vV_s9_2 : WG mu s9_2 s9_2r c4 (0) (s9_1.toInt) (fun j => a5 + 64 + j / 2 * 8 + j % 2) := vV_s9_2
      refine rl_ltI (av_mul i3 i3 (by omega) (by omega)) (fun x12 ix12 => ?_)
      refine rl_if (fun c1 => ?_) (fun c1 => ?_)
      · have dc1 := tl_le ix12 is9_1 c1
        exact rl_inr ⟨rfl, (ti_bd is9_1 (by omega) (by omega)), us9_2, (wg_sub vU_s9_2 (by omega) (by omega)), (wg_sub vV_s9_2 (by omega) (by omega))⟩
      · have dc1 := tl_nle ix12 is9_1 c1
        refine rl_ltI (av_sar 3 i1 (by decide)) (fun x14 ix14 => ?_)
        refine rl_chk (fun h => h) (fun k2 => ?_)
        refine rl_ltI (av_mod is9_1 i3 (by omega) (by omega)) (fun x15 ix15 => ?_)
        refine rl_ltI (av_add ix14 ix15 (by omega) (by omega)) (fun x16 ix16 => ?_)
        refine rl_ltI (av_sar 3 i2 (by decide)) (fun x17 ix17 => ?_)
        refine rl_chk (fun h => h) (fun k3 => ?_)
        refine rl_ltI (av_div is9_1 i3 (by omega) (by omega)) (fun x18 ix18 => ?_)
        refine rl_ltI (av_add ix17 ix18 (by omega) (by omega)) (fun x19 ix19 => ?_)
        refine rl_bnd (Q := fun (y z : Int32) => y = z) ?_ ?_
        · refine rl_if (fun c4 => ?_) (fun c4 => ?_)
          · have dc4 := tl_le tn_0 ix16 c4
            refine rl_bnd (Q := fun (y z : Int32) => y = z) ?_ ?_
            · refine rl_if (fun c5 => ?_) (fun c5 => ?_)
              · have dc5 := tl_lt ix16 (rfl : TI x3 x3.toInt) c5
                exact rl_some rfl
              · have dc5 := tl_nlt ix16 (rfl : TI x3 x3.toInt) c5
                refine rl_ltA (fun x89 => ?_)
                exact rl_some rfl
            · rintro y87 y87r ey87
              obtain rfl : y87 = y87r := ey87
              exact rl_some rfl
          · have dc4 := tl_nle tn_0 ix16 c4
            exact rl_some rfl
        · rintro y20 y20r ey20
          obtain rfl : y20 = y20r := ey20
          refine rl_bnd (Q := fun (y z : Int32) => y = z) ?_ ?_
          · refine rl_if (fun c6 => ?_) (fun c6 => ?_)
            · have dc6 := tl_le tn_m1 ix16 c6
              refine rl_ltA (fun x81 => ?_)
              refine rl_bnd (Q := fun (y z : Int32) => y = z) ?_ ?_
              · refine rl_if (fun c7 => ?_) (fun c7 => ?_)
                · have dc7 := tl_lt ix16 (rfl : TI x81 x81.toInt) c7
                  refine rl_ltI (av_add ix16 tn_1 (by omega) (by omega)) (fun x84 ix84 => ?_)
                  exact rl_some rfl
                · have dc7 := tl_nlt ix16 (rfl : TI x81 x81.toInt) c7
                  refine rl_ltA (fun x85 => ?_)
                  exact rl_some rfl
              · rintro y82 y82r ey82
                obtain rfl : y82 = y82r := ey82
                exact rl_some rfl
            · have dc6 := tl_nle tn_m1 ix16 c6
              exact rl_some rfl
          · rintro y21 y21r ey21
            obtain rfl : y21 = y21r := ey21
            refine rl_bnd (Q := fun (y z : Int32) => y = z) ?_ ?_
            · refine rl_if (fun c8 => ?_) (fun c8 => ?_)
              · have dc8 := tl_le tn_0 ix19 c8
                refine rl_bnd (Q := fun (y z : Int32) => y = z) ?_ ?_
                · refine rl_if (fun c9 => ?_) (fun c9 => ?_)
                  · have dc9 := tl_lt ix19 (rfl : TI x5 x5.toInt) c9
                    exact rl_some rfl
                  · have dc9 := tl_nlt ix19 (rfl : TI x5 x5.toInt) c9
                    refine rl_ltA (fun x79 => ?_)
                    exact rl_some rfl
                · rintro y77 y77r ey77
                  obtain rfl : y77 = y77r := ey77
                  exact rl_some rfl
              · have dc8 := tl_nle tn_0 ix19 c8
                exact rl_some rfl
            · rintro y22 y22r ey22
              obtain rfl : y22 = y22r := ey22
              refine rl_ltA (fun x23 => ?_)
              refine rl_bnd (Q := fun (y z : Int32) => y = z) ?_ ?_
              · refine rl_if (fun c10 => ?_) (fun c10 => ?_)
                · have dc10 := tl_le tn_m1 ix19 c10
                  refine rl_ltA (fun x71 => ?_)
                  refine rl_bnd (Q := fun (y z : Int32) => y = z) ?_ ?_
                  · refine rl_if (fun c11 => ?_) (fun c11 => ?_)
                    · have dc11 := tl_lt ix19 (rfl : TI x71 x71.toInt) c11
                      refine rl_ltI (av_add ix19 tn_1 (by omega) (by omega)) (fun x74 ix74 => ?_)
                      exact rl_some rfl
                    · have dc11 := tl_nlt ix19 (rfl : TI x71 x71.toInt) c11
                      refine rl_ltA (fun x75 => ?_)
                      exact rl_some rfl
                  · rintro y72 y72r ey72
                    obtain rfl : y72 = y72r := ey72
                    exact rl_some rfl
                · have dc10 := tl_nle tn_m1 ix19 c10
                  exact rl_some rfl
              · rintro y24 y24r ey24
                obtain rfl : y24 = y24r := ey24
                refine rl_ltA (fun x25 => ?_)
                refine rl_bnd (Q := fun (y z : Int32 × DD) => y.1 = z.1 ∧ (1 ≤ y.1.toInt ∧ y.1.toInt ≤ 3) ∧ Up mu 144 s9_2 s9_2r y.2 z.2 ∧ WG mu y.2 z.2 c4 (1) (3) (fun j => a5 + 64 * (j - 1) + s9_1.toInt / 2 * 8 + s9_1.toInt % 2)) (rl_itr (fun (y z : Int32 × DD) => y.1 = z.1 ∧ (1 ≤ y.1.toInt ∧ y.1.toInt ≤ 3) ∧ Up mu 144 s9_2 s9_2r y.2 z.2 ∧ WG mu y.2 z.2 c4 (1) (y.1.toInt) (fun j => a5 + 64 * (j - 1) + s9_1.toInt / 2 * 8 + s9_1.toInt % 2)) _ ?_ _ _ _ ?_) ?_
                · rintro ⟨s27_1, s27_2⟩ ⟨s27_1r, s27_2r⟩ ⟨es27_1, ls27_1, us27_2, vI_s27_2⟩
                  obtain rfl : s27_1 = s27_1r := es27_1
                  have ls27_1 : 1 ≤ s27_1.toInt ∧ s27_1.toInt ≤ 3 := ls27_1
                  have is27_1 : TI s27_1 s27_1.toInt := rfl
                  have us27_2 : Up mu 144 s9_2 s9_2r s27_2 s27_2r := us27_2
                  have ts27_2 := cx_up ts9_2 us27_2
                  have wU_s27_2 := wg_up us27_2 vU_s9_2
                  have wV_s27_2 := wg_up us27_2 vV_s9_2
                  have vI_s27_2 : WG mu s27_2 s27_2r c4 (1) (s27_1.toInt) (fun j => a5 + 64 * (j - 1) + s9_1.toInt / 2 * 8 + s9_1.toInt % 2) := vI_s27_2
                  refine rl_if (fun c12 => ?_) (fun c12 => ?_)
                  · have dc12 := tl_le tn_3 is27_1 c12
                    exact rl_inr ⟨rfl, (ti_bd is27_1 (by omega) (by omega)), us27_2, (wg_sub vI_s27_2 (by omega) (by omega))⟩
                  · have dc12 := tl_nle tn_3 is27_1 c12
                    refine rl_dr (cx_U ts27_2) (rx_4 ts27_2 hq0) (fun gb32 => ?_)
                    refine rl_chk (chkl (cx_U ts27_2) gb32) (fun k13 => ?_)
                    refine rl_ltI (av_sub tn_8 ix6 (by omega) (by omega)) (fun x33 ix33 => ?_)
                    refine rl_ltI (av_sub tn_8 ix7 (by omega) (by omega)) (fun x34 ix34 => ?_)
                    refine rl_ltA (fun x35 => ?_)
                    refine rl_ltA (fun x36 => ?_)
                    obtain ⟨j14, hj14, ej14⟩ := rx_dv ts27_2 hq0 is27_1 (by omega) (by omega)
                    refine rl_dr (cx_U ts27_2) ej14 (fun gb37 => ?_)
                    refine rl_chk (chkl (cx_U ts27_2) gb37) (fun k15 => ?_)
                    refine rl_rd (cx_pl ts27_2 hq0 hj14 _) (fun x38 => ?_)
                    refine rl_ltA (fun x39 => ?_)
                    refine rl_ltI (av_sub tn_8 ix7 (by omega) (by omega)) (fun x40 ix40 => ?_)
                    refine rl_ltA (fun x41 => ?_)
                    refine rl_ltA (fun x42 => ?_)
                    refine rl_chk (chkl (cx_U ts27_2) gb37) (fun k16 => ?_)
                    refine rl_rd (cx_pl ts27_2 hq0 hj14 _) (fun x43 => ?_)
                    refine rl_ltA (fun x44 => ?_)
                    refine rl_ltA (fun x45 => ?_)
                    refine rl_ltI (av_sub tn_8 ix6 (by omega) (by omega)) (fun x46 ix46 => ?_)
                    refine rl_ltA (fun x47 => ?_)
                    refine rl_ltA (fun x48 => ?_)
                    refine rl_chk (chkl (cx_U ts27_2) gb37) (fun k17 => ?_)
                    refine rl_rd (cx_pl ts27_2 hq0 hj14 _) (fun x49 => ?_)
                    refine rl_ltA (fun x50 => ?_)
                    refine rl_ltA (fun x51 => ?_)
                    refine rl_ltA (fun x52 => ?_)
                    refine rl_ltA (fun x53 => ?_)
                    refine rl_chk (chkl (cx_U ts27_2) gb37) (fun k18 => ?_)
                    refine rl_rd (cx_pl ts27_2 hq0 hj14 _) (fun x54 => ?_)
                    refine rl_ltA (fun x55 => ?_)
                    refine rl_ltA (fun x56 => ?_)
                    refine rl_ltI (av_sub is27_1 tn_1 (by omega) (by omega)) (fun x57 ix57 => ?_)
                    refine rl_ltI (av_mul tn_64 ix57 (by omega) (by omega)) (fun x58 ix58 => ?_)
                    refine rl_ltI (av_add i5 ix58 (by omega) (by omega)) (fun x59 ix59 => ?_)
                    refine rl_chk (fun h => h) (fun k19 => ?_)
                    refine rl_ltI (av_div is9_1 i3 (by omega) (by omega)) (fun x60 ix60 => ?_)
                    refine rl_ltI (av_mul ix60 tn_8 (by omega) (by omega)) (fun x61 ix61 => ?_)
                    refine rl_ltI (av_add ix59 ix61 (by omega) (by omega)) (fun x62 ix62 => ?_)
                    refine rl_chk (fun h => h) (fun k20 => ?_)
                    refine rl_ltI (av_mod is9_1 i3 (by omega) (by omega)) (fun x63 ix63 => ?_)
                    refine rl_ltI (av_add ix62 ix63 (by omega) (by omega)) (fun x64 ix64 => ?_)
                    refine rl_ltA (fun x65 => ?_)
                    refine rl_ltA (fun x66 => ?_)
                    refine rl_dr (cx_U ts27_2) ⟨rfl, rfl⟩ (fun gb67 => ?_)
                    refine rl_chk (chkl (cx_U ts27_2) gb67) (fun k21 => ?_)
                    refine rl_w (κ := 144) (cx_U ts27_2) (by rcases hc4 with h | h <;> omega) (fun M68 M68r uM68 AM68 nM68 => ?_)
                    have tM68 := cx_up ts27_2 uM68
                    have wU_M68 := wg_up uM68 wU_s27_2
                    have wV_M68 := wg_up uM68 wV_s27_2
                    have wI_M68 := wg_up uM68 vI_s27_2
                    refine rl_ltI (av_add is27_1 tn_1 (by omega) (by omega)) (fun x69 ix69 => ?_)
                    exact rl_inl ⟨rfl, (ti_bd ix69 (by omega) (by omega)), (up_tr us27_2 uM68), (wg_ext wI_M68 ix64 (ag_up (up_0 mu (κ := 144) _ _) AM68) (by (try dsimp only) <;> omega) (by have q : _ = _ := ix69; (try dsimp only) <;> omega))⟩
                · exact ⟨rfl, (ti_bd tn_1 (by omega) (by omega)), (up_0 mu (κ := 144) _ _), (wg_0 (by have q : _ = _ := tn_1; (try dsimp only) <;> omega))⟩
                · rintro ⟨y26_1, y26_2⟩ ⟨y26_1r, y26_2r⟩ ⟨ey26_1, ly26_1, uy26_2, vI_y26_2⟩
                  obtain rfl : y26_1 = y26_1r := ey26_1
                  have ly26_1 : 1 ≤ y26_1.toInt ∧ y26_1.toInt ≤ 3 := ly26_1
                  have iy26_1 : TI y26_1 y26_1.toInt := rfl
                  have uy26_2 : Up mu 144 s9_2 s9_2r y26_2 y26_2r := uy26_2
                  have ty26_2 := cx_up ts9_2 uy26_2
                  have wU_y26_2 := wg_up uy26_2 vU_s9_2
                  have wV_y26_2 := wg_up uy26_2 vV_s9_2
                  have vI_y26_2 : WG mu y26_2 y26_2r c4 (1) (3) (fun j => a5 + 64 * (j - 1) + s9_1.toInt / 2 * 8 + s9_1.toInt % 2) := vI_y26_2
                  refine rl_ltI (av_add is9_1 tn_1 (by omega) (by omega)) (fun x29 ix29 => ?_)
                  exact rl_inl ⟨rfl, (ti_bd ix29 (by omega) (by omega)), (up_tr us9_2 uy26_2), (by exact wg_ex2 wU_y26_2 (wg_at vI_y26_2 1 (by omega) (by omega) (by (try dsimp only) <;> omega)) (by have q2 : _ = _ := ix29; (try dsimp only) <;> omega)), (by exact wg_ex2 wV_y26_2 (wg_at vI_y26_2 2 (by omega) (by omega) (by (try dsimp only) <;> omega)) (by have q2 : _ = _ := ix29; (try dsimp only) <;> omega))⟩
    · exact ⟨rfl, (ti_bd tn_0 (by omega) (by omega)), (up_0 mu (κ := 144) _ _), (wg_0 (by have q : _ = _ := tn_0; (try dsimp only) <;> omega)), (wg_0 (by have q : _ = _ := tn_0; (try dsimp only) <;> omega))⟩
    · rintro ⟨y8_1, y8_2⟩ ⟨y8_1r, y8_2r⟩ ⟨ey8_1, ly8_1, uy8_2, vU_y8_2, vV_y8_2⟩
      obtain rfl : y8_1 = y8_1r := ey8_1
      have ly8_1 : 0 ≤ y8_1.toInt ∧ y8_1.toInt ≤ (2 * 2) := ly8_1
      have iy8_1 : TI y8_1 y8_1.toInt := rfl
      have uy8_2 : Up mu 144 M N y8_2 y8_2r := uy8_2
      have ty8_2 := cx_up t uy8_2
      have vU_y8_2 : WG mu y8_2 y8_2r c4 (0) (2 * 2) (fun j => a5 + j / 2 * 8 + j % 2) := vU_y8_2
      have vV_y8_2 : WG mu y8_2 y8_2r c4 (0) (2 * 2) (fun j => a5 + 64 + j / 2 * 8 + j % 2) := vV_y8_2
      exact rl_some ⟨uy8_2, vU_y8_2, vV_y8_2⟩
  · refine rl_dr (cx_U t) ⟨rfl, rfl⟩ (fun gb1 => ?_)
    refine rl_rd (cx_q (j := 0) (k := 1) t hq0 rfl) (fun x2 => ?_)
    refine rl_ltA (fun x3 => ?_)
    refine rl_rd (cx_q (j := 0) (k := 2) t hq0 rfl) (fun x4 => ?_)
    refine rl_ltA (fun x5 => ?_)
    refine rl_ltI (av_and 3 i1 (by decide) (by decide)) (fun x6 ix6 => ?_)
    refine rl_ltI (av_and 3 i2 (by decide) (by decide)) (fun x7 ix7 => ?_)
    refine rl_bnd (Q := fun (y z : Int32 × DD) => y.1 = z.1 ∧ (0 ≤ y.1.toInt ∧ y.1.toInt ≤ (4 * 4)) ∧ Up mu 144 M N y.2 z.2 ∧ WG mu y.2 z.2 c4 (0) (4 * 4) (fun j => a5 + j / 4 * 8 + j % 4) ∧ WG mu y.2 z.2 c4 (0) (4 * 4) (fun j => a5 + 64 + j / 4 * 8 + j % 4)) (rl_itr (fun (y z : Int32 × DD) => y.1 = z.1 ∧ (0 ≤ y.1.toInt ∧ y.1.toInt ≤ (4 * 4)) ∧ Up mu 144 M N y.2 z.2 ∧ WG mu y.2 z.2 c4 (0) (y.1.toInt) (fun j => a5 + j / 4 * 8 + j % 4) ∧ WG mu y.2 z.2 c4 (0) (y.1.toInt) (fun j => a5 + 64 + j / 4 * 8 + j % 4)) _ ?_ _ _ _ ?_) ?_
    · rintro ⟨s9_1, s9_2⟩ ⟨s9_1r, s9_2r⟩ ⟨es9_1, ls9_1, us9_2, vU_s9_2, vV_s9_2⟩
      obtain rfl : s9_1 = s9_1r := es9_1
      have ls9_1 : 0 ≤ s9_1.toInt ∧ s9_1.toInt ≤ (4 * 4) := ls9_1
      have is9_1 : TI s9_1 s9_1.toInt := rfl
      have us9_2 : Up mu 144 M N s9_2 s9_2r := us9_2
      have ts9_2 := cx_up t us9_2
      have vU_s9_2 : WG mu s9_2 s9_2r c4 (0) (s9_1.toInt) (fun j => a5 + j / 4 * 8 + j % 4) := vU_s9_2
      have vV_s9_2 : WG mu s9_2 s9_2r c4 (0) (s9_1.toInt) (fun j => a5 + 64 + j / 4 * 8 + j % 4) := vV_s9_2
      refine rl_ltI (av_mul i3 i3 (by omega) (by omega)) (fun x12 ix12 => ?_)
      refine rl_if (fun c1 => ?_) (fun c1 => ?_)
      · have dc1 := tl_le ix12 is9_1 c1
        exact rl_inr ⟨rfl, (ti_bd is9_1 (by omega) (by omega)), us9_2, (wg_sub vU_s9_2 (by omega) (by omega)), (wg_sub vV_s9_2 (by omega) (by omega))⟩
      · have dc1 := tl_nle ix12 is9_1 c1
        refine rl_ltI (av_sar 3 i1 (by decide)) (fun x14 ix14 => ?_)
        refine rl_chk (fun h => h) (fun k2 => ?_)
        refine rl_ltI (av_mod is9_1 i3 (by omega) (by omega)) (fun x15 ix15 => ?_)
        refine rl_ltI (av_add ix14 ix15 (by omega) (by omega)) (fun x16 ix16 => ?_)
        refine rl_ltI (av_sar 3 i2 (by decide)) (fun x17 ix17 => ?_)
        refine rl_chk (fun h => h) (fun k3 => ?_)
        refine rl_ltI (av_div is9_1 i3 (by omega) (by omega)) (fun x18 ix18 => ?_)
        refine rl_ltI (av_add ix17 ix18 (by omega) (by omega)) (fun x19 ix19 => ?_)
        refine rl_bnd (Q := fun (y z : Int32) => y = z) ?_ ?_
        · refine rl_if (fun c4 => ?_) (fun c4 => ?_)
          · have dc4 := tl_le tn_0 ix16 c4
            refine rl_bnd (Q := fun (y z : Int32) => y = z) ?_ ?_
            · refine rl_if (fun c5 => ?_) (fun c5 => ?_)
              · have dc5 := tl_lt ix16 (rfl : TI x3 x3.toInt) c5
                exact rl_some rfl
              · have dc5 := tl_nlt ix16 (rfl : TI x3 x3.toInt) c5
                refine rl_ltA (fun x89 => ?_)
                exact rl_some rfl
            · rintro y87 y87r ey87
              obtain rfl : y87 = y87r := ey87
              exact rl_some rfl
          · have dc4 := tl_nle tn_0 ix16 c4
            exact rl_some rfl
        · rintro y20 y20r ey20
          obtain rfl : y20 = y20r := ey20
          refine rl_bnd (Q := fun (y z : Int32) => y = z) ?_ ?_
          · refine rl_if (fun c6 => ?_) (fun c6 => ?_)
            · have dc6 := tl_le tn_m1 ix16 c6
              refine rl_ltA (fun x81 => ?_)
              refine rl_bnd (Q := fun (y z : Int32) => y = z) ?_ ?_
              · refine rl_if (fun c7 => ?_) (fun c7 => ?_)
                · have dc7 := tl_lt ix16 (rfl : TI x81 x81.toInt) c7
                  refine rl_ltI (av_add ix16 tn_1 (by omega) (by omega)) (fun x84 ix84 => ?_)
                  exact rl_some rfl
                · have dc7 := tl_nlt ix16 (rfl : TI x81 x81.toInt) c7
                  refine rl_ltA (fun x85 => ?_)
                  exact rl_some rfl
              · rintro y82 y82r ey82
                obtain rfl : y82 = y82r := ey82
                exact rl_some rfl
            · have dc6 := tl_nle tn_m1 ix16 c6
              exact rl_some rfl
          · rintro y21 y21r ey21
            obtain rfl : y21 = y21r := ey21
            refine rl_bnd (Q := fun (y z : Int32) => y = z) ?_ ?_
            · refine rl_if (fun c8 => ?_) (fun c8 => ?_)
              · have dc8 := tl_le tn_0 ix19 c8
                refine rl_bnd (Q := fun (y z : Int32) => y = z) ?_ ?_
                · refine rl_if (fun c9 => ?_) (fun c9 => ?_)
                  · have dc9 := tl_lt ix19 (rfl : TI x5 x5.toInt) c9
                    exact rl_some rfl
                  · have dc9 := tl_nlt ix19 (rfl : TI x5 x5.toInt) c9
                    refine rl_ltA (fun x79 => ?_)
                    exact rl_some rfl
                · rintro y77 y77r ey77
                  obtain rfl : y77 = y77r := ey77
                  exact rl_some rfl
              · have dc8 := tl_nle tn_0 ix19 c8
                exact rl_some rfl
            · rintro y22 y22r ey22
              obtain rfl : y22 = y22r := ey22
              refine rl_ltA (fun x23 => ?_)
              refine rl_bnd (Q := fun (y z : Int32) => y = z) ?_ ?_
              · refine rl_if (fun c10 => ?_) (fun c10 => ?_)
                · have dc10 := tl_le tn_m1 ix19 c10
                  refine rl_ltA (fun x71 => ?_)
                  refine rl_bnd (Q := fun (y z : Int32) => y = z) ?_ ?_
                  · refine rl_if (fun c11 => ?_) (fun c11 => ?_)
                    · have dc11 := tl_lt ix19 (rfl : TI x71 x71.toInt) c11
                      refine rl_ltI (av_add ix19 tn_1 (by omega) (by omega)) (fun x74 ix74 => ?_)
                      exact rl_some rfl
                    · have dc11 := tl_nlt ix19 (rfl : TI x71 x71.toInt) c11
                      refine rl_ltA (fun x75 => ?_)
                      exact rl_some rfl
                  · rintro y72 y72r ey72
                    obtain rfl : y72 = y72r := ey72
                    exact rl_some rfl
                · have dc10 := tl_nle tn_m1 ix19 c10
                  exact rl_some rfl
              · rintro y24 y24r ey24
                obtain rfl : y24 = y24r := ey24
                refine rl_ltA (fun x25 => ?_)
                refine rl_bnd (Q := fun (y z : Int32 × DD) => y.1 = z.1 ∧ (1 ≤ y.1.toInt ∧ y.1.toInt ≤ 3) ∧ Up mu 144 s9_2 s9_2r y.2 z.2 ∧ WG mu y.2 z.2 c4 (1) (3) (fun j => a5 + 64 * (j - 1) + s9_1.toInt / 4 * 8 + s9_1.toInt % 4)) (rl_itr (fun (y z : Int32 × DD) => y.1 = z.1 ∧ (1 ≤ y.1.toInt ∧ y.1.toInt ≤ 3) ∧ Up mu 144 s9_2 s9_2r y.2 z.2 ∧ WG mu y.2 z.2 c4 (1) (y.1.toInt) (fun j => a5 + 64 * (j - 1) + s9_1.toInt / 4 * 8 + s9_1.toInt % 4)) _ ?_ _ _ _ ?_) ?_
                · rintro ⟨s27_1, s27_2⟩ ⟨s27_1r, s27_2r⟩ ⟨es27_1, ls27_1, us27_2, vI_s27_2⟩
                  obtain rfl : s27_1 = s27_1r := es27_1
                  have ls27_1 : 1 ≤ s27_1.toInt ∧ s27_1.toInt ≤ 3 := ls27_1
                  have is27_1 : TI s27_1 s27_1.toInt := rfl
                  have us27_2 : Up mu 144 s9_2 s9_2r s27_2 s27_2r := us27_2
                  have ts27_2 := cx_up ts9_2 us27_2
                  have wU_s27_2 := wg_up us27_2 vU_s9_2
                  have wV_s27_2 := wg_up us27_2 vV_s9_2
                  have vI_s27_2 : WG mu s27_2 s27_2r c4 (1) (s27_1.toInt) (fun j => a5 + 64 * (j - 1) + s9_1.toInt / 4 * 8 + s9_1.toInt % 4) := vI_s27_2
                  refine rl_if (fun c12 => ?_) (fun c12 => ?_)
                  · have dc12 := tl_le tn_3 is27_1 c12
                    exact rl_inr ⟨rfl, (ti_bd is27_1 (by omega) (by omega)), us27_2, (wg_sub vI_s27_2 (by omega) (by omega))⟩
                  · have dc12 := tl_nle tn_3 is27_1 c12
                    refine rl_dr (cx_U ts27_2) (rx_4 ts27_2 hq0) (fun gb32 => ?_)
                    refine rl_chk (chkl (cx_U ts27_2) gb32) (fun k13 => ?_)
                    refine rl_ltI (av_sub tn_8 ix6 (by omega) (by omega)) (fun x33 ix33 => ?_)
                    refine rl_ltI (av_sub tn_8 ix7 (by omega) (by omega)) (fun x34 ix34 => ?_)
                    refine rl_ltA (fun x35 => ?_)
                    refine rl_ltA (fun x36 => ?_)
                    obtain ⟨j14, hj14, ej14⟩ := rx_dv ts27_2 hq0 is27_1 (by omega) (by omega)
                    refine rl_dr (cx_U ts27_2) ej14 (fun gb37 => ?_)
                    refine rl_chk (chkl (cx_U ts27_2) gb37) (fun k15 => ?_)
                    refine rl_rd (cx_pl ts27_2 hq0 hj14 _) (fun x38 => ?_)
                    refine rl_ltA (fun x39 => ?_)
                    refine rl_ltI (av_sub tn_8 ix7 (by omega) (by omega)) (fun x40 ix40 => ?_)
                    refine rl_ltA (fun x41 => ?_)
                    refine rl_ltA (fun x42 => ?_)
                    refine rl_chk (chkl (cx_U ts27_2) gb37) (fun k16 => ?_)
                    refine rl_rd (cx_pl ts27_2 hq0 hj14 _) (fun x43 => ?_)
                    refine rl_ltA (fun x44 => ?_)
                    refine rl_ltA (fun x45 => ?_)
                    refine rl_ltI (av_sub tn_8 ix6 (by omega) (by omega)) (fun x46 ix46 => ?_)
                    refine rl_ltA (fun x47 => ?_)
                    refine rl_ltA (fun x48 => ?_)
                    refine rl_chk (chkl (cx_U ts27_2) gb37) (fun k17 => ?_)
                    refine rl_rd (cx_pl ts27_2 hq0 hj14 _) (fun x49 => ?_)
                    refine rl_ltA (fun x50 => ?_)
                    refine rl_ltA (fun x51 => ?_)
                    refine rl_ltA (fun x52 => ?_)
                    refine rl_ltA (fun x53 => ?_)
                    refine rl_chk (chkl (cx_U ts27_2) gb37) (fun k18 => ?_)
                    refine rl_rd (cx_pl ts27_2 hq0 hj14 _) (fun x54 => ?_)
                    refine rl_ltA (fun x55 => ?_)
                    refine rl_ltA (fun x56 => ?_)
                    refine rl_ltI (av_sub is27_1 tn_1 (by omega) (by omega)) (fun x57 ix57 => ?_)
                    refine rl_ltI (av_mul tn_64 ix57 (by omega) (by omega)) (fun x58 ix58 => ?_)
                    refine rl_ltI (av_add i5 ix58 (by omega) (by omega)) (fun x59 ix59 => ?_)
                    refine rl_chk (fun h => h) (fun k19 => ?_)
                    refine rl_ltI (av_div is9_1 i3 (by omega) (by omega)) (fun x60 ix60 => ?_)
                    refine rl_ltI (av_mul ix60 tn_8 (by omega) (by omega)) (fun x61 ix61 => ?_)
                    refine rl_ltI (av_add ix59 ix61 (by omega) (by omega)) (fun x62 ix62 => ?_)
                    refine rl_chk (fun h => h) (fun k20 => ?_)
                    refine rl_ltI (av_mod is9_1 i3 (by omega) (by omega)) (fun x63 ix63 => ?_)
                    refine rl_ltI (av_add ix62 ix63 (by omega) (by omega)) (fun x64 ix64 => ?_)
                    refine rl_ltA (fun x65 => ?_)
                    refine rl_ltA (fun x66 => ?_)
                    refine rl_dr (cx_U ts27_2) ⟨rfl, rfl⟩ (fun gb67 => ?_)
                    refine rl_chk (chkl (cx_U ts27_2) gb67) (fun k21 => ?_)
                    refine rl_w (κ := 144) (cx_U ts27_2) (by rcases hc4 with h | h <;> omega) (fun M68 M68r uM68 AM68 nM68 => ?_)
                    have tM68 := cx_up ts27_2 uM68
                    have wU_M68 := wg_up uM68 wU_s27_2
                    have wV_M68 := wg_up uM68 wV_s27_2
                    have wI_M68 := wg_up uM68 vI_s27_2
                    refine rl_ltI (av_add is27_1 tn_1 (by omega) (by omega)) (fun x69 ix69 => ?_)
                    exact rl_inl ⟨rfl, (ti_bd ix69 (by omega) (by omega)), (up_tr us27_2 uM68), (wg_ext wI_M68 ix64 (ag_up (up_0 mu (κ := 144) _ _) AM68) (by (try dsimp only) <;> omega) (by have q : _ = _ := ix69; (try dsimp only) <;> omega))⟩
                · exact ⟨rfl, (ti_bd tn_1 (by omega) (by omega)), (up_0 mu (κ := 144) _ _), (wg_0 (by have q : _ = _ := tn_1; (try dsimp only) <;> omega))⟩
                · rintro ⟨y26_1, y26_2⟩ ⟨y26_1r, y26_2r⟩ ⟨ey26_1, ly26_1, uy26_2, vI_y26_2⟩
                  obtain rfl : y26_1 = y26_1r := ey26_1
                  have ly26_1 : 1 ≤ y26_1.toInt ∧ y26_1.toInt ≤ 3 := ly26_1
                  have iy26_1 : TI y26_1 y26_1.toInt := rfl
                  have uy26_2 : Up mu 144 s9_2 s9_2r y26_2 y26_2r := uy26_2
                  have ty26_2 := cx_up ts9_2 uy26_2
                  have wU_y26_2 := wg_up uy26_2 vU_s9_2
                  have wV_y26_2 := wg_up uy26_2 vV_s9_2
                  have vI_y26_2 : WG mu y26_2 y26_2r c4 (1) (3) (fun j => a5 + 64 * (j - 1) + s9_1.toInt / 4 * 8 + s9_1.toInt % 4) := vI_y26_2
                  refine rl_ltI (av_add is9_1 tn_1 (by omega) (by omega)) (fun x29 ix29 => ?_)
                  exact rl_inl ⟨rfl, (ti_bd ix29 (by omega) (by omega)), (up_tr us9_2 uy26_2), (by exact wg_ex2 wU_y26_2 (wg_at vI_y26_2 1 (by omega) (by omega) (by (try dsimp only) <;> omega)) (by have q2 : _ = _ := ix29; (try dsimp only) <;> omega)), (by exact wg_ex2 wV_y26_2 (wg_at vI_y26_2 2 (by omega) (by omega) (by (try dsimp only) <;> omega)) (by have q2 : _ = _ := ix29; (try dsimp only) <;> omega))⟩
    · exact ⟨rfl, (ti_bd tn_0 (by omega) (by omega)), (up_0 mu (κ := 144) _ _), (wg_0 (by have q : _ = _ := tn_0; (try dsimp only) <;> omega)), (wg_0 (by have q : _ = _ := tn_0; (try dsimp only) <;> omega))⟩
    · rintro ⟨y8_1, y8_2⟩ ⟨y8_1r, y8_2r⟩ ⟨ey8_1, ly8_1, uy8_2, vU_y8_2, vV_y8_2⟩
      obtain rfl : y8_1 = y8_1r := ey8_1
      have ly8_1 : 0 ≤ y8_1.toInt ∧ y8_1.toInt ≤ (4 * 4) := ly8_1
      have iy8_1 : TI y8_1 y8_1.toInt := rfl
      have uy8_2 : Up mu 144 M N y8_2 y8_2r := uy8_2
      have ty8_2 := cx_up t uy8_2
      have vU_y8_2 : WG mu y8_2 y8_2r c4 (0) (4 * 4) (fun j => a5 + j / 4 * 8 + j % 4) := vU_y8_2
      have vV_y8_2 : WG mu y8_2 y8_2r c4 (0) (4 * 4) (fun j => a5 + 64 + j / 4 * 8 + j % 4) := vV_y8_2
      exact rl_some ⟨uy8_2, vU_y8_2, vV_y8_2⟩
  · refine rl_dr (cx_U t) ⟨rfl, rfl⟩ (fun gb1 => ?_)
    refine rl_rd (cx_q (j := 0) (k := 1) t hq0 rfl) (fun x2 => ?_)
    refine rl_ltA (fun x3 => ?_)
    refine rl_rd (cx_q (j := 0) (k := 2) t hq0 rfl) (fun x4 => ?_)
    refine rl_ltA (fun x5 => ?_)
    refine rl_ltI (av_and 3 i1 (by decide) (by decide)) (fun x6 ix6 => ?_)
    refine rl_ltI (av_and 3 i2 (by decide) (by decide)) (fun x7 ix7 => ?_)
    refine rl_bnd (Q := fun (y z : Int32 × DD) => y.1 = z.1 ∧ (0 ≤ y.1.toInt ∧ y.1.toInt ≤ (8 * 8)) ∧ Up mu 144 M N y.2 z.2 ∧ WG mu y.2 z.2 c4 (0) (8 * 8) (fun j => a5 + j / 8 * 8 + j % 8) ∧ WG mu y.2 z.2 c4 (0) (8 * 8) (fun j => a5 + 64 + j / 8 * 8 + j % 8)) (rl_itr (fun (y z : Int32 × DD) => y.1 = z.1 ∧ (0 ≤ y.1.toInt ∧ y.1.toInt ≤ (8 * 8)) ∧ Up mu 144 M N y.2 z.2 ∧ WG mu y.2 z.2 c4 (0) (y.1.toInt) (fun j => a5 + j / 8 * 8 + j % 8) ∧ WG mu y.2 z.2 c4 (0) (y.1.toInt) (fun j => a5 + 64 + j / 8 * 8 + j % 8)) _ ?_ _ _ _ ?_) ?_
    · rintro ⟨s9_1, s9_2⟩ ⟨s9_1r, s9_2r⟩ ⟨es9_1, ls9_1, us9_2, vU_s9_2, vV_s9_2⟩
      obtain rfl : s9_1 = s9_1r := es9_1
      have ls9_1 : 0 ≤ s9_1.toInt ∧ s9_1.toInt ≤ (8 * 8) := ls9_1
      have is9_1 : TI s9_1 s9_1.toInt := rfl
      have us9_2 : Up mu 144 M N s9_2 s9_2r := us9_2
      have ts9_2 := cx_up t us9_2
      have vU_s9_2 : WG mu s9_2 s9_2r c4 (0) (s9_1.toInt) (fun j => a5 + j / 8 * 8 + j % 8) := vU_s9_2
      have vV_s9_2 : WG mu s9_2 s9_2r c4 (0) (s9_1.toInt) (fun j => a5 + 64 + j / 8 * 8 + j % 8) := vV_s9_2
      refine rl_ltI (av_mul i3 i3 (by omega) (by omega)) (fun x12 ix12 => ?_)
      refine rl_if (fun c1 => ?_) (fun c1 => ?_)
      · have dc1 := tl_le ix12 is9_1 c1
        exact rl_inr ⟨rfl, (ti_bd is9_1 (by omega) (by omega)), us9_2, (wg_sub vU_s9_2 (by omega) (by omega)), (wg_sub vV_s9_2 (by omega) (by omega))⟩
      · have dc1 := tl_nle ix12 is9_1 c1
        refine rl_ltI (av_sar 3 i1 (by decide)) (fun x14 ix14 => ?_)
        refine rl_chk (fun h => h) (fun k2 => ?_)
        refine rl_ltI (av_mod is9_1 i3 (by omega) (by omega)) (fun x15 ix15 => ?_)
        refine rl_ltI (av_add ix14 ix15 (by omega) (by omega)) (fun x16 ix16 => ?_)
        refine rl_ltI (av_sar 3 i2 (by decide)) (fun x17 ix17 => ?_)
        refine rl_chk (fun h => h) (fun k3 => ?_)
        refine rl_ltI (av_div is9_1 i3 (by omega) (by omega)) (fun x18 ix18 => ?_)
        refine rl_ltI (av_add ix17 ix18 (by omega) (by omega)) (fun x19 ix19 => ?_)
        refine rl_bnd (Q := fun (y z : Int32) => y = z) ?_ ?_
        · refine rl_if (fun c4 => ?_) (fun c4 => ?_)
          · have dc4 := tl_le tn_0 ix16 c4
            refine rl_bnd (Q := fun (y z : Int32) => y = z) ?_ ?_
            · refine rl_if (fun c5 => ?_) (fun c5 => ?_)
              · have dc5 := tl_lt ix16 (rfl : TI x3 x3.toInt) c5
                exact rl_some rfl
              · have dc5 := tl_nlt ix16 (rfl : TI x3 x3.toInt) c5
                refine rl_ltA (fun x89 => ?_)
                exact rl_some rfl
            · rintro y87 y87r ey87
              obtain rfl : y87 = y87r := ey87
              exact rl_some rfl
          · have dc4 := tl_nle tn_0 ix16 c4
            exact rl_some rfl
        · rintro y20 y20r ey20
          obtain rfl : y20 = y20r := ey20
          refine rl_bnd (Q := fun (y z : Int32) => y = z) ?_ ?_
          · refine rl_if (fun c6 => ?_) (fun c6 => ?_)
            · have dc6 := tl_le tn_m1 ix16 c6
              refine rl_ltA (fun x81 => ?_)
              refine rl_bnd (Q := fun (y z : Int32) => y = z) ?_ ?_
              · refine rl_if (fun c7 => ?_) (fun c7 => ?_)
                · have dc7 := tl_lt ix16 (rfl : TI x81 x81.toInt) c7
                  refine rl_ltI (av_add ix16 tn_1 (by omega) (by omega)) (fun x84 ix84 => ?_)
                  exact rl_some rfl
                · have dc7 := tl_nlt ix16 (rfl : TI x81 x81.toInt) c7
                  refine rl_ltA (fun x85 => ?_)
                  exact rl_some rfl
              · rintro y82 y82r ey82
                obtain rfl : y82 = y82r := ey82
                exact rl_some rfl
            · have dc6 := tl_nle tn_m1 ix16 c6
              exact rl_some rfl
          · rintro y21 y21r ey21
            obtain rfl : y21 = y21r := ey21
            refine rl_bnd (Q := fun (y z : Int32) => y = z) ?_ ?_
            · refine rl_if (fun c8 => ?_) (fun c8 => ?_)
              · have dc8 := tl_le tn_0 ix19 c8
                refine rl_bnd (Q := fun (y z : Int32) => y = z) ?_ ?_
                · refine rl_if (fun c9 => ?_) (fun c9 => ?_)
                  · have dc9 := tl_lt ix19 (rfl : TI x5 x5.toInt) c9
                    exact rl_some rfl
                  · have dc9 := tl_nlt ix19 (rfl : TI x5 x5.toInt) c9
                    refine rl_ltA (fun x79 => ?_)
                    exact rl_some rfl
                · rintro y77 y77r ey77
                  obtain rfl : y77 = y77r := ey77
                  exact rl_some rfl
              · have dc8 := tl_nle tn_0 ix19 c8
                exact rl_some rfl
            · rintro y22 y22r ey22
              obtain rfl : y22 = y22r := ey22
              refine rl_ltA (fun x23 => ?_)
              refine rl_bnd (Q := fun (y z : Int32) => y = z) ?_ ?_
              · refine rl_if (fun c10 => ?_) (fun c10 => ?_)
                · have dc10 := tl_le tn_m1 ix19 c10
                  refine rl_ltA (fun x71 => ?_)
                  refine rl_bnd (Q := fun (y z : Int32) => y = z) ?_ ?_
                  · refine rl_if (fun c11 => ?_) (fun c11 => ?_)
                    · have dc11 := tl_lt ix19 (rfl : TI x71 x71.toInt) c11
                      refine rl_ltI (av_add ix19 tn_1 (by omega) (by omega)) (fun x74 ix74 => ?_)
                      exact rl_some rfl
                    · have dc11 := tl_nlt ix19 (rfl : TI x71 x71.toInt) c11
                      refine rl_ltA (fun x75 => ?_)
                      exact rl_some rfl
                  · rintro y72 y72r ey72
                    obtain rfl : y72 = y72r := ey72
                    exact rl_some rfl
                · have dc10 := tl_nle tn_m1 ix19 c10
                  exact rl_some rfl
              · rintro y24 y24r ey24
                obtain rfl : y24 = y24r := ey24
                refine rl_ltA (fun x25 => ?_)
                refine rl_bnd (Q := fun (y z : Int32 × DD) => y.1 = z.1 ∧ (1 ≤ y.1.toInt ∧ y.1.toInt ≤ 3) ∧ Up mu 144 s9_2 s9_2r y.2 z.2 ∧ WG mu y.2 z.2 c4 (1) (3) (fun j => a5 + 64 * (j - 1) + s9_1.toInt / 8 * 8 + s9_1.toInt % 8)) (rl_itr (fun (y z : Int32 × DD) => y.1 = z.1 ∧ (1 ≤ y.1.toInt ∧ y.1.toInt ≤ 3) ∧ Up mu 144 s9_2 s9_2r y.2 z.2 ∧ WG mu y.2 z.2 c4 (1) (y.1.toInt) (fun j => a5 + 64 * (j - 1) + s9_1.toInt / 8 * 8 + s9_1.toInt % 8)) _ ?_ _ _ _ ?_) ?_
                · rintro ⟨s27_1, s27_2⟩ ⟨s27_1r, s27_2r⟩ ⟨es27_1, ls27_1, us27_2, vI_s27_2⟩
                  obtain rfl : s27_1 = s27_1r := es27_1
                  have ls27_1 : 1 ≤ s27_1.toInt ∧ s27_1.toInt ≤ 3 := ls27_1
                  have is27_1 : TI s27_1 s27_1.toInt := rfl
                  have us27_2 : Up mu 144 s9_2 s9_2r s27_2 s27_2r := us27_2
                  have ts27_2 := cx_up ts9_2 us27_2
                  have wU_s27_2 := wg_up us27_2 vU_s9_2
                  have wV_s27_2 := wg_up us27_2 vV_s9_2
                  have vI_s27_2 : WG mu s27_2 s27_2r c4 (1) (s27_1.toInt) (fun j => a5 + 64 * (j - 1) + s9_1.toInt / 8 * 8 + s9_1.toInt % 8) := vI_s27_2
                  refine rl_if (fun c12 => ?_) (fun c12 => ?_)
                  · have dc12 := tl_le tn_3 is27_1 c12
                    exact rl_inr ⟨rfl, (ti_bd is27_1 (by omega) (by omega)), us27_2, (wg_sub vI_s27_2 (by omega) (by omega))⟩
                  · have dc12 := tl_nle tn_3 is27_1 c12
                    refine rl_dr (cx_U ts27_2) (rx_4 ts27_2 hq0) (fun gb32 => ?_)
                    refine rl_chk (chkl (cx_U ts27_2) gb32) (fun k13 => ?_)
                    refine rl_ltI (av_sub tn_8 ix6 (by omega) (by omega)) (fun x33 ix33 => ?_)
                    refine rl_ltI (av_sub tn_8 ix7 (by omega) (by omega)) (fun x34 ix34 => ?_)
                    refine rl_ltA (fun x35 => ?_)
                    refine rl_ltA (fun x36 => ?_)
                    obtain ⟨j14, hj14, ej14⟩ := rx_dv ts27_2 hq0 is27_1 (by omega) (by omega)
                    refine rl_dr (cx_U ts27_2) ej14 (fun gb37 => ?_)
                    refine rl_chk (chkl (cx_U ts27_2) gb37) (fun k15 => ?_)
                    refine rl_rd (cx_pl ts27_2 hq0 hj14 _) (fun x38 => ?_)
                    refine rl_ltA (fun x39 => ?_)
                    refine rl_ltI (av_sub tn_8 ix7 (by omega) (by omega)) (fun x40 ix40 => ?_)
                    refine rl_ltA (fun x41 => ?_)
                    refine rl_ltA (fun x42 => ?_)
                    refine rl_chk (chkl (cx_U ts27_2) gb37) (fun k16 => ?_)
                    refine rl_rd (cx_pl ts27_2 hq0 hj14 _) (fun x43 => ?_)
                    refine rl_ltA (fun x44 => ?_)
                    refine rl_ltA (fun x45 => ?_)
                    refine rl_ltI (av_sub tn_8 ix6 (by omega) (by omega)) (fun x46 ix46 => ?_)
                    refine rl_ltA (fun x47 => ?_)
                    refine rl_ltA (fun x48 => ?_)
                    refine rl_chk (chkl (cx_U ts27_2) gb37) (fun k17 => ?_)
                    refine rl_rd (cx_pl ts27_2 hq0 hj14 _) (fun x49 => ?_)
                    refine rl_ltA (fun x50 => ?_)
                    refine rl_ltA (fun x51 => ?_)
                    refine rl_ltA (fun x52 => ?_)
                    refine rl_ltA (fun x53 => ?_)
                    refine rl_chk (chkl (cx_U ts27_2) gb37) (fun k18 => ?_)
                    refine rl_rd (cx_pl ts27_2 hq0 hj14 _) (fun x54 => ?_)
                    refine rl_ltA (fun x55 => ?_)
                    refine rl_ltA (fun x56 => ?_)
                    refine rl_ltI (av_sub is27_1 tn_1 (by omega) (by omega)) (fun x57 ix57 => ?_)
                    refine rl_ltI (av_mul tn_64 ix57 (by omega) (by omega)) (fun x58 ix58 => ?_)
                    refine rl_ltI (av_add i5 ix58 (by omega) (by omega)) (fun x59 ix59 => ?_)
                    refine rl_chk (fun h => h) (fun k19 => ?_)
                    refine rl_ltI (av_div is9_1 i3 (by omega) (by omega)) (fun x60 ix60 => ?_)
                    refine rl_ltI (av_mul ix60 tn_8 (by omega) (by omega)) (fun x61 ix61 => ?_)
                    refine rl_ltI (av_add ix59 ix61 (by omega) (by omega)) (fun x62 ix62 => ?_)
                    refine rl_chk (fun h => h) (fun k20 => ?_)
                    refine rl_ltI (av_mod is9_1 i3 (by omega) (by omega)) (fun x63 ix63 => ?_)
                    refine rl_ltI (av_add ix62 ix63 (by omega) (by omega)) (fun x64 ix64 => ?_)
                    refine rl_ltA (fun x65 => ?_)
                    refine rl_ltA (fun x66 => ?_)
                    refine rl_dr (cx_U ts27_2) ⟨rfl, rfl⟩ (fun gb67 => ?_)
                    refine rl_chk (chkl (cx_U ts27_2) gb67) (fun k21 => ?_)
                    refine rl_w (κ := 144) (cx_U ts27_2) (by rcases hc4 with h | h <;> omega) (fun M68 M68r uM68 AM68 nM68 => ?_)
                    have tM68 := cx_up ts27_2 uM68
                    have wU_M68 := wg_up uM68 wU_s27_2
                    have wV_M68 := wg_up uM68 wV_s27_2
                    have wI_M68 := wg_up uM68 vI_s27_2
                    refine rl_ltI (av_add is27_1 tn_1 (by omega) (by omega)) (fun x69 ix69 => ?_)
                    exact rl_inl ⟨rfl, (ti_bd ix69 (by omega) (by omega)), (up_tr us27_2 uM68), (wg_ext wI_M68 ix64 (ag_up (up_0 mu (κ := 144) _ _) AM68) (by (try dsimp only) <;> omega) (by have q : _ = _ := ix69; (try dsimp only) <;> omega))⟩
                · exact ⟨rfl, (ti_bd tn_1 (by omega) (by omega)), (up_0 mu (κ := 144) _ _), (wg_0 (by have q : _ = _ := tn_1; (try dsimp only) <;> omega))⟩
                · rintro ⟨y26_1, y26_2⟩ ⟨y26_1r, y26_2r⟩ ⟨ey26_1, ly26_1, uy26_2, vI_y26_2⟩
                  obtain rfl : y26_1 = y26_1r := ey26_1
                  have ly26_1 : 1 ≤ y26_1.toInt ∧ y26_1.toInt ≤ 3 := ly26_1
                  have iy26_1 : TI y26_1 y26_1.toInt := rfl
                  have uy26_2 : Up mu 144 s9_2 s9_2r y26_2 y26_2r := uy26_2
                  have ty26_2 := cx_up ts9_2 uy26_2
                  have wU_y26_2 := wg_up uy26_2 vU_s9_2
                  have wV_y26_2 := wg_up uy26_2 vV_s9_2
                  have vI_y26_2 : WG mu y26_2 y26_2r c4 (1) (3) (fun j => a5 + 64 * (j - 1) + s9_1.toInt / 8 * 8 + s9_1.toInt % 8) := vI_y26_2
                  refine rl_ltI (av_add is9_1 tn_1 (by omega) (by omega)) (fun x29 ix29 => ?_)
                  exact rl_inl ⟨rfl, (ti_bd ix29 (by omega) (by omega)), (up_tr us9_2 uy26_2), (by exact wg_ex2 wU_y26_2 (wg_at vI_y26_2 1 (by omega) (by omega) (by (try dsimp only) <;> omega)) (by have q2 : _ = _ := ix29; (try dsimp only) <;> omega)), (by exact wg_ex2 wV_y26_2 (wg_at vI_y26_2 2 (by omega) (by omega) (by (try dsimp only) <;> omega)) (by have q2 : _ = _ := ix29; (try dsimp only) <;> omega))⟩
    · exact ⟨rfl, (ti_bd tn_0 (by omega) (by omega)), (up_0 mu (κ := 144) _ _), (wg_0 (by have q : _ = _ := tn_0; (try dsimp only) <;> omega)), (wg_0 (by have q : _ = _ := tn_0; (try dsimp only) <;> omega))⟩
    · rintro ⟨y8_1, y8_2⟩ ⟨y8_1r, y8_2r⟩ ⟨ey8_1, ly8_1, uy8_2, vU_y8_2, vV_y8_2⟩
      obtain rfl : y8_1 = y8_1r := ey8_1
      have ly8_1 : 0 ≤ y8_1.toInt ∧ y8_1.toInt ≤ (8 * 8) := ly8_1
      have iy8_1 : TI y8_1 y8_1.toInt := rfl
      have uy8_2 : Up mu 144 M N y8_2 y8_2r := uy8_2
      have ty8_2 := cx_up t uy8_2
      have vU_y8_2 : WG mu y8_2 y8_2r c4 (0) (8 * 8) (fun j => a5 + j / 8 * 8 + j % 8) := vU_y8_2
      have vV_y8_2 : WG mu y8_2 y8_2r c4 (0) (8 * 8) (fun j => a5 + 64 + j / 8 * 8 + j % 8) := vV_y8_2
      exact rl_some ⟨uy8_2, vU_y8_2, vV_y8_2⟩
