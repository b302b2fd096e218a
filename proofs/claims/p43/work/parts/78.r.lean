/-! two runs in lockstep, printed out of the functions' trees -/
theorem r_pieceX {mu : Nat → Nat} {G H : GG} {M N : DD} {p : Nat} {L : List Nat} (t : CX mu G H M N p L) {p0 : Int32} {a0 : Int} (i0 : TI p0 a0) (h0 : 0 ≤ a0) (h1 : a0 ≤ 16) : LKS (FX9_pieceX G M p0) (FX9_pieceX H N p0) (fun y z => Up mu 144 M N y.1 z.1 ∧ y.2 = z.2 ∧ TI y.2 (8 * (a0 / 4 % 2) + 4 * (a0 % 2))) := by
  unfold FX9_pieceX
  refine rl_ltI (av_div i0 tn_4 (by omega) (by omega)) (fun x1 ix1 => ?_)
  refine rl_ltI (av_mod ix1 tn_2 (by omega) (by omega)) (fun x2 ix2 => ?_)
  refine rl_ltI (av_mul tn_8 ix2 (by omega) (by omega)) (fun x3 ix3 => ?_)
  refine rl_ltI (av_mod i0 tn_2 (by omega) (by omega)) (fun x4 ix4 => ?_)
  refine rl_ltI (av_mul tn_4 ix4 (by omega) (by omega)) (fun x5 ix5 => ?_)
  refine rl_ltI (av_add ix3 ix5 (by omega) (by omega)) (fun x6 ix6 => ?_)
  exact rl_some ⟨(up_0 mu (κ := 144) _ _), rfl, (ix6)⟩
theorem r_pieceY {mu : Nat → Nat} {G H : GG} {M N : DD} {p : Nat} {L : List Nat} (t : CX mu G H M N p L) {p0 : Int32} {a0 : Int} (i0 : TI p0 a0) (h0 : 0 ≤ a0) (h1 : a0 ≤ 16) : LKS (FX9_pieceY G M p0) (FX9_pieceY H N p0) (fun y z => Up mu 144 M N y.1 z.1 ∧ y.2 = z.2 ∧ TI y.2 (8 * (a0 / 8) + 4 * (a0 / 2 % 2))) := by
  unfold FX9_pieceY
  refine rl_ltI (av_div i0 tn_8 (by omega) (by omega)) (fun x1 ix1 => ?_)
  refine rl_ltI (av_mul tn_8 ix1 (by omega) (by omega)) (fun x2 ix2 => ?_)
  refine rl_ltI (av_div i0 tn_2 (by omega) (by omega)) (fun x3 ix3 => ?_)
  refine rl_ltI (av_mod ix3 tn_2 (by omega) (by omega)) (fun x4 ix4 => ?_)
  refine rl_ltI (av_mul tn_4 ix4 (by omega) (by omega)) (fun x5 ix5 => ?_)
  refine rl_ltI (av_add ix2 ix5 (by omega) (by omega)) (fun x6 ix6 => ?_)
  exact rl_some ⟨(up_0 mu (κ := 144) _ _), rfl, (ix6)⟩
theorem r_levelAt {mu : Nat → Nat} {G H : GG} {M N : DD} {p : Nat} {L : List Nat} (t : CX mu G H M N p L) {p0 : Int32} {p1 : Int32} : LKS (FX9_levelAt G M p0 p1) (FX9_levelAt H N p0 p1) (fun y z => Up mu 144 M N y.1 z.1 ∧ y.2 = z.2) := by
  unfold FX9_levelAt
  refine rl_ltA (fun x1 => ?_)
  refine rl_ltA (fun x2 => ?_)
  refine rl_ltA (fun x3 => ?_)
  exact rl_some ⟨(up_0 mu (κ := 144) _ _), rfl⟩
theorem r_at {mu : Nat → Nat} {G H : GG} {M N : DD} {p : Nat} {L : List Nat} (t : CX mu G H M N p L) {p0 : Int32} {p1 : Int32} : LKS (FX4_at G M p0 p1) (FX4_at H N p0 p1) (fun y z => Up mu 144 M N y.1 z.1 ∧ y.2 = z.2) := by
  unfold FX4_at
  refine rl_ltA (fun x1 => ?_)
  refine rl_ltA (fun x2 => ?_)
  exact rl_some ⟨(up_0 mu (κ := 144) _ _), rfl⟩
theorem r_blocks {mu : Nat → Nat} {G H : GG} {M N : DD} {p : Nat} {L : List Nat} (t : CX mu G H M N p L) {q : Nat} (hq : q ∈ L) : LKS (FX4_blocks G M q) (FX4_blocks H N (mu q)) (fun y z => Up mu 144 M N y.1 z.1 ∧ y.2 = z.2) := by
  unfold FX4_blocks
  refine rl_rd (cx_q (j := 0) (k := 1) t hq rfl) (fun x1 => ?_)
  refine rl_rd (cx_q (j := 0) (k := 2) t hq rfl) (fun x2 => ?_)
  refine rl_ltA (fun x3 => ?_)
  exact rl_some ⟨(up_0 mu (κ := 144) _ _), rfl⟩
theorem r_lumaAt {mu : Nat → Nat} {G H : GG} {M N : DD} {p : Nat} {L : List Nat} (t : CX mu G H M N p L) {p0 p0r : Option Nat} {q0 : Nat} (e0 : p0 = some q0 ∧ p0r = some (mu q0)) (hq0 : q0 ∈ L) {p1 : Int32} {p2 : Int32} {p3 : Int32} : LKS (FX6_lumaAt G M p0 p1 p2 p3) (FX6_lumaAt H N p0r p1 p2 p3) (fun y z => Up mu 144 M N y.1 z.1 ∧ y.2 = z.2) := by
  unfold FX6_lumaAt
  obtain ⟨rfl, rfl⟩ := e0
  refine rl_dr (cx_U t) ⟨rfl, rfl⟩ (fun gb1 => ?_)
  refine rl_rd (cx_q (j := 0) (k := 1) t hq0 rfl) (fun x2 => ?_)
  refine rl_chk (fun h => h) (fun k1 => ?_)
  refine rl_ltA (fun x3 => ?_)
  refine rl_ltA (fun x4 => ?_)
  refine rl_ltA (fun x5 => ?_)
  refine rl_ltA (fun x6 => ?_)
  refine rl_rd (cx_q (j := 0) (k := 1) t hq0 rfl) (fun x7 => ?_)
  refine rl_ltA (fun x8 => ?_)
  refine rl_rd (cx_q (j := 0) (k := 1) t hq0 rfl) (fun x9 => ?_)
  refine rl_chk (fun h => h) (fun k2 => ?_)
  refine rl_ltA (fun x10 => ?_)
  refine rl_ltA (fun x11 => ?_)
  refine rl_ltA (fun x12 => ?_)
  refine rl_ltA (fun x13 => ?_)
  exact rl_some ⟨(up_0 mu (κ := 144) _ _), rfl⟩
theorem r_colourAt {mu : Nat → Nat} {G H : GG} {M N : DD} {p : Nat} {L : List Nat} (t : CX mu G H M N p L) {p0 p0r : Option Nat} {q0 : Nat} (e0 : p0 = some q0 ∧ p0r = some (mu q0)) (hq0 : q0 ∈ L) {p1 : Int32} {p2 : Int32} {p3 : Int32} : LKS (FX6_colourAt G M p0 p1 p2 p3) (FX6_colourAt H N p0r p1 p2 p3) (fun y z => Up mu 144 M N y.1 z.1 ∧ y.2 = z.2) := by
  unfold FX6_colourAt
  obtain ⟨rfl, rfl⟩ := e0
  refine rl_dr (cx_U t) ⟨rfl, rfl⟩ (fun gb1 => ?_)
  refine rl_rd (cx_q (j := 0) (k := 1) t hq0 rfl) (fun x2 => ?_)
  refine rl_chk (fun h => h) (fun k1 => ?_)
  refine rl_ltA (fun x3 => ?_)
  refine rl_ltA (fun x4 => ?_)
  refine rl_ltA (fun x5 => ?_)
  refine rl_ltA (fun x6 => ?_)
  refine rl_rd (cx_q (j := 0) (k := 1) t hq0 rfl) (fun x7 => ?_)
  refine rl_ltA (fun x8 => ?_)
  refine rl_rd (cx_q (j := 0) (k := 1) t hq0 rfl) (fun x9 => ?_)
  refine rl_chk (fun h => h) (fun k2 => ?_)
  refine rl_ltA (fun x10 => ?_)
  refine rl_ltA (fun x11 => ?_)
  refine rl_ltA (fun x12 => ?_)
  refine rl_ltA (fun x13 => ?_)
  exact rl_some ⟨(up_0 mu (κ := 144) _ _), rfl⟩
theorem r_clip {mu : Nat → Nat} {G H : GG} {M N : DD} {p : Nat} {L : List Nat} (t : CX mu G H M N p L) {p0 : Int32} : LKS (FX11_clip G M p0) (FX11_clip H N p0) (fun y z => Up mu 144 M N y.1 z.1 ∧ y.2 = z.2) := by
  unfold FX11_clip
  refine rl_bnd (Q := fun (y z : Int32) => y = z ∧ (0 ≤ y.toInt ∧ y.toInt ≤ 255)) ?_ ?_
  · refine rl_if (fun c1 => ?_) (fun c1 => ?_)
    · have dc1 := tl_le tn_0 (rfl : TI p0 p0.toInt) c1
      refine rl_bnd (Q := fun (y z : Int32) => y = z ∧ (0 ≤ y.toInt ∧ y.toInt ≤ 255)) ?_ ?_
      · refine rl_if (fun c2 => ?_) (fun c2 => ?_)
        · have dc2 := tl_le (rfl : TI p0 p0.toInt) tn_255 c2
          exact rl_some ⟨rfl, (ti_bd (rfl : TI p0 p0.toInt) (by omega) (by omega))⟩
        · have dc2 := tl_nle (rfl : TI p0 p0.toInt) tn_255 c2
          exact rl_some ⟨rfl, (ti_bd tn_255 (by omega) (by omega))⟩
      · rintro y3 y3r ⟨ey3, ly3⟩
        obtain rfl : y3 = y3r := ey3
        have ly3 : 0 ≤ y3.toInt ∧ y3.toInt ≤ 255 := ly3
        have iy3 : TI y3 y3.toInt := rfl
        exact rl_some ⟨rfl, (ti_bd iy3 (by omega) (by omega))⟩
    · have dc1 := tl_nle tn_0 (rfl : TI p0 p0.toInt) c1
      exact rl_some ⟨rfl, (ti_bd tn_0 (by omega) (by omega))⟩
  · rintro y1 y1r ⟨ey1, ly1⟩
    obtain rfl : y1 = y1r := ey1
    have ly1 : 0 ≤ y1.toInt ∧ y1.toInt ≤ 255 := ly1
    have iy1 : TI y1 y1.toInt := rfl
    exact rl_some ⟨(up_0 mu (κ := 144) _ _), rfl⟩
theorem r_clamp {mu : Nat → Nat} {G H : GG} {M N : DD} {p : Nat} {L : List Nat} (t : CX mu G H M N p L) {p0 : Int32} {p1 : Int32} {p2 : Int32} : LKS (FX11_clamp G M p0 p1 p2) (FX11_clamp H N p0 p1 p2) (fun y z => Up mu 144 M N y.1 z.1 ∧ y.2 = z.2) := by
  unfold FX11_clamp
  refine rl_bnd (Q := fun (y z : Int32) => y = z) ?_ ?_
  · refine rl_if (fun c1 => ?_) (fun c1 => ?_)
    · have dc1 := tl_le (rfl : TI p0 p0.toInt) (rfl : TI p2 p2.toInt) c1
      refine rl_bnd (Q := fun (y z : Int32) => y = z) ?_ ?_
      · refine rl_if (fun c2 => ?_) (fun c2 => ?_)
        · have dc2 := tl_le (rfl : TI p2 p2.toInt) (rfl : TI p1 p1.toInt) c2
          exact rl_some rfl
        · have dc2 := tl_nle (rfl : TI p2 p2.toInt) (rfl : TI p1 p1.toInt) c2
          exact rl_some rfl
      · rintro y3 y3r ey3
        obtain rfl : y3 = y3r := ey3
        exact rl_some rfl
    · have dc1 := tl_nle (rfl : TI p0 p0.toInt) (rfl : TI p2 p2.toInt) c1
      exact rl_some rfl
  · rintro y1 y1r ey1
    obtain rfl : y1 = y1r := ey1
    exact rl_some ⟨(up_0 mu (κ := 144) _ _), rfl⟩
theorem r_colourStep {mu : Nat → Nat} {G H : GG} {M N : DD} {p : Nat} {L : List Nat} (t : CX mu G H M N p L) {p0 : Int32} {p1 : Int32} : LKS (FX6_colourStep G M p0 p1) (FX6_colourStep H N p0 p1) (fun y z => Up mu 144 M N y.1 z.1 ∧ y.2 = z.2) := by
  unfold FX6_colourStep
  refine rl_ltA (fun x1 => ?_)
  refine rl_bnd (r_clamp t) ?_
  rintro ⟨y2_1, y2_2⟩ ⟨y2_1r, y2_2r⟩ ⟨uy2_1', ey2_2⟩
  have uy2_1 : Up mu 144 M N y2_1 y2_1r := uy2_1'
  have ty2_1 := cx_up t uy2_1
  obtain rfl : y2_2 = y2_2r := ey2_2
  refine rl_bnd (Q := fun (y z : Int32) => y = z) ?_ ?_
  · refine rl_if (fun c1 => ?_) (fun c1 => ?_)
    · have dc1 := tl_le tn_30 (rfl : TI y2_2 y2_2.toInt) c1
      refine rl_ltA (fun x5 => ?_)
      refine rl_chk (fun h => h) (fun _ => ?_)
      refine rl_ltB (tb_11 _) (fun x6 lx6 => ?_)
      have ix6 : TI x6 x6.toInt := rfl
      exact rl_some rfl
    · have dc1 := tl_nle tn_30 (rfl : TI y2_2 y2_2.toInt) c1
      exact rl_some rfl
  · rintro y3 y3r ey3
    obtain rfl : y3 = y3r := ey3
    exact rl_some ⟨uy2_1, rfl⟩
theorem r_normAt {mu : Nat → Nat} {G H : GG} {M N : DD} {p : Nat} {L : List Nat} (t : CX mu G H M N p L) {p0 : Int32} {p1 : Int32} {p2 : Int32} : LKS (FX6_normAt G M p0 p1 p2) (FX6_normAt H N p0 p1 p2) (fun y z => Up mu 144 M N y.1 z.1 ∧ y.2 = z.2) := by
  unfold FX6_normAt
  refine rl_ltE (fun x1 ex1 => ?_)
  have bx1 := av_modb (x := p0) tn_6 (by decide) (by decide)
  rw [← ex1] at bx1
  clear ex1
  have ix1 : TI x1 x1.toInt := rfl
  refine rl_ltI (av_mul tn_3 ix1 (by omega) (by omega)) (fun x2 ix2 => ?_)
  refine rl_ltA (fun x3 => ?_)
  refine rl_ltE (fun x4 ex4 => ?_)
  have bx4 := av_modb (x := x3) tn_2 (by decide) (by decide)
  rw [← ex4] at bx4
  clear ex4
  have ix4 : TI x4 x4.toInt := rfl
  refine rl_bnd (Q := fun (y z : Int32) => y = z ∧ (0 ≤ y.toInt ∧ y.toInt ≤ 2)) ?_ ?_
  · refine rl_if (fun c1 => ?_) (fun c1 => ?_)
    · have dc1 := tl_eq ix4 tn_0 c1
      exact rl_some ⟨rfl, (ti_bd tn_0 (by omega) (by omega))⟩
    · refine rl_ltA (fun x8 => ?_)
      refine rl_ltE (fun x9 ex9 => ?_)
      have bx9 := av_modb (x := x8) tn_2 (by decide) (by decide)
      rw [← ex9] at bx9
      clear ex9
      have ix9 : TI x9 x9.toInt := rfl
      refine rl_bnd (Q := fun (y z : Int32) => y = z ∧ (1 ≤ y.toInt ∧ y.toInt ≤ 2)) ?_ ?_
      · refine rl_if (fun c2 => ?_) (fun c2 => ?_)
        · have dc2 := tl_eq ix9 tn_1 c2
          exact rl_some ⟨rfl, (ti_bd tn_2 (by omega) (by omega))⟩
        · exact rl_some ⟨rfl, (ti_bd tn_1 (by omega) (by omega))⟩
      · rintro y10 y10r ⟨ey10, ly10⟩
        obtain rfl : y10 = y10r := ey10
        have ly10 : 1 ≤ y10.toInt ∧ y10.toInt ≤ 2 := ly10
        have iy10 : TI y10 y10.toInt := rfl
        exact rl_some ⟨rfl, (ti_bd iy10 (by omega) (by omega))⟩
  · rintro y5 y5r ⟨ey5, ly5⟩
    obtain rfl : y5 = y5r := ey5
    have ly5 : 0 ≤ y5.toInt ∧ y5.toInt ≤ 2 := ly5
    have iy5 : TI y5 y5.toInt := rfl
    refine rl_ltI (av_add ix2 iy5 (by omega) (by omega)) (fun x6 ix6 => ?_)
    exact rl_some ⟨(up_0 mu (κ := 144) _ _), rfl⟩
theorem r_weightAt {mu : Nat → Nat} {G H : GG} {M N : DD} {p : Nat} {L : List Nat} (t : CX mu G H M N p L) {p0 : Int32} {p1 : Int32} {p2 : Int32} : LKS (FX3_weightAt G M p0 p1 p2) (FX3_weightAt H N p0 p1 p2) (fun y z => Up mu 144 M N y.1 z.1 ∧ y.2 = z.2) := by
  unfold FX3_weightAt
  refine rl_ltA (fun x1 => ?_)
  refine rl_ltA (fun x2 => ?_)
  refine rl_ltA (fun x3 => ?_)
  refine rl_ltA (fun x4 => ?_)
  refine rl_ltA (fun x5 => ?_)
  exact rl_some ⟨(up_0 mu (κ := 144) _ _), rfl⟩
theorem r_timeBetween {mu : Nat → Nat} {G H : GG} {M N : DD} {p : Nat} {L : List Nat} (t : CX mu G H M N p L) {p0 : Int32} {p1 : Int32} : LKS (FX9_timeBetween G M p0 p1) (FX9_timeBetween H N p0 p1) (fun y z => Up mu 144 M N y.1 z.1 ∧ y.2 = z.2) := by
  unfold FX9_timeBetween
  refine rl_ltA (fun x1 => ?_)
  refine rl_bnd (Q := fun (y z : Int32) => y = z ∧ (-128 ≤ y.toInt ∧ y.toInt ≤ 127)) ?_ ?_
  · refine rl_if (fun c1 => ?_) (fun c1 => ?_)
    · have dc1 := tl_le tn_m128 (rfl : TI x1 x1.toInt) c1
      refine rl_bnd (Q := fun (y z : Int32) => y = z ∧ (-128 ≤ y.toInt ∧ y.toInt ≤ 127)) ?_ ?_
      · refine rl_if (fun c2 => ?_) (fun c2 => ?_)
        · have dc2 := tl_le (rfl : TI x1 x1.toInt) tn_127 c2
          exact rl_some ⟨rfl, (ti_bd (rfl : TI x1 x1.toInt) (by omega) (by omega))⟩
        · have dc2 := tl_nle (rfl : TI x1 x1.toInt) tn_127 c2
          exact rl_some ⟨rfl, (ti_bd tn_127 (by omega) (by omega))⟩
      · rintro y4 y4r ⟨ey4, ly4⟩
        obtain rfl : y4 = y4r := ey4
        have ly4 : -128 ≤ y4.toInt ∧ y4.toInt ≤ 127 := ly4
        have iy4 : TI y4 y4.toInt := rfl
        exact rl_some ⟨rfl, (ti_bd iy4 (by omega) (by omega))⟩
    · have dc1 := tl_nle tn_m128 (rfl : TI x1 x1.toInt) c1
      exact rl_some ⟨rfl, (ti_bd tn_m128 (by omega) (by omega))⟩
  · rintro y2 y2r ⟨ey2, ly2⟩
    obtain rfl : y2 = y2r := ey2
    have ly2 : -128 ≤ y2.toInt ∧ y2.toInt ≤ 127 := ly2
    have iy2 : TI y2 y2.toInt := rfl
    exact rl_some ⟨(up_0 mu (κ := 144) _ _), rfl⟩
theorem r_two {mu : Nat → Nat} {G H : GG} {M N : DD} {p : Nat} {L : List Nat} (t : CX mu G H M N p L) {p0 : Int32} {a0 : Int} (i0 : TI p0 a0) {p1 : Int32} {a1 : Int} (i1 : TI p1 a1) (h0 : 0 ≤ a0) (h1 : a0 ≤ 12) (h2 : 0 ≤ a1) (h3 : a1 ≤ 12) (hA : WG mu M N 147 0 13 (fun j => j)) : LKS (FX6_two G M 138 p0 p1) (FX6_two H N (mu 138) p0 p1) (fun y z => Up mu 144 M N y.1 z.1 ∧ y.2 = z.2) := by
  unfold FX6_two
  refine rl_dr (cx_U t) (rx_c (a := 138) (k := 8) (b := 147) t (Or.inr (Or.inl rfl)) rfl (by decide)) (fun gb1 => ?_)
  refine rl_chk (chkl (cx_U t) gb1) (fun k1 => ?_)
  refine rl_rd (wg_id hA i0 (by omega) (by omega)) (fun x2 => ?_)
  refine rl_chk (chkl (cx_U t) gb1) (fun k2 => ?_)
  refine rl_rd (wg_id hA i1 (by omega) (by omega)) (fun x3 => ?_)
  refine rl_ltA (fun x4 => ?_)
  refine rl_ltA (fun x5 => ?_)
  refine rl_ltA (fun x6 => ?_)
  exact rl_some ⟨(up_0 mu (κ := 144) _ _), rfl⟩
theorem r_three {mu : Nat → Nat} {G H : GG} {M N : DD} {p : Nat} {L : List Nat} (t : CX mu G H M N p L) {p0 : Int32} {a0 : Int} (i0 : TI p0 a0) {p1 : Int32} {a1 : Int} (i1 : TI p1 a1) {p2 : Int32} {a2 : Int} (i2 : TI p2 a2) (h0 : 0 ≤ a0) (h1 : a0 ≤ 12) (h2 : 0 ≤ a1) (h3 : a1 ≤ 12) (h4 : 0 ≤ a2) (h5 : a2 ≤ 12) (hA : WG mu M N 147 0 13 (fun j => j)) : LKS (FX6_three G M 138 p0 p1 p2) (FX6_three H N (mu 138) p0 p1 p2) (fun y z => Up mu 144 M N y.1 z.1 ∧ y.2 = z.2) := by
  unfold FX6_three
  refine rl_dr (cx_U t) (rx_c (a := 138) (k := 8) (b := 147) t (Or.inr (Or.inl rfl)) rfl (by decide)) (fun gb1 => ?_)
  refine rl_chk (chkl (cx_U t) gb1) (fun k1 => ?_)
  refine rl_rd (wg_id hA i0 (by omega) (by omega)) (fun x2 => ?_)
  refine rl_chk (chkl (cx_U t) gb1) (fun k2 => ?_)
  refine rl_rd (wg_id hA i1 (by omega) (by omega)) (fun x3 => ?_)
  refine rl_ltA (fun x4 => ?_)
  refine rl_ltA (fun x5 => ?_)
  refine rl_chk (chkl (cx_U t) gb1) (fun k3 => ?_)
  refine rl_rd (wg_id hA i2 (by omega) (by omega)) (fun x6 => ?_)
  refine rl_ltA (fun x7 => ?_)
  refine rl_ltA (fun x8 => ?_)
  refine rl_ltA (fun x9 => ?_)
  exact rl_some ⟨(up_0 mu (κ := 144) _ _), rfl⟩
theorem r_meanAround {mu : Nat → Nat} {G H : GG} {M N : DD} {p : Nat} {L : List Nat} (t : CX mu G H M N p L) {p0 : Int32} (hA : WG mu M N 147 0 13 (fun j => j)) : LKS (FX6_meanAround G M 138 p0) (FX6_meanAround H N (mu 138) p0) (fun y z => Up mu 144 M N y.1 z.1 ∧ y.2 = z.2) := by
  unfold FX6_meanAround
  refine rl_dr (cx_U t) (rx_c (a := 138) (k := 8) (b := 147) t (Or.inr (Or.inl rfl)) rfl (by decide)) (fun gb1 => ?_)
  refine rl_chk (chkl (cx_U t) gb1) (fun k1 => ?_)
  refine rl_rd (wg_at hA (0) (by omega) (by omega) rfl) (fun x2 => ?_)
  refine rl_chk (chkl (cx_U t) gb1) (fun k2 => ?_)
  refine rl_rd (wg_at hA (1) (by omega) (by omega) rfl) (fun x3 => ?_)
  refine rl_ltA (fun x4 => ?_)
  refine rl_chk (chkl (cx_U t) gb1) (fun k3 => ?_)
  refine rl_rd (wg_at hA (2) (by omega) (by omega) rfl) (fun x5 => ?_)
  refine rl_ltA (fun x6 => ?_)
  refine rl_chk (chkl (cx_U t) gb1) (fun k4 => ?_)
  refine rl_rd (wg_at hA (3) (by omega) (by omega) rfl) (fun x7 => ?_)
  refine rl_ltA (fun x8 => ?_)
  refine rl_chk (chkl (cx_U t) gb1) (fun k5 => ?_)
  refine rl_rd (wg_at hA (5) (by omega) (by omega) rfl) (fun x9 => ?_)
  refine rl_chk (chkl (cx_U t) gb1) (fun k6 => ?_)
  refine rl_rd (wg_at hA (6) (by omega) (by omega) rfl) (fun x10 => ?_)
  refine rl_ltA (fun x11 => ?_)
  refine rl_chk (chkl (cx_U t) gb1) (fun k7 => ?_)
  refine rl_rd (wg_at hA (7) (by omega) (by omega) rfl) (fun x12 => ?_)
  refine rl_ltA (fun x13 => ?_)
  refine rl_chk (chkl (cx_U t) gb1) (fun k8 => ?_)
  refine rl_rd (wg_at hA (8) (by omega) (by omega) rfl) (fun x14 => ?_)
  refine rl_ltA (fun x15 => ?_)
  refine rl_ltI (av_and 2 (rfl : TI p0 p0.toInt) (by decide) (by decide)) (fun x16 ix16 => ?_)
  refine rl_if (fun c9 => ?_) (fun c9 => ?_)
  · have dc9 := tl_eq ix16 tn_0 c9
    exact rl_some ⟨(up_0 mu (κ := 144) _ _), rfl⟩
  · refine rl_if (fun c10 => ?_) (fun c10 => ?_)
    · have dc10 := tl_eq ix16 tn_1 c10
      refine rl_ltA (fun x19 => ?_)
      refine rl_ltA (fun x20 => ?_)
      exact rl_some ⟨(up_0 mu (κ := 144) _ _), rfl⟩
    · refine rl_if (fun c11 => ?_) (fun c11 => ?_)
      · have dc11 := tl_eq ix16 tn_2 c11
        refine rl_ltA (fun x22 => ?_)
        refine rl_ltA (fun x23 => ?_)
        exact rl_some ⟨(up_0 mu (κ := 144) _ _), rfl⟩
      · refine rl_chk (fun h => h) (fun k12 => ?_)
        refine rl_ltA (fun x24 => ?_)
        refine rl_ltA (fun x25 => ?_)
        refine rl_ltA (fun x26 => ?_)
        exact rl_some ⟨(up_0 mu (κ := 144) _ _), rfl⟩
theorem r_slant {mu : Nat → Nat} {G H : GG} {M N : DD} {p : Nat} {L : List Nat} (t : CX mu G H M N p L) {p0 : Int32} {a0 : Int} (i0 : TI p0 a0) {p1 : Int32} {a1 : Int} (i1 : TI p1 a1) {p2 : Int32} {a2 : Int} (i2 : TI p2 a2) (h0 : 0 ≤ a0) (h1 : a0 ≤ 3) (h2 : 0 ≤ a1) (h3 : a1 ≤ 3) (h4 : a2 = 1 ∨ a2 = -1) (hA : WG mu M N 147 0 13 (fun j => j)) : LKS (FX6_slant G M 138 p0 p1 p2) (FX6_slant H N (mu 138) p0 p1 p2) (fun y z => Up mu 144 M N y.1 z.1 ∧ y.2 = z.2) := by
  unfold FX6_slant
  rcases h4 with rfl | rfl
  · refine rl_ltI (av_mul tn_2 i0 (by omega) (by omega)) (fun x1 ix1 => ?_)
    refine rl_ltI (av_sub ix1 i1 (by omega) (by omega)) (fun x2 ix2 => ?_)
    refine rl_ltI (av_sar 1 i1 (by decide)) (fun x3 ix3 => ?_)
    refine rl_ltI (av_sub i0 ix3 (by omega) (by omega)) (fun x4 ix4 => ?_)
    refine rl_if (fun c1 => ?_) (fun c1 => ?_)
    · have dc1 := tl_lt ix2 tn_0 c1
      refine rl_bnd (Q := fun (y z : Int32) => y = z ∧ (-2 ≤ y.toInt ∧ y.toInt ≤ 1)) ?_ ?_
      · refine rl_if (fun c2 => ?_) (fun c2 => ?_)
        · have dc2 := tl_le ix2 tn_0 c2
          refine rl_bnd (Q := fun (y z : Int32) => y = z ∧ (-2 ≤ y.toInt ∧ y.toInt ≤ 1)) ?_ ?_
          · refine rl_if (fun c3 => ?_) (fun c3 => ?_)
            · have dc3 := tl_eq ix2 tn_m1 c3
              exact rl_some ⟨rfl, (ti_bd tn_0 (by omega) (by omega))⟩
            · refine rl_ltI (av_sub tn_1 i1 (by omega) (by omega)) (fun x19 ix19 => ?_)
              exact rl_some ⟨rfl, (ti_bd ix19 (by omega) (by omega))⟩
          · rintro y17 y17r ⟨ey17, ly17⟩
            obtain rfl : y17 = y17r := ey17
            have ly17 : -2 ≤ y17.toInt ∧ y17.toInt ≤ 1 := ly17
            have iy17 : TI y17 y17.toInt := rfl
            exact rl_some ⟨rfl, (ti_bd iy17 (by omega) (by omega))⟩
        · have dc2 := tl_nle ix2 tn_0 c2
          exfalso
          omega
      · rintro y6 y6r ⟨ey6, ly6⟩
        obtain rfl : y6 = y6r := ey6
        have ly6 : -2 ≤ y6.toInt ∧ y6.toInt ≤ 1 := ly6
        have iy6 : TI y6 y6.toInt := rfl
        refine rl_ltI (av_sub iy6 tn_1 (by omega) (by omega)) (fun x7 ix7 => ?_)
        refine rl_ltI (av_mul i2 ix7 (by omega) (by omega)) (fun x8 ix8 => ?_)
        refine rl_ltI (av_add tn_4 ix8 (by omega) (by omega)) (fun x9 ix9 => ?_)
        refine rl_ltI (av_mul i2 iy6 (by omega) (by omega)) (fun x10 ix10 => ?_)
        refine rl_ltI (av_add tn_4 ix10 (by omega) (by omega)) (fun x11 ix11 => ?_)
        refine rl_ltI (av_add iy6 tn_1 (by omega) (by omega)) (fun x12 ix12 => ?_)
        refine rl_ltI (av_mul i2 ix12 (by omega) (by omega)) (fun x13 ix13 => ?_)
        refine rl_ltI (av_add tn_4 ix13 (by omega) (by omega)) (fun x14 ix14 => ?_)
        refine rl_bnd (r_three t ix9 ix11 ix14 (by omega) (by omega) (by omega) (by omega) (by omega) (by omega) hA) ?_
        rintro ⟨y15_1, y15_2⟩ ⟨y15_1r, y15_2r⟩ ⟨uy15_1', ey15_2⟩
        have uy15_1 : Up mu 144 M N y15_1 y15_1r := uy15_1'
        have ty15_1 := cx_up t uy15_1
        have wA_y15_1 := wg_up uy15_1 hA
        obtain rfl : y15_2 = y15_2r := ey15_2
        exact rl_some ⟨uy15_1, rfl⟩
    · have dc1 := tl_nlt ix2 tn_0 c1
      refine rl_ltI (av_mod ix2 tn_2 (by omega) (by omega)) (fun x20 ix20 => ?_)
      refine rl_if (fun c4 => ?_) (fun c4 => ?_)
      · have dc4 := tl_eq ix20 tn_0 c4
        refine rl_ltI (av_mul i2 ix4 (by omega) (by omega)) (fun x36 ix36 => ?_)
        refine rl_ltI (av_add tn_4 ix36 (by omega) (by omega)) (fun x37 ix37 => ?_)
        refine rl_ltI (av_add ix4 tn_1 (by omega) (by omega)) (fun x38 ix38 => ?_)
        refine rl_ltI (av_mul i2 ix38 (by omega) (by omega)) (fun x39 ix39 => ?_)
        refine rl_ltI (av_add tn_4 ix39 (by omega) (by omega)) (fun x40 ix40 => ?_)
        refine rl_bnd (r_two t ix37 ix40 (by omega) (by omega) (by omega) (by omega) hA) ?_
        rintro ⟨y41_1, y41_2⟩ ⟨y41_1r, y41_2r⟩ ⟨uy41_1', ey41_2⟩
        have uy41_1 : Up mu 144 M N y41_1 y41_1r := uy41_1'
        have ty41_1 := cx_up t uy41_1
        have wA_y41_1 := wg_up uy41_1 hA
        obtain rfl : y41_2 = y41_2r := ey41_2
        exact rl_some ⟨uy41_1, rfl⟩
      · refine rl_bnd (Q := fun (y z : Int32) => y = z ∧ (-2 ≤ y.toInt ∧ y.toInt ≤ 3)) ?_ ?_
        · refine rl_if (fun c5 => ?_) (fun c5 => ?_)
          · have dc5 := tl_le ix2 tn_0 c5
            refine rl_bnd (Q := fun (y z : Int32) => y = z ∧ (-2 ≤ y.toInt ∧ y.toInt ≤ 1)) ?_ ?_
            · refine rl_if (fun c6 => ?_) (fun c6 => ?_)
              · have dc6 := tl_eq ix2 tn_m1 c6
                exfalso
                omega
              · refine rl_ltI (av_sub tn_1 i1 (by omega) (by omega)) (fun x35 ix35 => ?_)
                exact rl_some ⟨rfl, (ti_bd ix35 (by omega) (by omega))⟩
            · rintro y33 y33r ⟨ey33, ly33⟩
              obtain rfl : y33 = y33r := ey33
              have ly33 : -2 ≤ y33.toInt ∧ y33.toInt ≤ 1 := ly33
              have iy33 : TI y33 y33.toInt := rfl
              exact rl_some ⟨rfl, (ti_bd iy33 (by omega) (by omega))⟩
          · have dc5 := tl_nle ix2 tn_0 c5
            exact rl_some ⟨rfl, (ti_bd ix4 (by omega) (by omega))⟩
        · rintro y22 y22r ⟨ey22, ly22⟩
          obtain rfl : y22 = y22r := ey22
          have ly22 : -2 ≤ y22.toInt ∧ y22.toInt ≤ 3 := ly22
          have iy22 : TI y22 y22.toInt := rfl
          refine rl_ltI (av_sub iy22 tn_1 (by omega) (by omega)) (fun x23 ix23 => ?_)
          refine rl_ltI (av_mul i2 ix23 (by omega) (by omega)) (fun x24 ix24 => ?_)
          refine rl_ltI (av_add tn_4 ix24 (by omega) (by omega)) (fun x25 ix25 => ?_)
          refine rl_ltI (av_mul i2 iy22 (by omega) (by omega)) (fun x26 ix26 => ?_)
          refine rl_ltI (av_add tn_4 ix26 (by omega) (by omega)) (fun x27 ix27 => ?_)
          refine rl_ltI (av_add iy22 tn_1 (by omega) (by omega)) (fun x28 ix28 => ?_)
          refine rl_ltI (av_mul i2 ix28 (by omega) (by omega)) (fun x29 ix29 => ?_)
          refine rl_ltI (av_add tn_4 ix29 (by omega) (by omega)) (fun x30 ix30 => ?_)
          refine rl_bnd (r_three t ix25 ix27 ix30 (by omega) (by omega) (by omega) (by omega) (by omega) (by omega) hA) ?_
          rintro ⟨y31_1, y31_2⟩ ⟨y31_1r, y31_2r⟩ ⟨uy31_1', ey31_2⟩
          have uy31_1 : Up mu 144 M N y31_1 y31_1r := uy31_1'
          have ty31_1 := cx_up t uy31_1
          have wA_y31_1 := wg_up uy31_1 hA
          obtain rfl : y31_2 = y31_2r := ey31_2
          exact rl_some ⟨uy31_1, rfl⟩
  · refine rl_ltI (av_mul tn_2 i0 (by omega) (by omega)) (fun x1 ix1 => ?_)
    refine rl_ltI (av_sub ix1 i1 (by omega) (by omega)) (fun x2 ix2 => ?_)
    refine rl_ltI (av_sar 1 i1 (by decide)) (fun x3 ix3 => ?_)
    refine rl_ltI (av_sub i0 ix3 (by omega) (by omega)) (fun x4 ix4 => ?_)
    refine rl_if (fun c1 => ?_) (fun c1 => ?_)
    · have dc1 := tl_lt ix2 tn_0 c1
      refine rl_bnd (Q := fun (y z : Int32) => y = z ∧ (-2 ≤ y.toInt ∧ y.toInt ≤ 1)) ?_ ?_
      · refine rl_if (fun c2 => ?_) (fun c2 => ?_)
        · have dc2 := tl_le ix2 tn_0 c2
          refine rl_bnd (Q := fun (y z : Int32) => y = z ∧ (-2 ≤ y.toInt ∧ y.toInt ≤ 1)) ?_ ?_
          · refine rl_if (fun c3 => ?_) (fun c3 => ?_)
            · have dc3 := tl_eq ix2 tn_m1 c3
              exact rl_some ⟨rfl, (ti_bd tn_0 (by omega) (by omega))⟩
            · refine rl_ltI (av_sub tn_1 i1 (by omega) (by omega)) (fun x19 ix19 => ?_)
              exact rl_some ⟨rfl, (ti_bd ix19 (by omega) (by omega))⟩
          · rintro y17 y17r ⟨ey17, ly17⟩
            obtain rfl : y17 = y17r := ey17
            have ly17 : -2 ≤ y17.toInt ∧ y17.toInt ≤ 1 := ly17
            have iy17 : TI y17 y17.toInt := rfl
            exact rl_some ⟨rfl, (ti_bd iy17 (by omega) (by omega))⟩
        · have dc2 := tl_nle ix2 tn_0 c2
          exfalso
          omega
      · rintro y6 y6r ⟨ey6, ly6⟩
        obtain rfl : y6 = y6r := ey6
        have ly6 : -2 ≤ y6.toInt ∧ y6.toInt ≤ 1 := ly6
        have iy6 : TI y6 y6.toInt := rfl
        refine rl_ltI (av_sub iy6 tn_1 (by omega) (by omega)) (fun x7 ix7 => ?_)
        refine rl_ltI (av_mul i2 ix7 (by omega) (by omega)) (fun x8 ix8 => ?_)
        refine rl_ltI (av_add tn_4 ix8 (by omega) (by omega)) (fun x9 ix9 => ?_)
        refine rl_ltI (av_mul i2 iy6 (by omega) (by omega)) (fun x10 ix10 => ?_)
        refine rl_ltI (av_add tn_4 ix10 (by omega) (by omega)) (fun x11 ix11 => ?_)
        refine rl_ltI (av_add iy6 tn_1 (by omega) (by omega)) (fun x12 ix12 => ?_)
        refine rl_ltI (av_mul i2 ix12 (by omega) (by omega)) (fun x13 ix13 => ?_)
        refine rl_ltI (av_add tn_4 ix13 (by omega) (by omega)) (fun x14 ix14 => ?_)
        refine rl_bnd (r_three t ix9 ix11 ix14 (by omega) (by omega) (by omega) (by omega) (by omega) (by omega) hA) ?_
        rintro ⟨y15_1, y15_2⟩ ⟨y15_1r, y15_2r⟩ ⟨uy15_1', ey15_2⟩
        have uy15_1 : Up mu 144 M N y15_1 y15_1r := uy15_1'
        have ty15_1 := cx_up t uy15_1
        have wA_y15_1 := wg_up uy15_1 hA
        obtain rfl : y15_2 = y15_2r := ey15_2
        exact rl_some ⟨uy15_1, rfl⟩
    · have dc1 := tl_nlt ix2 tn_0 c1
      refine rl_ltI (av_mod ix2 tn_2 (by omega) (by omega)) (fun x20 ix20 => ?_)
      refine rl_if (fun c4 => ?_) (fun c4 => ?_)
      · have dc4 := tl_eq ix20 tn_0 c4
        refine rl_ltI (av_mul i2 ix4 (by omega) (by omega)) (fun x36 ix36 => ?_)
        refine rl_ltI (av_add tn_4 ix36 (by omega) (by omega)) (fun x37 ix37 => ?_)
        refine rl_ltI (av_add ix4 tn_1 (by omega) (by omega)) (fun x38 ix38 => ?_)
        refine rl_ltI (av_mul i2 ix38 (by omega) (by omega)) (fun x39 ix39 => ?_)
        refine rl_ltI (av_add tn_4 ix39 (by omega) (by omega)) (fun x40 ix40 => ?_)
        refine rl_bnd (r_two t ix37 ix40 (by omega) (by omega) (by omega) (by omega) hA) ?_
        rintro ⟨y41_1, y41_2⟩ ⟨y41_1r, y41_2r⟩ ⟨uy41_1', ey41_2⟩
        have uy41_1 : Up mu 144 M N y41_1 y41_1r := uy41_1'
        have ty41_1 := cx_up t uy41_1
        have wA_y41_1 := wg_up uy41_1 hA
        obtain rfl : y41_2 = y41_2r := ey41_2
        exact rl_some ⟨uy41_1, rfl⟩
      · refine rl_bnd (Q := fun (y z : Int32) => y = z ∧ (-2 ≤ y.toInt ∧ y.toInt ≤ 3)) ?_ ?_
        · refine rl_if (fun c5 => ?_) (fun c5 => ?_)
          · have dc5 := tl_le ix2 tn_0 c5
            refine rl_bnd (Q := fun (y z : Int32) => y = z ∧ (-2 ≤ y.toInt ∧ y.toInt ≤ 1)) ?_ ?_
            · refine rl_if (fun c6 => ?_) (fun c6 => ?_)
              · have dc6 := tl_eq ix2 tn_m1 c6
                exfalso
                omega
              · refine rl_ltI (av_sub tn_1 i1 (by omega) (by omega)) (fun x35 ix35 => ?_)
                exact rl_some ⟨rfl, (ti_bd ix35 (by omega) (by omega))⟩
            · rintro y33 y33r ⟨ey33, ly33⟩
              obtain rfl : y33 = y33r := ey33
              have ly33 : -2 ≤ y33.toInt ∧ y33.toInt ≤ 1 := ly33
              have iy33 : TI y33 y33.toInt := rfl
              exact rl_some ⟨rfl, (ti_bd iy33 (by omega) (by omega))⟩
          · have dc5 := tl_nle ix2 tn_0 c5
            exact rl_some ⟨rfl, (ti_bd ix4 (by omega) (by omega))⟩
        · rintro y22 y22r ⟨ey22, ly22⟩
          obtain rfl : y22 = y22r := ey22
          have ly22 : -2 ≤ y22.toInt ∧ y22.toInt ≤ 3 := ly22
          have iy22 : TI y22 y22.toInt := rfl
          refine rl_ltI (av_sub iy22 tn_1 (by omega) (by omega)) (fun x23 ix23 => ?_)
          refine rl_ltI (av_mul i2 ix23 (by omega) (by omega)) (fun x24 ix24 => ?_)
          refine rl_ltI (av_add tn_4 ix24 (by omega) (by omega)) (fun x25 ix25 => ?_)
          refine rl_ltI (av_mul i2 iy22 (by omega) (by omega)) (fun x26 ix26 => ?_)
          refine rl_ltI (av_add tn_4 ix26 (by omega) (by omega)) (fun x27 ix27 => ?_)
          refine rl_ltI (av_add iy22 tn_1 (by omega) (by omega)) (fun x28 ix28 => ?_)
          refine rl_ltI (av_mul i2 ix28 (by omega) (by omega)) (fun x29 ix29 => ?_)
          refine rl_ltI (av_add tn_4 ix29 (by omega) (by omega)) (fun x30 ix30 => ?_)
          refine rl_bnd (r_three t ix25 ix27 ix30 (by omega) (by omega) (by omega) (by omega) (by omega) (by omega) hA) ?_
          rintro ⟨y31_1, y31_2⟩ ⟨y31_1r, y31_2r⟩ ⟨uy31_1', ey31_2⟩
          have uy31_1 : Up mu 144 M N y31_1 y31_1r := uy31_1'
          have ty31_1 := cx_up t uy31_1
          have wA_y31_1 := wg_up uy31_1 hA
          obtain rfl : y31_2 = y31_2r := ey31_2
          exact rl_some ⟨uy31_1, rfl⟩
theorem r_sumAround {mu : Nat → Nat} {G H : GG} {M N : DD} {p : Nat} {L : List Nat} (t : CX mu G H M N p L) {p0 : Int32} {a0 : Int} (i0 : TI p0 a0) {p1 : Int32} {a1 : Int} (i1 : TI p1 a1) (h0 : 0 ≤ a0) (h1 : 0 ≤ a1) (h2 : a0 + a1 ≤ 34) (hA : WG mu M N 147 a0 (a0 + a1) (fun j => j)) : LKS (FX6_sumAround G M 138 p0 p1) (FX6_sumAround H N (mu 138) p0 p1) (fun y z => Up mu 144 M N y.1 z.1 ∧ y.2 = z.2) := by
  unfold FX6_sumAround
  have k0p0 : p0.toInt = _ := i0
  refine rl_bnd (Q := fun (y z : Int32 × Int32) => y.1 = z.1 ∧ y.2 = z.2 ∧ (p0.toInt ≤ y.2.toInt ∧ y.2.toInt ≤ (a0 + a1))) (rl_itr (fun (y z : Int32 × Int32) => y.1 = z.1 ∧ y.2 = z.2 ∧ (p0.toInt ≤ y.2.toInt ∧ y.2.toInt ≤ (a0 + a1))) _ ?_ _ _ _ ?_) ?_
  · rintro ⟨s2_1, s2_2⟩ ⟨s2_1r, s2_2r⟩ ⟨es2_1, es2_2, ls2_2⟩
    obtain rfl : s2_1 = s2_1r := es2_1
    obtain rfl : s2_2 = s2_2r := es2_2
    have ls2_2 : p0.toInt ≤ s2_2.toInt ∧ s2_2.toInt ≤ (a0 + a1) := ls2_2
    have is2_2 : TI s2_2 s2_2.toInt := rfl
    refine rl_ltI (av_add i0 i1 (by omega) (by omega)) (fun x5 ix5 => ?_)
    refine rl_if (fun c1 => ?_) (fun c1 => ?_)
    · have dc1 := tl_le ix5 is2_2 c1
      exact rl_inr ⟨rfl, rfl, (ti_bd is2_2 (by omega) (by omega))⟩
    · have dc1 := tl_nle ix5 is2_2 c1
      refine rl_dr (cx_U t) (rx_c (a := 138) (k := 8) (b := 147) t (Or.inr (Or.inl rfl)) rfl (by decide)) (fun gb7 => ?_)
      refine rl_chk (chkl (cx_U t) gb7) (fun k2 => ?_)
      refine rl_rd (wg_id hA is2_2 (by omega) (by omega)) (fun x8 => ?_)
      refine rl_ltA (fun x9 => ?_)
      refine rl_ltI (av_add is2_2 tn_1 (by omega) (by omega)) (fun x10 ix10 => ?_)
      exact rl_inl ⟨rfl, rfl, (ti_bd ix10 (by omega) (by omega))⟩
  · exact ⟨rfl, rfl, (ti_bd i0 (by omega) (by omega))⟩
  · rintro ⟨y1_1, y1_2⟩ ⟨y1_1r, y1_2r⟩ ⟨ey1_1, ey1_2, ly1_2⟩
    obtain rfl : y1_1 = y1_1r := ey1_1
    obtain rfl : y1_2 = y1_2r := ey1_2
    have ly1_2 : p0.toInt ≤ y1_2.toInt ∧ y1_2.toInt ≤ (a0 + a1) := ly1_2
    have iy1_2 : TI y1_2 y1_2.toInt := rfl
    exact rl_some ⟨(up_0 mu (κ := 144) _ _), rfl⟩
theorem r_turnBack {mu : Nat → Nat} {G H : GG} {M N : DD} {p : Nat} {L : List Nat} (t : CX mu G H M N p L) {p0 : Int32} {p1 : Int32} (hR : RWH mu G M N 145) : LKS (FX6_turnBack G M 138 p0 p1) (FX6_turnBack H N (mu 138) p0 p1) (fun y z => Up mu 144 M N y z) := by
  unfold FX6_turnBack
  refine rl_bnd (Q := fun (y z : Int32 × DD) => y.1 = z.1 ∧ (0 ≤ y.1.toInt ∧ y.1.toInt ≤ 4) ∧ Up mu 144 M N y.2 z.2) (rl_itr (fun (y z : Int32 × DD) => y.1 = z.1 ∧ (0 ≤ y.1.toInt ∧ y.1.toInt ≤ 4) ∧ Up mu 144 M N y.2 z.2) _ ?_ _ _ _ ?_) ?_
  · rintro ⟨s2_1, s2_2⟩ ⟨s2_1r, s2_2r⟩ ⟨es2_1, ls2_1, us2_2⟩
    obtain rfl : s2_1 = s2_1r := es2_1
    have ls2_1 : 0 ≤ s2_1.toInt ∧ s2_1.toInt ≤ 4 := ls2_1
    have is2_1 : TI s2_1 s2_1.toInt := rfl
    have us2_2 : Up mu 144 M N s2_2 s2_2r := us2_2
    have ts2_2 := cx_up t us2_2
    have wR145_s2_2 := rw_up us2_2 hR
    refine rl_if (fun c1 => ?_) (fun c1 => ?_)
    · have dc1 := tl_le tn_4 is2_1 c1
      exact rl_inr ⟨rfl, (ti_bd is2_1 (by omega) (by omega)), us2_2⟩
    · have dc1 := tl_nle tn_4 is2_1 c1
      refine rl_ltA (fun x6 => ?_)
      refine rl_dr (cx_U ts2_2) (rx_c (a := 138) (k := 6) (b := 145) ts2_2 (Or.inr (Or.inl rfl)) rfl (by decide)) (fun gb7 => ?_)
      refine rl_chk (chkl (cx_U ts2_2) gb7) (fun k2 => ?_)
      refine rl_rd (rw_use wR145_s2_2 k2) (fun x8 => ?_)
      refine rl_ltA (fun x9 => ?_)
      refine rl_ltA (fun x10 => ?_)
      refine rl_chk (chkl (cx_U ts2_2) gb7) (fun k3 => ?_)
      refine rl_rd (rw_use wR145_s2_2 k3) (fun x11 => ?_)
      refine rl_ltA (fun x12 => ?_)
      refine rl_chk (chkl (cx_U ts2_2) gb7) (fun k4 => ?_)
      refine rl_rd (rw_use wR145_s2_2 k4) (fun x13 => ?_)
      refine rl_ltA (fun x14 => ?_)
      refine rl_ltA (fun x15 => ?_)
      refine rl_chk (chkl (cx_U ts2_2) gb7) (fun k5 => ?_)
      refine rl_rd (rw_use wR145_s2_2 k5) (fun x16 => ?_)
      refine rl_ltA (fun x17 => ?_)
      refine rl_ltA (fun x18 => ?_)
      refine rl_chk (chkl (cx_U ts2_2) gb7) (fun k6 => ?_)
      refine rl_rd (rw_use wR145_s2_2 k6) (fun x19 => ?_)
      refine rl_ltA (fun x20 => ?_)
      refine rl_ltA (fun x21 => ?_)
      refine rl_ltA (fun x22 => ?_)
      refine rl_chk (chkl (cx_U ts2_2) gb7) (fun k7 => ?_)
      refine rl_rd (rw_use wR145_s2_2 k7) (fun x23 => ?_)
      refine rl_ltA (fun x24 => ?_)
      refine rl_ltA (fun x25 => ?_)
      refine rl_chk (chkl (cx_U ts2_2) gb7) (fun k8 => ?_)
      refine rl_rd (rw_use wR145_s2_2 k8) (fun x26 => ?_)
      refine rl_ltA (fun x27 => ?_)
      refine rl_ltA (fun x28 => ?_)
      refine rl_chk (chkl (cx_U ts2_2) gb7) (fun k9 => ?_)
      refine rl_rd (rw_use wR145_s2_2 k9) (fun x29 => ?_)
      refine rl_ltA (fun x30 => ?_)
      refine rl_ltA (fun x31 => ?_)
      refine rl_ltA (fun x32 => ?_)
      refine rl_chk (chkl (cx_U ts2_2) gb7) (fun k10 => ?_)
      refine rl_w (κ := 144) (cx_U ts2_2) (by decide) (fun M33 M33r uM33 AM33 nM33 => ?_)
      have tM33 := cx_up ts2_2 uM33
      have wR145_M33 := rw_up uM33 wR145_s2_2
      refine rl_ltA (fun x34 => ?_)
      refine rl_ltA (fun x35 => ?_)
      refine rl_dr (cx_U tM33) (rx_c (a := 138) (k := 6) (b := 145) tM33 (Or.inr (Or.inl rfl)) rfl (by decide)) (fun gb36 => ?_)
      refine rl_chk (chkl (cx_U tM33) gb36) (fun k11 => ?_)
      refine rl_w (κ := 144) (cx_U tM33) (by decide) (fun M37 M37r uM37 AM37 nM37 => ?_)
      have tM37 := cx_up tM33 uM37
      have wR145_M37 := rw_up uM37 wR145_M33
      refine rl_ltA (fun x38 => ?_)
      refine rl_ltA (fun x39 => ?_)
      refine rl_ltA (fun x40 => ?_)
      refine rl_dr (cx_U tM37) (rx_c (a := 138) (k := 6) (b := 145) tM37 (Or.inr (Or.inl rfl)) rfl (by decide)) (fun gb41 => ?_)
      refine rl_chk (chkl (cx_U tM37) gb41) (fun k12 => ?_)
      refine rl_w (κ := 144) (cx_U tM37) (by decide) (fun M42 M42r uM42 AM42 nM42 => ?_)
      have tM42 := cx_up tM37 uM42
      have wR145_M42 := rw_up uM42 wR145_M37
      refine rl_ltA (fun x43 => ?_)
      refine rl_ltA (fun x44 => ?_)
      refine rl_ltA (fun x45 => ?_)
      refine rl_dr (cx_U tM42) (rx_c (a := 138) (k := 6) (b := 145) tM42 (Or.inr (Or.inl rfl)) rfl (by decide)) (fun gb46 => ?_)
      refine rl_chk (chkl (cx_U tM42) gb46) (fun k13 => ?_)
      refine rl_w (κ := 144) (cx_U tM42) (by decide) (fun M47 M47r uM47 AM47 nM47 => ?_)
      have tM47 := cx_up tM42 uM47
      have wR145_M47 := rw_up uM47 wR145_M42
      refine rl_ltI (av_add is2_1 tn_1 (by omega) (by omega)) (fun x48 ix48 => ?_)
      exact rl_inl ⟨rfl, (ti_bd ix48 (by omega) (by omega)), (up_tr (up_tr (up_tr (up_tr us2_2 uM33) uM37) uM42) uM47)⟩
  · exact ⟨rfl, (ti_bd tn_0 (by omega) (by omega)), (up_0 mu (κ := 144) _ _)⟩
  · rintro ⟨y1_1, y1_2⟩ ⟨y1_1r, y1_2r⟩ ⟨ey1_1, ly1_1, uy1_2⟩
    obtain rfl : y1_1 = y1_1r := ey1_1
    have ly1_1 : 0 ≤ y1_1.toInt ∧ y1_1.toInt ≤ 4 := ly1_1
    have iy1_1 : TI y1_1 y1_1.toInt := rfl
    have uy1_2 : Up mu 144 M N y1_2 y1_2r := uy1_2
    have ty1_2 := cx_up t uy1_2
    have wR145_y1_2 := rw_up uy1_2 hR
    exact rl_some uy1_2
theorem r_turnFour {mu : Nat → Nat} {G H : GG} {M N : DD} {p : Nat} {L : List Nat} (t : CX mu G H M N p L) (hE : WG mu M N 146 0 4 (fun j => j)) : LKS (FX6_turnFour G M 138) (FX6_turnFour H N (mu 138)) (fun y z => Up mu 144 M N y z ∧ WG mu y z 146 0 4 (fun j => j)) := by
  unfold FX6_turnFour
  refine rl_dr (cx_U t) (rx_c (a := 138) (k := 7) (b := 146) t (Or.inr (Or.inl rfl)) rfl (by decide)) (fun gb1 => ?_)
  refine rl_chk (chkl (cx_U t) gb1) (fun k1 => ?_)
  refine rl_rd (wg_at hE (0) (by omega) (by omega) rfl) (fun x2 => ?_)
  refine rl_chk (chkl (cx_U t) gb1) (fun k2 => ?_)
  refine rl_rd (wg_at hE (1) (by omega) (by omega) rfl) (fun x3 => ?_)
  refine rl_chk (chkl (cx_U t) gb1) (fun k3 => ?_)
  refine rl_rd (wg_at hE (2) (by omega) (by omega) rfl) (fun x4 => ?_)
  refine rl_chk (chkl (cx_U t) gb1) (fun k4 => ?_)
  refine rl_rd (wg_at hE (3) (by omega) (by omega) rfl) (fun x5 => ?_)
  refine rl_ltA (fun x6 => ?_)
  refine rl_ltA (fun x7 => ?_)
  refine rl_ltA (fun x8 => ?_)
  refine rl_chk (chkl (cx_U t) gb1) (fun k5 => ?_)
  refine rl_w (κ := 144) (cx_U t) (by decide) (fun M9 M9r uM9 AM9 nM9 => ?_)
  have tM9 := cx_up t uM9
  have wE_M9 := wg_up uM9 hE
  refine rl_ltA (fun x10 => ?_)
  refine rl_ltA (fun x11 => ?_)
  refine rl_ltA (fun x12 => ?_)
  refine rl_dr (cx_U tM9) (rx_c (a := 138) (k := 7) (b := 146) tM9 (Or.inr (Or.inl rfl)) rfl (by decide)) (fun gb13 => ?_)
  refine rl_chk (chkl (cx_U tM9) gb13) (fun k6 => ?_)
  refine rl_w (κ := 144) (cx_U tM9) (by decide) (fun M14 M14r uM14 AM14 nM14 => ?_)
  have tM14 := cx_up tM9 uM14
  have wE_M14 := wg_up uM14 wE_M9
  have wP146_0_M14 := ag_up uM14 AM9
  refine rl_ltA (fun x15 => ?_)
  refine rl_ltA (fun x16 => ?_)
  refine rl_ltA (fun x17 => ?_)
  refine rl_dr (cx_U tM14) (rx_c (a := 138) (k := 7) (b := 146) tM14 (Or.inr (Or.inl rfl)) rfl (by decide)) (fun gb18 => ?_)
  refine rl_chk (chkl (cx_U tM14) gb18) (fun k7 => ?_)
  refine rl_w (κ := 144) (cx_U tM14) (by decide) (fun M19 M19r uM19 AM19 nM19 => ?_)
  have tM19 := cx_up tM14 uM19
  have wE_M19 := wg_up uM19 wE_M14
  have wP146_0_M19 := ag_up uM19 wP146_0_M14
  have wP146_1_M19 := ag_up uM19 AM14
  refine rl_ltA (fun x20 => ?_)
  refine rl_ltA (fun x21 => ?_)
  refine rl_ltA (fun x22 => ?_)
  refine rl_dr (cx_U tM19) (rx_c (a := 138) (k := 7) (b := 146) tM19 (Or.inr (Or.inl rfl)) rfl (by decide)) (fun gb23 => ?_)
  refine rl_chk (chkl (cx_U tM19) gb23) (fun k8 => ?_)
  refine rl_w (κ := 144) (cx_U tM19) (by decide) (fun M24 M24r uM24 AM24 nM24 => ?_)
  have tM24 := cx_up tM19 uM24
  have wE_M24 := wg_up uM24 wE_M19
  have wP146_0_M24 := ag_up uM24 wP146_0_M19
  have wP146_1_M24 := ag_up uM24 wP146_1_M19
  have wP146_2_M24 := ag_up uM24 AM19
  exact rl_some ⟨(up_tr (up_tr (up_tr uM9 uM14) uM19) uM24), wE_M24⟩
theorem r_turnEven {mu : Nat → Nat} {G H : GG} {M N : DD} {p : Nat} {L : List Nat} (t : CX mu G H M N p L) (hE : RWH mu G M N 146) : LKS (FX6_turnEven G M 138) (FX6_turnEven H N (mu 138)) (fun y z => Up mu 144 M N y z ∧ RWH mu G y z 146) := by
  unfold FX6_turnEven
  refine rl_bnd (Q := fun (y z : Int32 × DD) => y.1 = z.1 ∧ (0 ≤ y.1.toInt ∧ y.1.toInt ≤ 2) ∧ Up mu 144 M N y.2 z.2) (rl_itr (fun (y z : Int32 × DD) => y.1 = z.1 ∧ (0 ≤ y.1.toInt ∧ y.1.toInt ≤ 2) ∧ Up mu 144 M N y.2 z.2) _ ?_ _ _ _ ?_) ?_
  · rintro ⟨s2_1, s2_2⟩ ⟨s2_1r, s2_2r⟩ ⟨es2_1, ls2_1, us2_2⟩
    obtain rfl : s2_1 = s2_1r := es2_1
    have ls2_1 : 0 ≤ s2_1.toInt ∧ s2_1.toInt ≤ 2 := ls2_1
    have is2_1 : TI s2_1 s2_1.toInt := rfl
    have us2_2 : Up mu 144 M N s2_2 s2_2r := us2_2
    have ts2_2 := cx_up t us2_2
    have wR146_s2_2 := rw_up us2_2 hE
    refine rl_if (fun c1 => ?_) (fun c1 => ?_)
    · have dc1 := tl_le tn_2 is2_1 c1
      exact rl_inr ⟨rfl, (ti_bd is2_1 (by omega) (by omega)), us2_2⟩
    · have dc1 := tl_nle tn_2 is2_1 c1
      refine rl_bnd (Q := fun (y z : Int32 × DD) => y.1 = z.1 ∧ (0 ≤ y.1.toInt ∧ y.1.toInt ≤ 4) ∧ Up mu 144 s2_2 s2_2r y.2 z.2) (rl_itr (fun (y z : Int32 × DD) => y.1 = z.1 ∧ (0 ≤ y.1.toInt ∧ y.1.toInt ≤ 4) ∧ Up mu 144 s2_2 s2_2r y.2 z.2) _ ?_ _ _ _ ?_) ?_
      · rintro ⟨s7_1, s7_2⟩ ⟨s7_1r, s7_2r⟩ ⟨es7_1, ls7_1, us7_2⟩
        obtain rfl : s7_1 = s7_1r := es7_1
        have ls7_1 : 0 ≤ s7_1.toInt ∧ s7_1.toInt ≤ 4 := ls7_1
        have is7_1 : TI s7_1 s7_1.toInt := rfl
        have us7_2 : Up mu 144 s2_2 s2_2r s7_2 s7_2r := us7_2
        have ts7_2 := cx_up ts2_2 us7_2
        have wR146_s7_2 := rw_up us7_2 wR146_s2_2
        refine rl_if (fun c2 => ?_) (fun c2 => ?_)
        · have dc2 := tl_le tn_4 is7_1 c2
          exact rl_inr ⟨rfl, (ti_bd is7_1 (by omega) (by omega)), us7_2⟩
        · have dc2 := tl_nle tn_4 is7_1 c2
          refine rl_bnd (Q := fun (y z : Int32) => y = z ∧ (1 ≤ y.toInt ∧ y.toInt ≤ 4)) ?_ ?_
          · refine rl_if (fun c3 => ?_) (fun c3 => ?_)
            · have dc3 := tl_eq is2_1 tn_0 c3
              exact rl_some ⟨rfl, (ti_bd tn_1 (by omega) (by omega))⟩
            · exact rl_some ⟨rfl, (ti_bd tn_4 (by omega) (by omega))⟩
          · rintro y12 y12r ⟨ey12, ly12⟩
            obtain rfl : y12 = y12r := ey12
            have ly12 : 1 ≤ y12.toInt ∧ y12.toInt ≤ 4 := ly12
            have iy12 : TI y12 y12.toInt := rfl
            refine rl_bnd (Q := fun (y z : Int32) => y = z ∧ (0 ≤ y.toInt ∧ y.toInt ≤ 12)) ?_ ?_
            · refine rl_if (fun c4 => ?_) (fun c4 => ?_)
              · have dc4 := tl_eq is2_1 tn_0 c4
                refine rl_ltI (av_mul tn_4 is7_1 (by omega) (by omega)) (fun x55 ix55 => ?_)
                exact rl_some ⟨rfl, (ti_bd ix55 (by omega) (by omega))⟩
              · exact rl_some ⟨rfl, (ti_bd is7_1 (by omega) (by omega))⟩
            · rintro y13 y13r ⟨ey13, ly13⟩
              obtain rfl : y13 = y13r := ey13
              have ly13 : 0 ≤ y13.toInt ∧ y13.toInt ≤ 12 := ly13
              have iy13 : TI y13 y13.toInt := rfl
              refine rl_dr (cx_U ts7_2) (rx_c (a := 138) (k := 7) (b := 146) ts7_2 (Or.inr (Or.inl rfl)) rfl (by decide)) (fun gb14 => ?_)
              refine rl_chk (chkl (cx_U ts7_2) gb14) (fun k5 => ?_)
              refine rl_rd (rw_use wR146_s7_2 k5) (fun x15 => ?_)
              refine rl_ltI (av_add iy13 iy12 (by omega) (by omega)) (fun x16 ix16 => ?_)
              refine rl_chk (chkl (cx_U ts7_2) gb14) (fun k6 => ?_)
              refine rl_rd (rw_use wR146_s7_2 k6) (fun x17 => ?_)
              refine rl_ltA (fun x18 => ?_)
              refine rl_chk (chkl (cx_U ts7_2) gb14) (fun k7 => ?_)
              refine rl_rd (rw_use wR146_s7_2 k7) (fun x19 => ?_)
              refine rl_ltI (av_add iy13 iy12 (by omega) (by omega)) (fun x20 ix20 => ?_)
              refine rl_chk (chkl (cx_U ts7_2) gb14) (fun k8 => ?_)
              refine rl_rd (rw_use wR146_s7_2 k8) (fun x21 => ?_)
              refine rl_ltA (fun x22 => ?_)
              refine rl_ltI (av_mul tn_2 iy12 (by omega) (by omega)) (fun x23 ix23 => ?_)
              refine rl_ltI (av_add iy13 ix23 (by omega) (by omega)) (fun x24 ix24 => ?_)
              refine rl_chk (chkl (cx_U ts7_2) gb14) (fun k9 => ?_)
              refine rl_rd (rw_use wR146_s7_2 k9) (fun x25 => ?_)
              refine rl_ltI (av_mul tn_3 iy12 (by omega) (by omega)) (fun x26 ix26 => ?_)
              refine rl_ltI (av_add iy13 ix26 (by omega) (by omega)) (fun x27 ix27 => ?_)
              refine rl_chk (chkl (cx_U ts7_2) gb14) (fun k10 => ?_)
              refine rl_rd (rw_use wR146_s7_2 k10) (fun x28 => ?_)
              refine rl_ltA (fun x29 => ?_)
              refine rl_ltI (av_mul tn_2 iy12 (by omega) (by omega)) (fun x30 ix30 => ?_)
              refine rl_ltI (av_add iy13 ix30 (by omega) (by omega)) (fun x31 ix31 => ?_)
              refine rl_chk (chkl (cx_U ts7_2) gb14) (fun k11 => ?_)
              refine rl_rd (rw_use wR146_s7_2 k11) (fun x32 => ?_)
              refine rl_ltI (av_mul tn_3 iy12 (by omega) (by omega)) (fun x33 ix33 => ?_)
              refine rl_ltI (av_add iy13 ix33 (by omega) (by omega)) (fun x34 ix34 => ?_)
              refine rl_chk (chkl (cx_U ts7_2) gb14) (fun k12 => ?_)
              refine rl_rd (rw_use wR146_s7_2 k12) (fun x35 => ?_)
              refine rl_ltA (fun x36 => ?_)
              refine rl_ltA (fun x37 => ?_)
              refine rl_chk (chkl (cx_U ts7_2) gb14) (fun k13 => ?_)
              refine rl_w (κ := 144) (cx_U ts7_2) (by decide) (fun M38 M38r uM38 AM38 nM38 => ?_)
              have tM38 := cx_up ts7_2 uM38
              have wR146_M38 := rw_up uM38 wR146_s7_2
              refine rl_ltI (av_add iy13 iy12 (by omega) (by omega)) (fun x39 ix39 => ?_)
              refine rl_ltA (fun x40 => ?_)
              refine rl_dr (cx_U tM38) (rx_c (a := 138) (k := 7) (b := 146) tM38 (Or.inr (Or.inl rfl)) rfl (by decide)) (fun gb41 => ?_)
              refine rl_chk (chkl (cx_U tM38) gb41) (fun k14 => ?_)
              refine rl_w (κ := 144) (cx_U tM38) (by decide) (fun M42 M42r uM42 AM42 nM42 => ?_)
              have tM42 := cx_up tM38 uM42
              have wR146_M42 := rw_up uM42 wR146_M38
              refine rl_ltI (av_mul tn_2 iy12 (by omega) (by omega)) (fun x43 ix43 => ?_)
              refine rl_ltI (av_add iy13 ix43 (by omega) (by omega)) (fun x44 ix44 => ?_)
              refine rl_ltA (fun x45 => ?_)
              refine rl_dr (cx_U tM42) (rx_c (a := 138) (k := 7) (b := 146) tM42 (Or.inr (Or.inl rfl)) rfl (by decide)) (fun gb46 => ?_)
              refine rl_chk (chkl (cx_U tM42) gb46) (fun k15 => ?_)
              refine rl_w (κ := 144) (cx_U tM42) (by decide) (fun M47 M47r uM47 AM47 nM47 => ?_)
              have tM47 := cx_up tM42 uM47
              have wR146_M47 := rw_up uM47 wR146_M42
              refine rl_ltI (av_mul tn_3 iy12 (by omega) (by omega)) (fun x48 ix48 => ?_)
              refine rl_ltI (av_add iy13 ix48 (by omega) (by omega)) (fun x49 ix49 => ?_)
              refine rl_ltA (fun x50 => ?_)
              refine rl_dr (cx_U tM47) (rx_c (a := 138) (k := 7) (b := 146) tM47 (Or.inr (Or.inl rfl)) rfl (by decide)) (fun gb51 => ?_)
              refine rl_chk (chkl (cx_U tM47) gb51) (fun k16 => ?_)
              refine rl_w (κ := 144) (cx_U tM47) (by decide) (fun M52 M52r uM52 AM52 nM52 => ?_)
              have tM52 := cx_up tM47 uM52
              have wR146_M52 := rw_up uM52 wR146_M47
              refine rl_ltI (av_add is7_1 tn_1 (by omega) (by omega)) (fun x53 ix53 => ?_)
              exact rl_inl ⟨rfl, (ti_bd ix53 (by omega) (by omega)), (up_tr (up_tr (up_tr (up_tr us7_2 uM38) uM42) uM47) uM52)⟩
      · exact ⟨rfl, (ti_bd tn_0 (by omega) (by omega)), (up_0 mu (κ := 144) _ _)⟩
      · rintro ⟨y6_1, y6_2⟩ ⟨y6_1r, y6_2r⟩ ⟨ey6_1, ly6_1, uy6_2⟩
        obtain rfl : y6_1 = y6_1r := ey6_1
        have ly6_1 : 0 ≤ y6_1.toInt ∧ y6_1.toInt ≤ 4 := ly6_1
        have iy6_1 : TI y6_1 y6_1.toInt := rfl
        have uy6_2 : Up mu 144 s2_2 s2_2r y6_2 y6_2r := uy6_2
        have ty6_2 := cx_up ts2_2 uy6_2
        have wR146_y6_2 := rw_up uy6_2 wR146_s2_2
        refine rl_ltI (av_add is2_1 tn_1 (by omega) (by omega)) (fun x9 ix9 => ?_)
        exact rl_inl ⟨rfl, (ti_bd ix9 (by omega) (by omega)), (up_tr us2_2 uy6_2)⟩
  · exact ⟨rfl, (ti_bd tn_0 (by omega) (by omega)), (up_0 mu (κ := 144) _ _)⟩
  · rintro ⟨y1_1, y1_2⟩ ⟨y1_1r, y1_2r⟩ ⟨ey1_1, ly1_1, uy1_2⟩
    obtain rfl : y1_1 = y1_1r := ey1_1
    have ly1_1 : 0 ≤ y1_1.toInt ∧ y1_1.toInt ≤ 2 := ly1_1
    have iy1_1 : TI y1_1 y1_1.toInt := rfl
    have uy1_2 : Up mu 144 M N y1_2 y1_2r := uy1_2
    have ty1_2 := cx_up t uy1_2
    have wR146_y1_2 := rw_up uy1_2 hE
    exact rl_some ⟨uy1_2, wR146_y1_2⟩
theorem r_unfold {mu : Nat → Nat} {G H : GG} {M N : DD} {p : Nat} {L : List Nat} (t : CX mu G H M N p L) {p0 p0r : Option Nat} (e0 : p0 = some 132 ∧ p0r = some (mu 132)) {p1 : Int32} {p2 : Int32} {p3 : Int32} : LKS (FX6_unfold G M 138 p0 p1 p2 p3) (FX6_unfold H N (mu 138) p0r p1 p2 p3) (fun y z => Up mu 144 M N y z ∧ RWH mu G y z 145) := by
  unfold FX6_unfold
  obtain ⟨rfl, rfl⟩ := e0
  refine rl_bnd (rl_fill (κ := 144) (b := 145) (cx_U t) (rx_c (a := 138) (k := 6) (b := 145) t (Or.inr (Or.inl rfl)) rfl (by decide)) (by decide) (cx_l145 t)) ?_
  rintro y1 y1r ⟨uy1, vR_y1⟩
  have ty1 := cx_up t uy1
  refine rl_bnd (Q := fun (y z : Int32 × DD) => y.1 = z.1 ∧ Up mu 144 y1 y1r y.2 z.2) (rl_itr (fun (y z : Int32 × DD) => y.1 = z.1 ∧ Up mu 144 y1 y1r y.2 z.2) _ ?_ _ _ _ ?_) ?_
  · rintro ⟨s3_1, s3_2⟩ ⟨s3_1r, s3_2r⟩ ⟨es3_1, us3_2⟩
    obtain rfl : s3_1 = s3_1r := es3_1
    have us3_2 : Up mu 144 y1 y1r s3_2 s3_2r := us3_2
    have ts3_2 := cx_up ty1 us3_2
    have wR145_s3_2 := rw_up us3_2 vR_y1
    refine rl_if (fun c1 => ?_) (fun c1 => ?_)
    · have dc1 := tl_le tn_16 (rfl : TI s3_1 s3_1.toInt) c1
      exact rl_inr ⟨rfl, us3_2⟩
    · have dc1 := tl_nle tn_16 (rfl : TI s3_1 s3_1.toInt) c1
      refine rl_chk (fun h => h) (fun _ => ?_)
      refine rl_ltB (tb_14 _) (fun x7 lx7 => ?_)
      have ix7 : TI x7 x7.toInt := rfl
      refine rl_chk (fun h => h) (fun _ => ?_)
      refine rl_ltB (tb_15 _) (fun x8 lx8 => ?_)
      have ix8 : TI x8 x8.toInt := rfl
      refine rl_ltI (av_mul tn_4 ix8 (by omega) (by omega)) (fun x9 ix9 => ?_)
      refine rl_ltI (av_add ix9 ix7 (by omega) (by omega)) (fun x10 ix10 => ?_)
      refine rl_ltA (fun x11 => ?_)
      refine rl_dr (cx_U ts3_2) ⟨rfl, rfl⟩ (fun gb12 => ?_)
      refine rl_chk (chkl (cx_U ts3_2) gb12) (fun k4 => ?_)
      refine rl_rd (cx_r ts3_2 _ (Or.inr (Or.inr (Or.inl rfl)))) (fun x13 => ?_)
      refine rl_bnd (r_normAt ts3_2) ?_
      rintro ⟨y14_1, y14_2⟩ ⟨y14_1r, y14_2r⟩ ⟨uy14_1', ey14_2⟩
      have uy14_1 : Up mu 144 s3_2 s3_2r y14_1 y14_1r := uy14_1'
      have ty14_1 := cx_up ts3_2 uy14_1
      have wR145_y14_1 := rw_up uy14_1 wR145_s3_2
      obtain rfl : y14_2 = y14_2r := ey14_2
      refine rl_chk (fun h => h) (fun _ => ?_)
      refine rl_ltB (tb_13 _) (fun x15 lx15 => ?_)
      have ix15 : TI x15 x15.toInt := rfl
      refine rl_ltA (fun x16 => ?_)
      refine rl_ltA (fun x17 => ?_)
      refine rl_ltA (fun x18 => ?_)
      refine rl_dr (cx_U ty14_1) (rx_c (a := 138) (k := 6) (b := 145) ts3_2 (Or.inr (Or.inl rfl)) rfl (by decide)) (fun gb19 => ?_)
      refine rl_chk (chkl (cx_U ty14_1) gb19) (fun k6 => ?_)
      refine rl_w (κ := 144) (cx_U ty14_1) (by decide) (fun M20 M20r uM20 AM20 nM20 => ?_)
      have tM20 := cx_up ty14_1 uM20
      have wR145_M20 := rw_up uM20 wR145_y14_1
      refine rl_ltA (fun x21 => ?_)
      exact rl_inl ⟨rfl, (up_tr (up_tr us3_2 uy14_1) uM20)⟩
  · exact ⟨rfl, (up_0 mu (κ := 144) _ _)⟩
  · rintro ⟨y2_1, y2_2⟩ ⟨y2_1r, y2_2r⟩ ⟨ey2_1, uy2_2⟩
    obtain rfl : y2_1 = y2_1r := ey2_1
    have uy2_2 : Up mu 144 y1 y1r y2_2 y2_2r := uy2_2
    have ty2_2 := cx_up ty1 uy2_2
    have wR145_y2_2 := rw_up uy2_2 vR_y1
    exact rl_some ⟨(up_tr uy1 uy2_2), wR145_y2_2⟩
theorem r_fillPiece {mu : Nat → Nat} {G H : GG} {M N : DD} {p : Nat} {L : List Nat} (t : CX mu G H M N p L) {p0 p0r : Option Nat} {q0 j0 : Nat} (e0 : p0 = some (q0 + j0) ∧ p0r = some (mu (q0 + j0))) (hq0 : q0 ∈ L) (hj0 : j0 = 9 ∨ j0 = 10 ∨ j0 = 11) {p1 : Int32} {p2 : Int32} {p3 : Int32} {a3 : Int} (i3 : TI p3 a3) {p4 : Int32} {a4 : Int} (i4 : TI p4 a4) (h0 : a4 = 8 ∨ a4 = 16) (h1 : 0 ≤ a3) (h2 : a3 ≤ 383) (hR : RWH mu G M N 145) (hG : WG mu M N 139 0 16 (fun j => a3 + j / 4 * a4 + j % 4)) : LKS (FX6_fillPiece G M 138 p0 p1 p2 p3 p4) (FX6_fillPiece H N (mu 138) p0r p1 p2 p3 p4) (fun y z => Up mu 144 M N y z) := by
  unfold FX6_fillPiece
  obtain ⟨rfl, rfl⟩ := e0
  rcases h0 with rfl | rfl
  · refine rl_bnd (r_turnBack t hR) ?_
    rintro y1 y1r uy1'
    have uy1 : Up mu 144 M N y1 y1r := uy1'
    have ty1 := cx_up t uy1
    have wR145_y1 := rw_up uy1 hR
    have wG_y1 := wg_up uy1 hG
    refine rl_bnd (r_turnBack ty1 wR145_y1) ?_
    rintro y2 y2r uy2'
    have uy2 : Up mu 144 y1 y1r y2 y2r := uy2'
    have ty2 := cx_up ty1 uy2
    have wR145_y2 := rw_up uy2 wR145_y1
    have wG_y2 := wg_up uy2 wG_y1
    refine rl_bnd (Q := fun (y z : Int32 × DD) => y.1 = z.1 ∧ (0 ≤ y.1.toInt ∧ y.1.toInt ≤ 16) ∧ Up mu 144 y2 y2r y.2 z.2) (rl_itr (fun (y z : Int32 × DD) => y.1 = z.1 ∧ (0 ≤ y.1.toInt ∧ y.1.toInt ≤ 16) ∧ Up mu 144 y2 y2r y.2 z.2) _ ?_ _ _ _ ?_) ?_
    · rintro ⟨s4_1, s4_2⟩ ⟨s4_1r, s4_2r⟩ ⟨es4_1, ls4_1, us4_2⟩
      obtain rfl : s4_1 = s4_1r := es4_1
      have ls4_1 : 0 ≤ s4_1.toInt ∧ s4_1.toInt ≤ 16 := ls4_1
      have is4_1 : TI s4_1 s4_1.toInt := rfl
      have us4_2 : Up mu 144 y2 y2r s4_2 s4_2r := us4_2
      have ts4_2 := cx_up ty2 us4_2
      have wR145_s4_2 := rw_up us4_2 wR145_y2
      have wG_s4_2 := wg_up us4_2 wG_y2
      refine rl_if (fun c1 => ?_) (fun c1 => ?_)
      · have dc1 := tl_le tn_16 is4_1 c1
        exact rl_inr ⟨rfl, (ti_bd is4_1 (by omega) (by omega)), us4_2⟩
      · have dc1 := tl_nle tn_16 is4_1 c1
        refine rl_ltI (av_div is4_1 tn_4 (by omega) (by omega)) (fun x8 ix8 => ?_)
        refine rl_ltI (av_mul ix8 i4 (by omega) (by omega)) (fun x9 ix9 => ?_)
        refine rl_ltI (av_add i3 ix9 (by omega) (by omega)) (fun x10 ix10 => ?_)
        refine rl_ltI (av_mod is4_1 tn_4 (by omega) (by omega)) (fun x11 ix11 => ?_)
        refine rl_ltI (av_add ix10 ix11 (by omega) (by omega)) (fun x12 ix12 => ?_)
        refine rl_dr (cx_U ts4_2) (rx_c (a := 138) (k := 0) (b := 139) ts4_2 (Or.inr (Or.inl rfl)) rfl (by decide)) (fun gb13 => ?_)
        refine rl_chk (chkl (cx_U ts4_2) gb13) (fun k2 => ?_)
        refine rl_rd (wg_use wG_s4_2 ix12 (s4_1.toInt) (by omega) (by omega) (by (try dsimp only) <;> omega)) (fun x14 => ?_)
        refine rl_dr (cx_U ts4_2) (rx_c (a := 138) (k := 6) (b := 145) ts4_2 (Or.inr (Or.inl rfl)) rfl (by decide)) (fun gb15 => ?_)
        refine rl_chk (chkl (cx_U ts4_2) gb15) (fun k3 => ?_)
        refine rl_rd (rw_use wR145_s4_2 k3) (fun x16 => ?_)
        refine rl_ltA (fun x17 => ?_)
        refine rl_ltA (fun x18 => ?_)
        refine rl_ltA (fun x19 => ?_)
        refine rl_ltI (av_div is4_1 tn_4 (by omega) (by omega)) (fun x20 ix20 => ?_)
        refine rl_ltA (fun x21 => ?_)
        refine rl_ltA (fun x22 => ?_)
        refine rl_ltI (av_mod is4_1 tn_4 (by omega) (by omega)) (fun x23 ix23 => ?_)
        refine rl_ltA (fun x24 => ?_)
        refine rl_bnd (Q := fun (y z : Int32) => y = z ∧ (0 ≤ y.toInt ∧ y.toInt ≤ 255)) ?_ ?_
        · refine rl_if (fun c4 => ?_) (fun c4 => ?_)
          · have dc4 := tl_le tn_0 (rfl : TI x19 x19.toInt) c4
            refine rl_bnd (Q := fun (y z : Int32) => y = z ∧ (0 ≤ y.toInt ∧ y.toInt ≤ 255)) ?_ ?_
            · refine rl_if (fun c5 => ?_) (fun c5 => ?_)
              · have dc5 := tl_le (rfl : TI x19 x19.toInt) tn_255 c5
                exact rl_some ⟨rfl, (ti_bd (rfl : TI x19 x19.toInt) (by omega) (by omega))⟩
              · have dc5 := tl_nle (rfl : TI x19 x19.toInt) tn_255 c5
                exact rl_some ⟨rfl, (ti_bd tn_255 (by omega) (by omega))⟩
            · rintro y30 y30r ⟨ey30, ly30⟩
              obtain rfl : y30 = y30r := ey30
              have ly30 : 0 ≤ y30.toInt ∧ y30.toInt ≤ 255 := ly30
              have iy30 : TI y30 y30.toInt := rfl
              exact rl_some ⟨rfl, (ti_bd iy30 (by omega) (by omega))⟩
          · have dc4 := tl_nle tn_0 (rfl : TI x19 x19.toInt) c4
            exact rl_some ⟨rfl, (ti_bd tn_0 (by omega) (by omega))⟩
        · rintro y25 y25r ⟨ey25, ly25⟩
          obtain rfl : y25 = y25r := ey25
          have ly25 : 0 ≤ y25.toInt ∧ y25.toInt ≤ 255 := ly25
          have iy25 : TI y25 y25.toInt := rfl
          refine rl_dr (cx_U ts4_2) ⟨rfl, rfl⟩ (fun gb26 => ?_)
          refine rl_chk (chkl (cx_U ts4_2) gb26) (fun k6 => ?_)
          refine rl_w (κ := 144) (cx_U ts4_2) (by have := cx_q0 ts4_2 hq0; omega) (fun M27 M27r uM27 AM27 nM27 => ?_)
          have tM27 := cx_up ts4_2 uM27
          have wR145_M27 := rw_up uM27 wR145_s4_2
          have wG_M27 := wg_up uM27 wG_s4_2
          refine rl_ltI (av_add is4_1 tn_1 (by omega) (by omega)) (fun x28 ix28 => ?_)
          exact rl_inl ⟨rfl, (ti_bd ix28 (by omega) (by omega)), (up_tr us4_2 uM27)⟩
    · exact ⟨rfl, (ti_bd tn_0 (by omega) (by omega)), (up_0 mu (κ := 144) _ _)⟩
    · rintro ⟨y3_1, y3_2⟩ ⟨y3_1r, y3_2r⟩ ⟨ey3_1, ly3_1, uy3_2⟩
      obtain rfl : y3_1 = y3_1r := ey3_1
      have ly3_1 : 0 ≤ y3_1.toInt ∧ y3_1.toInt ≤ 16 := ly3_1
      have iy3_1 : TI y3_1 y3_1.toInt := rfl
      have uy3_2 : Up mu 144 y2 y2r y3_2 y3_2r := uy3_2
      have ty3_2 := cx_up ty2 uy3_2
      have wR145_y3_2 := rw_up uy3_2 wR145_y2
      have wG_y3_2 := wg_up uy3_2 wG_y2
      exact rl_some (up_tr (up_tr uy1 uy2) uy3_2)
  · refine rl_bnd (r_turnBack t hR) ?_
    rintro y1 y1r uy1'
    have uy1 : Up mu 144 M N y1 y1r := uy1'
    have ty1 := cx_up t uy1
    have wR145_y1 := rw_up uy1 hR
    have wG_y1 := wg_up uy1 hG
    refine rl_bnd (r_turnBack ty1 wR145_y1) ?_
    rintro y2 y2r uy2'
    have uy2 : Up mu 144 y1 y1r y2 y2r := uy2'
    have ty2 := cx_up ty1 uy2
    have wR145_y2 := rw_up uy2 wR145_y1
    have wG_y2 := wg_up uy2 wG_y1
    refine rl_bnd (Q := fun (y z : Int32 × DD) => y.1 = z.1 ∧ (0 ≤ y.1.toInt ∧ y.1.toInt ≤ 16) ∧ Up mu 144 y2 y2r y.2 z.2) (rl_itr (fun (y z : Int32 × DD) => y.1 = z.1 ∧ (0 ≤ y.1.toInt ∧ y.1.toInt ≤ 16) ∧ Up mu 144 y2 y2r y.2 z.2) _ ?_ _ _ _ ?_) ?_
    · rintro ⟨s4_1, s4_2⟩ ⟨s4_1r, s4_2r⟩ ⟨es4_1, ls4_1, us4_2⟩
      obtain rfl : s4_1 = s4_1r := es4_1
      have ls4_1 : 0 ≤ s4_1.toInt ∧ s4_1.toInt ≤ 16 := ls4_1
      have is4_1 : TI s4_1 s4_1.toInt := rfl
      have us4_2 : Up mu 144 y2 y2r s4_2 s4_2r := us4_2
      have ts4_2 := cx_up ty2 us4_2
      have wR145_s4_2 := rw_up us4_2 wR145_y2
      have wG_s4_2 := wg_up us4_2 wG_y2
      refine rl_if (fun c1 => ?_) (fun c1 => ?_)
      · have dc1 := tl_le tn_16 is4_1 c1
        exact rl_inr ⟨rfl, (ti_bd is4_1 (by omega) (by omega)), us4_2⟩
      · have dc1 := tl_nle tn_16 is4_1 c1
        refine rl_ltI (av_div is4_1 tn_4 (by omega) (by omega)) (fun x8 ix8 => ?_)
        refine rl_ltI (av_mul ix8 i4 (by omega) (by omega)) (fun x9 ix9 => ?_)
        refine rl_ltI (av_add i3 ix9 (by omega) (by omega)) (fun x10 ix10 => ?_)
        refine rl_ltI (av_mod is4_1 tn_4 (by omega) (by omega)) (fun x11 ix11 => ?_)
        refine rl_ltI (av_add ix10 ix11 (by omega) (by omega)) (fun x12 ix12 => ?_)
        refine rl_dr (cx_U ts4_2) (rx_c (a := 138) (k := 0) (b := 139) ts4_2 (Or.inr (Or.inl rfl)) rfl (by decide)) (fun gb13 => ?_)
        refine rl_chk (chkl (cx_U ts4_2) gb13) (fun k2 => ?_)
        refine rl_rd (wg_use wG_s4_2 ix12 (s4_1.toInt) (by omega) (by omega) (by (try dsimp only) <;> omega)) (fun x14 => ?_)
        refine rl_dr (cx_U ts4_2) (rx_c (a := 138) (k := 6) (b := 145) ts4_2 (Or.inr (Or.inl rfl)) rfl (by decide)) (fun gb15 => ?_)
        refine rl_chk (chkl (cx_U ts4_2) gb15) (fun k3 => ?_)
        refine rl_rd (rw_use wR145_s4_2 k3) (fun x16 => ?_)
        refine rl_ltA (fun x17 => ?_)
        refine rl_ltA (fun x18 => ?_)
        refine rl_ltA (fun x19 => ?_)
        refine rl_ltI (av_div is4_1 tn_4 (by omega) (by omega)) (fun x20 ix20 => ?_)
        refine rl_ltA (fun x21 => ?_)
        refine rl_ltA (fun x22 => ?_)
        refine rl_ltI (av_mod is4_1 tn_4 (by omega) (by omega)) (fun x23 ix23 => ?_)
        refine rl_ltA (fun x24 => ?_)
        refine rl_bnd (Q := fun (y z : Int32) => y = z ∧ (0 ≤ y.toInt ∧ y.toInt ≤ 255)) ?_ ?_
        · refine rl_if (fun c4 => ?_) (fun c4 => ?_)
          · have dc4 := tl_le tn_0 (rfl : TI x19 x19.toInt) c4
            refine rl_bnd (Q := fun (y z : Int32) => y = z ∧ (0 ≤ y.toInt ∧ y.toInt ≤ 255)) ?_ ?_
            · refine rl_if (fun c5 => ?_) (fun c5 => ?_)
              · have dc5 := tl_le (rfl : TI x19 x19.toInt) tn_255 c5
                exact rl_some ⟨rfl, (ti_bd (rfl : TI x19 x19.toInt) (by omega) (by omega))⟩
              · have dc5 := tl_nle (rfl : TI x19 x19.toInt) tn_255 c5
                exact rl_some ⟨rfl, (ti_bd tn_255 (by omega) (by omega))⟩
            · rintro y30 y30r ⟨ey30, ly30⟩
              obtain rfl : y30 = y30r := ey30
              have ly30 : 0 ≤ y30.toInt ∧ y30.toInt ≤ 255 := ly30
              have iy30 : TI y30 y30.toInt := rfl
              exact rl_some ⟨rfl, (ti_bd iy30 (by omega) (by omega))⟩
          · have dc4 := tl_nle tn_0 (rfl : TI x19 x19.toInt) c4
            exact rl_some ⟨rfl, (ti_bd tn_0 (by omega) (by omega))⟩
        · rintro y25 y25r ⟨ey25, ly25⟩
          obtain rfl : y25 = y25r := ey25
          have ly25 : 0 ≤ y25.toInt ∧ y25.toInt ≤ 255 := ly25
          have iy25 : TI y25 y25.toInt := rfl
          refine rl_dr (cx_U ts4_2) ⟨rfl, rfl⟩ (fun gb26 => ?_)
          refine rl_chk (chkl (cx_U ts4_2) gb26) (fun k6 => ?_)
          refine rl_w (κ := 144) (cx_U ts4_2) (by have := cx_q0 ts4_2 hq0; omega) (fun M27 M27r uM27 AM27 nM27 => ?_)
          have tM27 := cx_up ts4_2 uM27
          have wR145_M27 := rw_up uM27 wR145_s4_2
          have wG_M27 := wg_up uM27 wG_s4_2
          refine rl_ltI (av_add is4_1 tn_1 (by omega) (by omega)) (fun x28 ix28 => ?_)
          exact rl_inl ⟨rfl, (ti_bd ix28 (by omega) (by omega)), (up_tr us4_2 uM27)⟩
    · exact ⟨rfl, (ti_bd tn_0 (by omega) (by omega)), (up_0 mu (κ := 144) _ _)⟩
    · rintro ⟨y3_1, y3_2⟩ ⟨y3_1r, y3_2r⟩ ⟨ey3_1, ly3_1, uy3_2⟩
      obtain rfl : y3_1 = y3_1r := ey3_1
      have ly3_1 : 0 ≤ y3_1.toInt ∧ y3_1.toInt ≤ 16 := ly3_1
      have iy3_1 : TI y3_1 y3_1.toInt := rfl
      have uy3_2 : Up mu 144 y2 y2r y3_2 y3_2r := uy3_2
      have ty3_2 := cx_up ty2 uy3_2
      have wR145_y3_2 := rw_up uy3_2 wR145_y2
      have wG_y3_2 := wg_up uy3_2 wG_y2
      exact rl_some (up_tr (up_tr uy1 uy2) uy3_2)
theorem r_takeAround {mu : Nat → Nat} {G H : GG} {M N : DD} {p : Nat} {L : List Nat} (t : CX mu G H M N p L) {p0 p0r : Option Nat} {q0 : Nat} (e0 : p0 = some q0 ∧ p0r = some (mu q0)) (hq0 : q0 ∈ L) {p1 : Int32} {p2 : Int32} : LKS (FX6_takeAround G M 138 p0 p1 p2) (FX6_takeAround H N (mu 138) p0r p1 p2) (fun y z => Up mu 144 M N y z ∧ WG mu y z 147 0 13 (fun j => j)) := by
  unfold FX6_takeAround
  obtain ⟨rfl, rfl⟩ := e0
  refine rl_dr (cx_U t) ⟨rfl, rfl⟩ (fun gb1 => ?_)
  refine rl_dr (cx_U t) (rx_4 t hq0) (fun gb2 => ?_)
  refine rl_chk (chkl (cx_U t) gb2) (fun k1 => ?_)
  refine rl_rd (cx_q (j := 0) (k := 1) t hq0 rfl) (fun x3 => ?_)
  refine rl_ltA (fun x4 => ?_)
  refine rl_bnd (Q := fun (y z : Int32 × DD) => y.1 = z.1 ∧ (0 ≤ y.1.toInt ∧ y.1.toInt ≤ 4) ∧ Up mu 144 M N y.2 z.2 ∧ WG mu y.2 z.2 147 (0) (4) (fun j => 3 - j) ∧ WG mu y.2 z.2 147 (0) (4) (fun j => 5 + j)) (rl_itr (fun (y z : Int32 × DD) => y.1 = z.1 ∧ (0 ≤ y.1.toInt ∧ y.1.toInt ≤ 4) ∧ Up mu 144 M N y.2 z.2 ∧ WG mu y.2 z.2 147 (0) (y.1.toInt) (fun j => 3 - j) ∧ WG mu y.2 z.2 147 (0) (y.1.toInt) (fun j => 5 + j)) _ ?_ _ _ _ ?_) ?_
  · rintro ⟨s6_1, s6_2⟩ ⟨s6_1r, s6_2r⟩ ⟨es6_1, ls6_1, us6_2, va_s6_2, vb_s6_2⟩
    obtain rfl : s6_1 = s6_1r := es6_1
    have ls6_1 : 0 ≤ s6_1.toInt ∧ s6_1.toInt ≤ 4 := ls6_1
    have is6_1 : TI s6_1 s6_1.toInt := rfl
    have us6_2 : Up mu 144 M N s6_2 s6_2r := us6_2
    have ts6_2 := cx_up t us6_2
    have va_s6_2 : WG mu s6_2 s6_2r 147 (0) (s6_1.toInt) (fun j => 3 - j) := va_s6_2
    have vb_s6_2 : WG mu s6_2 s6_2r 147 (0) (s6_1.toInt) (fun j => 5 + j) := vb_s6_2
    refine rl_if (fun c2 => ?_) (fun c2 => ?_)
    · have dc2 := tl_le tn_4 is6_1 c2
      exact rl_inr ⟨rfl, (ti_bd is6_1 (by omega) (by omega)), us6_2, (wg_sub va_s6_2 (by omega) (by omega)), (wg_sub vb_s6_2 (by omega) (by omega))⟩
    · have dc2 := tl_nle tn_4 is6_1 c2
      refine rl_ltI (av_sub tn_3 is6_1 (by omega) (by omega)) (fun x37 ix37 => ?_)
      refine rl_ltI (av_and 1 (rfl : TI p2 p2.toInt) (by decide) (by decide)) (fun x38 ix38 => ?_)
      refine rl_bnd (Q := fun (y z : Int32) => y = z) ?_ ?_
      · refine rl_if (fun c3 => ?_) (fun c3 => ?_)
        · have dc3 := tl_eq ix38 tn_0 c3
          exact rl_some rfl
        · refine rl_ltA (fun x54 => ?_)
          refine rl_ltA (fun x55 => ?_)
          refine rl_ltA (fun x56 => ?_)
          refine rl_dr (cx_U ts6_2) (rx_d0 t hq0) (fun gb57 => ?_)
          refine rl_chk (chkl (cx_U ts6_2) gb57) (fun k4 => ?_)
          refine rl_rd (cx_pl ts6_2 hq0 (by omega : 9 = 9 ∨ 9 = 10 ∨ 9 = 11) _) (fun x58 => ?_)
          exact rl_some rfl
      · rintro y39 y39r ey39
        obtain rfl : y39 = y39r := ey39
        refine rl_dr (cx_U ts6_2) (rx_c (a := 138) (k := 8) (b := 147) ts6_2 (Or.inr (Or.inl rfl)) rfl (by decide)) (fun gb40 => ?_)
        refine rl_chk (chkl (cx_U ts6_2) gb40) (fun k5 => ?_)
        refine rl_w (κ := 144) (cx_U ts6_2) (by decide) (fun M41 M41r uM41 AM41 nM41 => ?_)
        have tM41 := cx_up ts6_2 uM41
        have wa_M41 := wg_up uM41 va_s6_2
        have wb_M41 := wg_up uM41 vb_s6_2
        refine rl_ltI (av_add tn_5 is6_1 (by omega) (by omega)) (fun x42 ix42 => ?_)
        refine rl_ltA (fun x43 => ?_)
        refine rl_bnd (Q := fun (y z : Int32) => y = z) ?_ ?_
        · refine rl_if (fun c6 => ?_) (fun c6 => ?_)
          · have dc6 := tl_eq (rfl : TI x43 x43.toInt) tn_0 c6
            exact rl_some rfl
          · refine rl_ltA (fun x49 => ?_)
            refine rl_ltA (fun x50 => ?_)
            refine rl_dr (cx_U tM41) (rx_d0 t hq0) (fun gb51 => ?_)
            refine rl_chk (chkl (cx_U tM41) gb51) (fun k7 => ?_)
            refine rl_rd (cx_pl tM41 hq0 (by omega : 9 = 9 ∨ 9 = 10 ∨ 9 = 11) _) (fun x52 => ?_)
            exact rl_some rfl
        · rintro y44 y44r ey44
          obtain rfl : y44 = y44r := ey44
          refine rl_dr (cx_U tM41) (rx_c (a := 138) (k := 8) (b := 147) tM41 (Or.inr (Or.inl rfl)) rfl (by decide)) (fun gb45 => ?_)
          refine rl_chk (chkl (cx_U tM41) gb45) (fun k8 => ?_)
          refine rl_w (κ := 144) (cx_U tM41) (by decide) (fun M46 M46r uM46 AM46 nM46 => ?_)
          have tM46 := cx_up tM41 uM46
          have wa_M46 := wg_up uM46 wa_M41
          have wb_M46 := wg_up uM46 wb_M41
          refine rl_ltI (av_add is6_1 tn_1 (by omega) (by omega)) (fun x47 ix47 => ?_)
          exact rl_inl ⟨rfl, (ti_bd ix47 (by omega) (by omega)), (up_tr (up_tr us6_2 uM41) uM46), (wg_ext wa_M46 ix37 (ag_up uM46 AM41) (by (try dsimp only) <;> omega) (by have q : _ = _ := ix47; (try dsimp only) <;> omega)), (wg_ext wb_M46 ix42 (ag_up (up_0 mu (κ := 144) _ _) AM46) (by (try dsimp only) <;> omega) (by have q : _ = _ := ix47; (try dsimp only) <;> omega))⟩
  · exact ⟨rfl, (ti_bd tn_0 (by omega) (by omega)), (up_0 mu (κ := 144) _ _), (wg_0 (by have q : _ = _ := tn_0; (try dsimp only) <;> omega)), (wg_0 (by have q : _ = _ := tn_0; (try dsimp only) <;> omega))⟩
  · rintro ⟨y5_1, y5_2⟩ ⟨y5_1r, y5_2r⟩ ⟨ey5_1, ly5_1, uy5_2, va_y5_2, vb_y5_2⟩
    obtain rfl : y5_1 = y5_1r := ey5_1
    have ly5_1 : 0 ≤ y5_1.toInt ∧ y5_1.toInt ≤ 4 := ly5_1
    have iy5_1 : TI y5_1 y5_1.toInt := rfl
    have uy5_2 : Up mu 144 M N y5_2 y5_2r := uy5_2
    have ty5_2 := cx_up t uy5_2
    have va_y5_2 : WG mu y5_2 y5_2r 147 (0) (4) (fun j => 3 - j) := va_y5_2
    have vb_y5_2 : WG mu y5_2 y5_2r 147 (0) (4) (fun j => 5 + j) := vb_y5_2
    refine rl_ltA (fun x8 => ?_)
    refine rl_bnd (Q := fun (y z : Int32) => y = z) ?_ ?_
    · refine rl_if (fun c9 => ?_) (fun c9 => ?_)
      · have dc9 := tl_eq (rfl : TI x8 x8.toInt) tn_0 c9
        exact rl_some rfl
      · refine rl_ltA (fun x31 => ?_)
        refine rl_ltA (fun x32 => ?_)
        refine rl_dr (cx_U ty5_2) (rx_d0 t hq0) (fun gb33 => ?_)
        refine rl_chk (chkl (cx_U ty5_2) gb33) (fun k10 => ?_)
        refine rl_rd (cx_pl ty5_2 hq0 (by omega : 9 = 9 ∨ 9 = 10 ∨ 9 = 11) _) (fun x34 => ?_)
        exact rl_some rfl
    · rintro y9 y9r ey9
      obtain rfl : y9 = y9r := ey9
      refine rl_dr (cx_U ty5_2) (rx_c (a := 138) (k := 8) (b := 147) ty5_2 (Or.inr (Or.inl rfl)) rfl (by decide)) (fun gb10 => ?_)
      refine rl_chk (chkl (cx_U ty5_2) gb10) (fun k11 => ?_)
      refine rl_w (κ := 144) (cx_U ty5_2) (by decide) (fun M11 M11r uM11 AM11 nM11 => ?_)
      have tM11 := cx_up ty5_2 uM11
      have wa_M11 := wg_up uM11 va_y5_2
      have wb_M11 := wg_up uM11 vb_y5_2
      refine rl_bnd (Q := fun (y z : Int32 × DD) => y.1 = z.1 ∧ (4 ≤ y.1.toInt ∧ y.1.toInt ≤ 8) ∧ Up mu 144 M11 M11r y.2 z.2 ∧ WG mu y.2 z.2 147 (4) (8) (fun j => 5 + j)) (rl_itr (fun (y z : Int32 × DD) => y.1 = z.1 ∧ (4 ≤ y.1.toInt ∧ y.1.toInt ≤ 8) ∧ Up mu 144 M11 M11r y.2 z.2 ∧ WG mu y.2 z.2 147 (4) (y.1.toInt) (fun j => 5 + j)) _ ?_ _ _ _ ?_) ?_
      · rintro ⟨s13_1, s13_2⟩ ⟨s13_1r, s13_2r⟩ ⟨es13_1, ls13_1, us13_2, vd_s13_2⟩
        obtain rfl : s13_1 = s13_1r := es13_1
        have ls13_1 : 4 ≤ s13_1.toInt ∧ s13_1.toInt ≤ 8 := ls13_1
        have is13_1 : TI s13_1 s13_1.toInt := rfl
        have us13_2 : Up mu 144 M11 M11r s13_2 s13_2r := us13_2
        have ts13_2 := cx_up tM11 us13_2
        have wa_s13_2 := wg_up us13_2 wa_M11
        have wb_s13_2 := wg_up us13_2 wb_M11
        have wP147_4_s13_2 := ag_up us13_2 AM11
        have vd_s13_2 : WG mu s13_2 s13_2r 147 (4) (s13_1.toInt) (fun j => 5 + j) := vd_s13_2
        refine rl_if (fun c12 => ?_) (fun c12 => ?_)
        · have dc12 := tl_le tn_8 is13_1 c12
          exact rl_inr ⟨rfl, (ti_bd is13_1 (by omega) (by omega)), us13_2, (wg_sub vd_s13_2 (by omega) (by omega))⟩
        · have dc12 := tl_nle tn_8 is13_1 c12
          refine rl_ltI (av_add tn_5 is13_1 (by omega) (by omega)) (fun x17 ix17 => ?_)
          refine rl_ltA (fun x18 => ?_)
          refine rl_bnd (Q := fun (y z : Int32) => y = z) ?_ ?_
          · refine rl_if (fun c13 => ?_) (fun c13 => ?_)
            · have dc13 := tl_eq (rfl : TI x18 x18.toInt) tn_0 c13
              refine rl_dr (cx_U ts13_2) (rx_c (a := 138) (k := 8) (b := 147) ts13_2 (Or.inr (Or.inl rfl)) rfl (by decide)) (fun gb24 => ?_)
              refine rl_chk (chkl (cx_U ts13_2) gb24) (fun k14 => ?_)
              refine rl_rd (wg_use wb_s13_2 tn_8 (3) (by omega) (by omega) (by (try dsimp only) <;> omega)) (fun x25 => ?_)
              exact rl_some rfl
            · refine rl_ltA (fun x26 => ?_)
              refine rl_ltA (fun x27 => ?_)
              refine rl_dr (cx_U ts13_2) (rx_d0 t hq0) (fun gb28 => ?_)
              refine rl_chk (chkl (cx_U ts13_2) gb28) (fun k15 => ?_)
              refine rl_rd (cx_pl ts13_2 hq0 (by omega : 9 = 9 ∨ 9 = 10 ∨ 9 = 11) _) (fun x29 => ?_)
              exact rl_some rfl
          · rintro y19 y19r ey19
            obtain rfl : y19 = y19r := ey19
            refine rl_dr (cx_U ts13_2) (rx_c (a := 138) (k := 8) (b := 147) ts13_2 (Or.inr (Or.inl rfl)) rfl (by decide)) (fun gb20 => ?_)
            refine rl_chk (chkl (cx_U ts13_2) gb20) (fun k16 => ?_)
            refine rl_w (κ := 144) (cx_U ts13_2) (by decide) (fun M21 M21r uM21 AM21 nM21 => ?_)
            have tM21 := cx_up ts13_2 uM21
            have wa_M21 := wg_up uM21 wa_s13_2
            have wb_M21 := wg_up uM21 wb_s13_2
            have wP147_4_M21 := ag_up uM21 wP147_4_s13_2
            have wd_M21 := wg_up uM21 vd_s13_2
            refine rl_ltI (av_add is13_1 tn_1 (by omega) (by omega)) (fun x22 ix22 => ?_)
            exact rl_inl ⟨rfl, (ti_bd ix22 (by omega) (by omega)), (up_tr us13_2 uM21), (wg_ext wd_M21 ix17 (ag_up (up_0 mu (κ := 144) _ _) AM21) (by (try dsimp only) <;> omega) (by have q : _ = _ := ix22; (try dsimp only) <;> omega))⟩
      · exact ⟨rfl, (ti_bd tn_4 (by omega) (by omega)), (up_0 mu (κ := 144) _ _), (wg_0 (by have q : _ = _ := tn_4; (try dsimp only) <;> omega))⟩
      · rintro ⟨y12_1, y12_2⟩ ⟨y12_1r, y12_2r⟩ ⟨ey12_1, ly12_1, uy12_2, vd_y12_2⟩
        obtain rfl : y12_1 = y12_1r := ey12_1
        have ly12_1 : 4 ≤ y12_1.toInt ∧ y12_1.toInt ≤ 8 := ly12_1
        have iy12_1 : TI y12_1 y12_1.toInt := rfl
        have uy12_2 : Up mu 144 M11 M11r y12_2 y12_2r := uy12_2
        have ty12_2 := cx_up tM11 uy12_2
        have wa_y12_2 := wg_up uy12_2 wa_M11
        have wb_y12_2 := wg_up uy12_2 wb_M11
        have wP147_4_y12_2 := ag_up uy12_2 AM11
        have vd_y12_2 : WG mu y12_2 y12_2r 147 (4) (8) (fun j => 5 + j) := vd_y12_2
        exact rl_some ⟨(up_tr (up_tr uy5_2 uM11) uy12_2), (wg_13 wa_y12_2 wb_y12_2 wP147_4_y12_2 vd_y12_2)⟩
theorem r_predictFour {mu : Nat → Nat} {G H : GG} {M N : DD} {p : Nat} {L : List Nat} (t : CX mu G H M N p L) {p0 p0r : Option Nat} (e0 : p0 = some 125 ∧ p0r = some (mu 125)) {p1 : Int32} {p2 : Int32} {a2 : Int} (i2 : TI p2 a2) {p3 : Int32} {p4 : Int32} (h0 : 0 ≤ a2) (h1 : a2 ≤ 15) : LKS (FX6_predictFour G M 138 p0 p1 p2 p3 p4) (FX6_predictFour H N (mu 138) p0r p1 p2 p3 p4) (fun y z => Up mu 144 M N y z ∧ WG mu y z 139 0 16 (fun j => ((8 * (a2 / 8) + 4 * (a2 / 2 % 2)) + j / 4) * 16 + (8 * (a2 / 4 % 2) + 4 * (a2 % 2)) + j % 4)) := by
  unfold FX6_predictFour
  obtain ⟨rfl, rfl⟩ := e0
  refine rl_bnd (r_pieceX t i2 (by omega) (by omega)) ?_
  rintro ⟨y1_1, y1_2⟩ ⟨y1_1r, y1_2r⟩ ⟨uy1_1', ey1_2, iy1_2⟩
  have uy1_1 : Up mu 144 M N y1_1 y1_1r := uy1_1'
  have ty1_1 := cx_up t uy1_1
  obtain rfl : y1_2 = y1_2r := ey1_2
  refine rl_bnd (r_pieceY ty1_1 i2 (by omega) (by omega)) ?_
  rintro ⟨y2_1, y2_2⟩ ⟨y2_1r, y2_2r⟩ ⟨uy2_1', ey2_2, iy2_2⟩
  have uy2_1 : Up mu 144 y1_1 y1_1r y2_1 y2_1r := uy2_1'
  have ty2_1 := cx_up ty1_1 uy2_1
  obtain rfl : y2_2 = y2_2r := ey2_2
  refine rl_dr (cx_U ty2_1) ⟨rfl, rfl⟩ (fun gb3 => ?_)
  refine rl_bnd (r_lumaAt ty2_1 (rx_p ty2_1) (cx_p t)) ?_
  rintro ⟨y4_1, y4_2⟩ ⟨y4_1r, y4_2r⟩ ⟨uy4_1', ey4_2⟩
  have uy4_1 : Up mu 144 y2_1 y2_1r y4_1 y4_1r := uy4_1'
  have ty4_1 := cx_up ty2_1 uy4_1
  obtain rfl : y4_2 = y4_2r := ey4_2
  refine rl_bnd (r_takeAround ty4_1 (rx_p ty2_1) (cx_p t)) ?_
  rintro y5 y5r ⟨uy5', vA_y5⟩
  have uy5 : Up mu 144 y4_1 y4_1r y5 y5r := uy5'
  have ty5 := cx_up ty4_1 uy5
  refine rl_bnd (Q := fun (y z : Int32 × DD) => y.1 = z.1 ∧ (0 ≤ y.1.toInt ∧ y.1.toInt ≤ 16) ∧ Up mu 144 y5 y5r y.2 z.2 ∧ WG mu y.2 z.2 139 (0) (16) (fun j => ((8 * (a2 / 8) + 4 * (a2 / 2 % 2)) + j / 4) * 16 + (8 * (a2 / 4 % 2) + 4 * (a2 % 2)) + j % 4)) (rl_itr (fun (y z : Int32 × DD) => y.1 = z.1 ∧ (0 ≤ y.1.toInt ∧ y.1.toInt ≤ 16) ∧ Up mu 144 y5 y5r y.2 z.2 ∧ WG mu y.2 z.2 139 (0) (y.1.toInt) (fun j => ((8 * (a2 / 8) + 4 * (a2 / 2 % 2)) + j / 4) * 16 + (8 * (a2 / 4 % 2) + 4 * (a2 % 2)) + j % 4)) _ ?_ _ _ _ ?_) ?_
  · rintro ⟨s7_1, s7_2⟩ ⟨s7_1r, s7_2r⟩ ⟨es7_1, ls7_1, us7_2, vG_s7_2⟩
    obtain rfl : s7_1 = s7_1r := es7_1
    have ls7_1 : 0 ≤ s7_1.toInt ∧ s7_1.toInt ≤ 16 := ls7_1
    have is7_1 : TI s7_1 s7_1.toInt := rfl
    have us7_2 : Up mu 144 y5 y5r s7_2 s7_2r := us7_2
    have ts7_2 := cx_up ty5 us7_2
    have wA_s7_2 := wg_up us7_2 vA_y5
    have vG_s7_2 : WG mu s7_2 s7_2r 139 (0) (s7_1.toInt) (fun j => ((8 * (a2 / 8) + 4 * (a2 / 2 % 2)) + j / 4) * 16 + (8 * (a2 / 4 % 2) + 4 * (a2 % 2)) + j % 4) := vG_s7_2
    refine rl_if (fun c1 => ?_) (fun c1 => ?_)
    · have dc1 := tl_le tn_16 is7_1 c1
      exact rl_inr ⟨rfl, (ti_bd is7_1 (by omega) (by omega)), us7_2, (wg_sub vG_s7_2 (by omega) (by omega))⟩
    · have dc1 := tl_nle tn_16 is7_1 c1
      refine rl_ltI (av_mod is7_1 tn_4 (by omega) (by omega)) (fun x11 ix11 => ?_)
      refine rl_ltI (av_div is7_1 tn_4 (by omega) (by omega)) (fun x12 ix12 => ?_)
      refine rl_bnd (Q := fun (y z : Int32 × DD) => y.1 = z.1 ∧ Up mu 144 s7_2 s7_2r y.2 z.2) ?_ ?_
      · refine rl_if (fun c2 => ?_) (fun c2 => ?_)
        · have dc2 := tl_eq (rfl : TI p3 p3.toInt) tn_0 c2
          refine rl_ltI (av_add tn_5 ix11 (by omega) (by omega)) (fun x90 ix90 => ?_)
          refine rl_dr (cx_U ts7_2) (rx_c (a := 138) (k := 8) (b := 147) ts7_2 (Or.inr (Or.inl rfl)) rfl (by decide)) (fun gb91 => ?_)
          refine rl_chk (chkl (cx_U ts7_2) gb91) (fun k3 => ?_)
          refine rl_rd (wg_id wA_s7_2 ix90 (by omega) (by omega)) (fun x92 => ?_)
          exact rl_some ⟨rfl, (up_0 mu (κ := 144) _ _)⟩
        · have dc2 := tl_ne (rfl : TI p3 p3.toInt) tn_0 c2
          refine rl_bnd (Q := fun (y z : Int32 × DD) => y.1 = z.1 ∧ Up mu 144 s7_2 s7_2r y.2 z.2) ?_ ?_
          · refine rl_if (fun c4 => ?_) (fun c4 => ?_)
            · have dc4 := tl_eq (rfl : TI p3 p3.toInt) tn_1 c4
              refine rl_ltI (av_sub tn_3 ix12 (by omega) (by omega)) (fun x87 ix87 => ?_)
              refine rl_dr (cx_U ts7_2) (rx_c (a := 138) (k := 8) (b := 147) ts7_2 (Or.inr (Or.inl rfl)) rfl (by decide)) (fun gb88 => ?_)
              refine rl_chk (chkl (cx_U ts7_2) gb88) (fun k5 => ?_)
              refine rl_rd (wg_id wA_s7_2 ix87 (by omega) (by omega)) (fun x89 => ?_)
              exact rl_some ⟨rfl, (up_0 mu (κ := 144) _ _)⟩
            · have dc4 := tl_ne (rfl : TI p3 p3.toInt) tn_1 c4
              refine rl_bnd (Q := fun (y z : Int32 × DD) => y.1 = z.1 ∧ Up mu 144 s7_2 s7_2r y.2 z.2) ?_ ?_
              · refine rl_if (fun c6 => ?_) (fun c6 => ?_)
                · have dc6 := tl_eq (rfl : TI p3 p3.toInt) tn_2 c6
                  refine rl_bnd (r_meanAround ts7_2 wA_s7_2) ?_
                  rintro ⟨y86_1, y86_2⟩ ⟨y86_1r, y86_2r⟩ ⟨uy86_1', ey86_2⟩
                  have uy86_1 : Up mu 144 s7_2 s7_2r y86_1 y86_1r := uy86_1'
                  have ty86_1 := cx_up ts7_2 uy86_1
                  have wA_y86_1 := wg_up uy86_1 wA_s7_2
                  have wG_y86_1 := wg_up uy86_1 vG_s7_2
                  obtain rfl : y86_2 = y86_2r := ey86_2
                  exact rl_some ⟨rfl, uy86_1⟩
                · have dc6 := tl_ne (rfl : TI p3 p3.toInt) tn_2 c6
                  refine rl_bnd (Q := fun (y z : Int32 × DD) => y.1 = z.1 ∧ Up mu 144 s7_2 s7_2r y.2 z.2) ?_ ?_
                  · refine rl_if (fun c7 => ?_) (fun c7 => ?_)
                    · have dc7 := tl_eq (rfl : TI p3 p3.toInt) tn_3 c7
                      refine rl_bnd (Q := fun (y z : Int32 × DD) => y.1 = z.1 ∧ Up mu 144 s7_2 s7_2r y.2 z.2) ?_ ?_
                      · refine rl_if (fun c8 => ?_) (fun c8 => ?_)
                        · have dc8 := tl_eq is7_1 tn_15 c8
                          refine rl_bnd (r_three ts7_2 tn_11 tn_12 tn_12 (by omega) (by omega) (by omega) (by omega) (by omega) (by omega) wA_s7_2) ?_
                          rintro ⟨y85_1, y85_2⟩ ⟨y85_1r, y85_2r⟩ ⟨uy85_1', ey85_2⟩
                          have uy85_1 : Up mu 144 s7_2 s7_2r y85_1 y85_1r := uy85_1'
                          have ty85_1 := cx_up ts7_2 uy85_1
                          have wA_y85_1 := wg_up uy85_1 wA_s7_2
                          have wG_y85_1 := wg_up uy85_1 vG_s7_2
                          obtain rfl : y85_2 = y85_2r := ey85_2
                          exact rl_some ⟨rfl, uy85_1⟩
                        · have dc8 := tl_ne is7_1 tn_15 c8
                          refine rl_ltI (av_add tn_5 ix11 (by omega) (by omega)) (fun x78 ix78 => ?_)
                          refine rl_ltI (av_add ix78 ix12 (by omega) (by omega)) (fun x79 ix79 => ?_)
                          refine rl_ltI (av_add tn_6 ix11 (by omega) (by omega)) (fun x80 ix80 => ?_)
                          refine rl_ltI (av_add ix80 ix12 (by omega) (by omega)) (fun x81 ix81 => ?_)
                          refine rl_ltI (av_add tn_7 ix11 (by omega) (by omega)) (fun x82 ix82 => ?_)
                          refine rl_ltI (av_add ix82 ix12 (by omega) (by omega)) (fun x83 ix83 => ?_)
                          refine rl_bnd (r_three ts7_2 ix79 ix81 ix83 (by omega) (by omega) (by omega) (by omega) (by omega) (by omega) wA_s7_2) ?_
                          rintro ⟨y84_1, y84_2⟩ ⟨y84_1r, y84_2r⟩ ⟨uy84_1', ey84_2⟩
                          have uy84_1 : Up mu 144 s7_2 s7_2r y84_1 y84_1r := uy84_1'
                          have ty84_1 := cx_up ts7_2 uy84_1
                          have wA_y84_1 := wg_up uy84_1 wA_s7_2
                          have wG_y84_1 := wg_up uy84_1 vG_s7_2
                          obtain rfl : y84_2 = y84_2r := ey84_2
                          exact rl_some ⟨rfl, uy84_1⟩
                      · rintro ⟨y76_1, y76_2⟩ ⟨y76_1r, y76_2r⟩ ⟨ey76_1, uy76_2⟩
                        obtain rfl : y76_1 = y76_1r := ey76_1
                        have uy76_2 : Up mu 144 s7_2 s7_2r y76_2 y76_2r := uy76_2
                        have ty76_2 := cx_up ts7_2 uy76_2
                        have wA_y76_2 := wg_up uy76_2 wA_s7_2
                        have wG_y76_2 := wg_up uy76_2 vG_s7_2
                        exact rl_some ⟨rfl, uy76_2⟩
                    · have dc7 := tl_ne (rfl : TI p3 p3.toInt) tn_3 c7
                      refine rl_bnd (Q := fun (y z : Int32 × DD) => y.1 = z.1 ∧ Up mu 144 s7_2 s7_2r y.2 z.2) ?_ ?_
                      · refine rl_if (fun c9 => ?_) (fun c9 => ?_)
                        · have dc9 := tl_eq (rfl : TI p3 p3.toInt) tn_4 c9
                          refine rl_ltI (av_add tn_3 ix11 (by omega) (by omega)) (fun x69 ix69 => ?_)
                          refine rl_ltI (av_sub ix69 ix12 (by omega) (by omega)) (fun x70 ix70 => ?_)
                          refine rl_ltI (av_add tn_4 ix11 (by omega) (by omega)) (fun x71 ix71 => ?_)
                          refine rl_ltI (av_sub ix71 ix12 (by omega) (by omega)) (fun x72 ix72 => ?_)
                          refine rl_ltI (av_add tn_5 ix11 (by omega) (by omega)) (fun x73 ix73 => ?_)
                          refine rl_ltI (av_sub ix73 ix12 (by omega) (by omega)) (fun x74 ix74 => ?_)
                          refine rl_bnd (r_three ts7_2 ix70 ix72 ix74 (by omega) (by omega) (by omega) (by omega) (by omega) (by omega) wA_s7_2) ?_
                          rintro ⟨y75_1, y75_2⟩ ⟨y75_1r, y75_2r⟩ ⟨uy75_1', ey75_2⟩
                          have uy75_1 : Up mu 144 s7_2 s7_2r y75_1 y75_1r := uy75_1'
                          have ty75_1 := cx_up ts7_2 uy75_1
                          have wA_y75_1 := wg_up uy75_1 wA_s7_2
                          have wG_y75_1 := wg_up uy75_1 vG_s7_2
                          obtain rfl : y75_2 = y75_2r := ey75_2
                          exact rl_some ⟨rfl, uy75_1⟩
                        · have dc9 := tl_ne (rfl : TI p3 p3.toInt) tn_4 c9
                          refine rl_bnd (Q := fun (y z : Int32 × DD) => y.1 = z.1 ∧ Up mu 144 s7_2 s7_2r y.2 z.2) ?_ ?_
                          · refine rl_if (fun c10 => ?_) (fun c10 => ?_)
                            · have dc10 := tl_eq (rfl : TI p3 p3.toInt) tn_5 c10
                              refine rl_bnd (r_slant ts7_2 ix11 ix12 tn_1 (by omega) (by omega) (by omega) (by omega) (by omega) wA_s7_2) ?_
                              rintro ⟨y68_1, y68_2⟩ ⟨y68_1r, y68_2r⟩ ⟨uy68_1', ey68_2⟩
                              have uy68_1 : Up mu 144 s7_2 s7_2r y68_1 y68_1r := uy68_1'
                              have ty68_1 := cx_up ts7_2 uy68_1
                              have wA_y68_1 := wg_up uy68_1 wA_s7_2
                              have wG_y68_1 := wg_up uy68_1 vG_s7_2
                              obtain rfl : y68_2 = y68_2r := ey68_2
                              exact rl_some ⟨rfl, uy68_1⟩
                            · have dc10 := tl_ne (rfl : TI p3 p3.toInt) tn_5 c10
                              refine rl_bnd (Q := fun (y z : Int32 × DD) => y.1 = z.1 ∧ Up mu 144 s7_2 s7_2r y.2 z.2) ?_ ?_
                              · refine rl_if (fun c11 => ?_) (fun c11 => ?_)
                                · have dc11 := tl_eq (rfl : TI p3 p3.toInt) tn_6 c11
                                  refine rl_bnd (r_slant ts7_2 ix12 ix11 tn_m1 (by omega) (by omega) (by omega) (by omega) (by omega) wA_s7_2) ?_
                                  rintro ⟨y67_1, y67_2⟩ ⟨y67_1r, y67_2r⟩ ⟨uy67_1', ey67_2⟩
                                  have uy67_1 : Up mu 144 s7_2 s7_2r y67_1 y67_1r := uy67_1'
                                  have ty67_1 := cx_up ts7_2 uy67_1
                                  have wA_y67_1 := wg_up uy67_1 wA_s7_2
                                  have wG_y67_1 := wg_up uy67_1 vG_s7_2
                                  obtain rfl : y67_2 = y67_2r := ey67_2
                                  exact rl_some ⟨rfl, uy67_1⟩
                                · have dc11 := tl_ne (rfl : TI p3 p3.toInt) tn_6 c11
                                  refine rl_bnd (Q := fun (y z : Int32 × Int32 × DD) => y.1 = z.1 ∧ y.2.1 = z.2.1 ∧ (-1 ≤ y.2.1.toInt ∧ y.2.1.toInt ≤ 9) ∧ Up mu 144 s7_2 s7_2r y.2.2 z.2.2) ?_ ?_
                                  · refine rl_if (fun c12 => ?_) (fun c12 => ?_)
                                    · have dc12 := tl_eq (rfl : TI p3 p3.toInt) tn_7 c12
                                      refine rl_ltI (av_add tn_5 ix11 (by omega) (by omega)) (fun x56 ix56 => ?_)
                                      refine rl_ltI (av_sar 1 ix12 (by decide)) (fun x57 ix57 => ?_)
                                      refine rl_ltI (av_add ix56 ix57 (by omega) (by omega)) (fun x58 ix58 => ?_)
                                      refine rl_ltI (av_mod ix12 tn_2 (by omega) (by omega)) (fun x59 ix59 => ?_)
                                      refine rl_bnd (Q := fun (y z : Int32 × DD) => y.1 = z.1 ∧ Up mu 144 s7_2 s7_2r y.2 z.2) ?_ ?_
                                      · refine rl_if (fun c13 => ?_) (fun c13 => ?_)
                                        · have dc13 := tl_eq ix59 tn_0 c13
                                          refine rl_ltI (av_add ix58 tn_1 (by omega) (by omega)) (fun x65 ix65 => ?_)
                                          refine rl_bnd (r_two ts7_2 ix58 ix65 (by omega) (by omega) (by omega) (by omega) wA_s7_2) ?_
                                          rintro ⟨y66_1, y66_2⟩ ⟨y66_1r, y66_2r⟩ ⟨uy66_1', ey66_2⟩
                                          have uy66_1 : Up mu 144 s7_2 s7_2r y66_1 y66_1r := uy66_1'
                                          have ty66_1 := cx_up ts7_2 uy66_1
                                          have wA_y66_1 := wg_up uy66_1 wA_s7_2
                                          have wG_y66_1 := wg_up uy66_1 vG_s7_2
                                          obtain rfl : y66_2 = y66_2r := ey66_2
                                          exact rl_some ⟨rfl, uy66_1⟩
                                        · have dc13 := tl_ne ix59 tn_0 c13
                                          refine rl_ltI (av_add ix58 tn_1 (by omega) (by omega)) (fun x62 ix62 => ?_)
                                          refine rl_ltI (av_add ix58 tn_2 (by omega) (by omega)) (fun x63 ix63 => ?_)
                                          refine rl_bnd (r_three ts7_2 ix58 ix62 ix63 (by omega) (by omega) (by omega) (by omega) (by omega) (by omega) wA_s7_2) ?_
                                          rintro ⟨y64_1, y64_2⟩ ⟨y64_1r, y64_2r⟩ ⟨uy64_1', ey64_2⟩
                                          have uy64_1 : Up mu 144 s7_2 s7_2r y64_1 y64_1r := uy64_1'
                                          have ty64_1 := cx_up ts7_2 uy64_1
                                          have wA_y64_1 := wg_up uy64_1 wA_s7_2
                                          have wG_y64_1 := wg_up uy64_1 vG_s7_2
                                          obtain rfl : y64_2 = y64_2r := ey64_2
                                          exact rl_some ⟨rfl, uy64_1⟩
                                      · rintro ⟨y60_1, y60_2⟩ ⟨y60_1r, y60_2r⟩ ⟨ey60_1, uy60_2⟩
                                        obtain rfl : y60_1 = y60_1r := ey60_1
                                        have uy60_2 : Up mu 144 s7_2 s7_2r y60_2 y60_2r := uy60_2
                                        have ty60_2 := cx_up ts7_2 uy60_2
                                        have wA_y60_2 := wg_up uy60_2 wA_s7_2
                                        have wG_y60_2 := wg_up uy60_2 vG_s7_2
                                        exact rl_some ⟨rfl, rfl, (ti_bd ix58 (by omega) (by omega)), uy60_2⟩
                                    · have dc12 := tl_ne (rfl : TI p3 p3.toInt) tn_7 c12
                                      refine rl_ltI (av_sub tn_3 ix12 (by omega) (by omega)) (fun x36 ix36 => ?_)
                                      refine rl_ltI (av_sar 1 ix11 (by decide)) (fun x37 ix37 => ?_)
                                      refine rl_ltI (av_sub ix36 ix37 (by omega) (by omega)) (fun x38 ix38 => ?_)
                                      refine rl_ltI (av_mul tn_2 ix12 (by omega) (by omega)) (fun x39 ix39 => ?_)
                                      refine rl_ltI (av_add ix11 ix39 (by omega) (by omega)) (fun x40 ix40 => ?_)
                                      refine rl_bnd (Q := fun (y z : Int32 × DD) => y.1 = z.1 ∧ Up mu 144 s7_2 s7_2r y.2 z.2) ?_ ?_
                                      · refine rl_if (fun c14 => ?_) (fun c14 => ?_)
                                        · have dc14 := tl_le ix40 tn_5 c14
                                          refine rl_bnd (Q := fun (y z : Int32 × DD) => y.1 = z.1 ∧ Up mu 144 s7_2 s7_2r y.2 z.2) ?_ ?_
                                          · refine rl_if (fun c15 => ?_) (fun c15 => ?_)
                                            · have dc15 := tl_eq ix40 tn_5 c15
                                              refine rl_bnd (r_three ts7_2 tn_1 tn_0 tn_0 (by omega) (by omega) (by omega) (by omega) (by omega) (by omega) wA_s7_2) ?_
                                              rintro ⟨y53_1, y53_2⟩ ⟨y53_1r, y53_2r⟩ ⟨uy53_1', ey53_2⟩
                                              have uy53_1 : Up mu 144 s7_2 s7_2r y53_1 y53_1r := uy53_1'
                                              have ty53_1 := cx_up ts7_2 uy53_1
                                              have wA_y53_1 := wg_up uy53_1 wA_s7_2
                                              have wG_y53_1 := wg_up uy53_1 vG_s7_2
                                              obtain rfl : y53_2 = y53_2r := ey53_2
                                              exact rl_some ⟨rfl, uy53_1⟩
                                            · have dc15 := tl_ne ix40 tn_5 c15
                                              refine rl_ltI (av_mod ix40 tn_2 (by omega) (by omega)) (fun x45 ix45 => ?_)
                                              refine rl_bnd (Q := fun (y z : Int32 × DD) => y.1 = z.1 ∧ Up mu 144 s7_2 s7_2r y.2 z.2) ?_ ?_
                                              · refine rl_if (fun c16 => ?_) (fun c16 => ?_)
                                                · have dc16 := tl_eq ix45 tn_0 c16
                                                  refine rl_ltI (av_sub ix38 tn_1 (by omega) (by omega)) (fun x51 ix51 => ?_)
                                                  refine rl_bnd (r_two ts7_2 ix38 ix51 (by omega) (by omega) (by omega) (by omega) wA_s7_2) ?_
                                                  rintro ⟨y52_1, y52_2⟩ ⟨y52_1r, y52_2r⟩ ⟨uy52_1', ey52_2⟩
                                                  have uy52_1 : Up mu 144 s7_2 s7_2r y52_1 y52_1r := uy52_1'
                                                  have ty52_1 := cx_up ts7_2 uy52_1
                                                  have wA_y52_1 := wg_up uy52_1 wA_s7_2
                                                  have wG_y52_1 := wg_up uy52_1 vG_s7_2
                                                  obtain rfl : y52_2 = y52_2r := ey52_2
                                                  exact rl_some ⟨rfl, uy52_1⟩
                                                · have dc16 := tl_ne ix45 tn_0 c16
                                                  refine rl_ltI (av_sub ix38 tn_1 (by omega) (by omega)) (fun x48 ix48 => ?_)
                                                  refine rl_ltI (av_sub ix38 tn_2 (by omega) (by omega)) (fun x49 ix49 => ?_)
                                                  refine rl_bnd (r_three ts7_2 ix38 ix48 ix49 (by omega) (by omega) (by omega) (by omega) (by omega) (by omega) wA_s7_2) ?_
                                                  rintro ⟨y50_1, y50_2⟩ ⟨y50_1r, y50_2r⟩ ⟨uy50_1', ey50_2⟩
                                                  have uy50_1 : Up mu 144 s7_2 s7_2r y50_1 y50_1r := uy50_1'
                                                  have ty50_1 := cx_up ts7_2 uy50_1
                                                  have wA_y50_1 := wg_up uy50_1 wA_s7_2
                                                  have wG_y50_1 := wg_up uy50_1 vG_s7_2
                                                  obtain rfl : y50_2 = y50_2r := ey50_2
                                                  exact rl_some ⟨rfl, uy50_1⟩
                                              · rintro ⟨y46_1, y46_2⟩ ⟨y46_1r, y46_2r⟩ ⟨ey46_1, uy46_2⟩
                                                obtain rfl : y46_1 = y46_1r := ey46_1
                                                have uy46_2 : Up mu 144 s7_2 s7_2r y46_2 y46_2r := uy46_2
                                                have ty46_2 := cx_up ts7_2 uy46_2
                                                have wA_y46_2 := wg_up uy46_2 wA_s7_2
                                                have wG_y46_2 := wg_up uy46_2 vG_s7_2
                                                exact rl_some ⟨rfl, uy46_2⟩
                                          · rintro ⟨y43_1, y43_2⟩ ⟨y43_1r, y43_2r⟩ ⟨ey43_1, uy43_2⟩
                                            obtain rfl : y43_1 = y43_1r := ey43_1
                                            have uy43_2 : Up mu 144 s7_2 s7_2r y43_2 y43_2r := uy43_2
                                            have ty43_2 := cx_up ts7_2 uy43_2
                                            have wA_y43_2 := wg_up uy43_2 wA_s7_2
                                            have wG_y43_2 := wg_up uy43_2 vG_s7_2
                                            exact rl_some ⟨rfl, uy43_2⟩
                                        · have dc14 := tl_nle ix40 tn_5 c14
                                          refine rl_dr (cx_U ts7_2) (rx_c (a := 138) (k := 8) (b := 147) ts7_2 (Or.inr (Or.inl rfl)) rfl (by decide)) (fun gb54 => ?_)
                                          refine rl_chk (chkl (cx_U ts7_2) gb54) (fun k17 => ?_)
                                          refine rl_rd (wg_at wA_s7_2 (0) (by omega) (by omega) rfl) (fun x55 => ?_)
                                          exact rl_some ⟨rfl, (up_0 mu (κ := 144) _ _)⟩
                                      · rintro ⟨y41_1, y41_2⟩ ⟨y41_1r, y41_2r⟩ ⟨ey41_1, uy41_2⟩
                                        obtain rfl : y41_1 = y41_1r := ey41_1
                                        have uy41_2 : Up mu 144 s7_2 s7_2r y41_2 y41_2r := uy41_2
                                        have ty41_2 := cx_up ts7_2 uy41_2
                                        have wA_y41_2 := wg_up uy41_2 wA_s7_2
                                        have wG_y41_2 := wg_up uy41_2 vG_s7_2
                                        exact rl_some ⟨rfl, rfl, (ti_bd ix38 (by omega) (by omega)), uy41_2⟩
                                  · rintro ⟨y34_1, y34_2_1, y34_2_2⟩ ⟨y34_1r, y34_2_1r, y34_2_2r⟩ ⟨ey34_1, ey34_2_1, ly34_2_1, uy34_2_2⟩
                                    obtain rfl : y34_1 = y34_1r := ey34_1
                                    obtain rfl : y34_2_1 = y34_2_1r := ey34_2_1
                                    have ly34_2_1 : -1 ≤ y34_2_1.toInt ∧ y34_2_1.toInt ≤ 9 := ly34_2_1
                                    have iy34_2_1 : TI y34_2_1 y34_2_1.toInt := rfl
                                    have uy34_2_2 : Up mu 144 s7_2 s7_2r y34_2_2 y34_2_2r := uy34_2_2
                                    have ty34_2_2 := cx_up ts7_2 uy34_2_2
                                    have wA_y34_2_2 := wg_up uy34_2_2 wA_s7_2
                                    have wG_y34_2_2 := wg_up uy34_2_2 vG_s7_2
                                    exact rl_some ⟨rfl, uy34_2_2⟩
                              · rintro ⟨y32_1, y32_2⟩ ⟨y32_1r, y32_2r⟩ ⟨ey32_1, uy32_2⟩
                                obtain rfl : y32_1 = y32_1r := ey32_1
                                have uy32_2 : Up mu 144 s7_2 s7_2r y32_2 y32_2r := uy32_2
                                have ty32_2 := cx_up ts7_2 uy32_2
                                have wA_y32_2 := wg_up uy32_2 wA_s7_2
                                have wG_y32_2 := wg_up uy32_2 vG_s7_2
                                exact rl_some ⟨rfl, uy32_2⟩
                          · rintro ⟨y30_1, y30_2⟩ ⟨y30_1r, y30_2r⟩ ⟨ey30_1, uy30_2⟩
                            obtain rfl : y30_1 = y30_1r := ey30_1
                            have uy30_2 : Up mu 144 s7_2 s7_2r y30_2 y30_2r := uy30_2
                            have ty30_2 := cx_up ts7_2 uy30_2
                            have wA_y30_2 := wg_up uy30_2 wA_s7_2
                            have wG_y30_2 := wg_up uy30_2 vG_s7_2
                            exact rl_some ⟨rfl, uy30_2⟩
                      · rintro ⟨y28_1, y28_2⟩ ⟨y28_1r, y28_2r⟩ ⟨ey28_1, uy28_2⟩
                        obtain rfl : y28_1 = y28_1r := ey28_1
                        have uy28_2 : Up mu 144 s7_2 s7_2r y28_2 y28_2r := uy28_2
                        have ty28_2 := cx_up ts7_2 uy28_2
                        have wA_y28_2 := wg_up uy28_2 wA_s7_2
                        have wG_y28_2 := wg_up uy28_2 vG_s7_2
                        exact rl_some ⟨rfl, uy28_2⟩
                  · rintro ⟨y26_1, y26_2⟩ ⟨y26_1r, y26_2r⟩ ⟨ey26_1, uy26_2⟩
                    obtain rfl : y26_1 = y26_1r := ey26_1
                    have uy26_2 : Up mu 144 s7_2 s7_2r y26_2 y26_2r := uy26_2
                    have ty26_2 := cx_up ts7_2 uy26_2
                    have wA_y26_2 := wg_up uy26_2 wA_s7_2
                    have wG_y26_2 := wg_up uy26_2 vG_s7_2
                    exact rl_some ⟨rfl, uy26_2⟩
              · rintro ⟨y24_1, y24_2⟩ ⟨y24_1r, y24_2r⟩ ⟨ey24_1, uy24_2⟩
                obtain rfl : y24_1 = y24_1r := ey24_1
                have uy24_2 : Up mu 144 s7_2 s7_2r y24_2 y24_2r := uy24_2
                have ty24_2 := cx_up ts7_2 uy24_2
                have wA_y24_2 := wg_up uy24_2 wA_s7_2
                have wG_y24_2 := wg_up uy24_2 vG_s7_2
                exact rl_some ⟨rfl, uy24_2⟩
          · rintro ⟨y22_1, y22_2⟩ ⟨y22_1r, y22_2r⟩ ⟨ey22_1, uy22_2⟩
            obtain rfl : y22_1 = y22_1r := ey22_1
            have uy22_2 : Up mu 144 s7_2 s7_2r y22_2 y22_2r := uy22_2
            have ty22_2 := cx_up ts7_2 uy22_2
            have wA_y22_2 := wg_up uy22_2 wA_s7_2
            have wG_y22_2 := wg_up uy22_2 vG_s7_2
            exact rl_some ⟨rfl, uy22_2⟩
      · rintro ⟨y13_1, y13_2⟩ ⟨y13_1r, y13_2r⟩ ⟨ey13_1, uy13_2⟩
        obtain rfl : y13_1 = y13_1r := ey13_1
        have uy13_2 : Up mu 144 s7_2 s7_2r y13_2 y13_2r := uy13_2
        have ty13_2 := cx_up ts7_2 uy13_2
        have wA_y13_2 := wg_up uy13_2 wA_s7_2
        have wG_y13_2 := wg_up uy13_2 vG_s7_2
        refine rl_ltI (av_add iy2_2 ix12 (by omega) (by omega)) (fun x14 ix14 => ?_)
        refine rl_ltI (av_mul ix14 tn_16 (by omega) (by omega)) (fun x15 ix15 => ?_)
        refine rl_ltI (av_add ix15 iy1_2 (by omega) (by omega)) (fun x16 ix16 => ?_)
        refine rl_ltI (av_add ix16 ix11 (by omega) (by omega)) (fun x17 ix17 => ?_)
        refine rl_dr (cx_U ty13_2) (rx_c (a := 138) (k := 0) (b := 139) ty13_2 (Or.inr (Or.inl rfl)) rfl (by decide)) (fun gb18 => ?_)
        refine rl_chk (chkl (cx_U ty13_2) gb18) (fun k18 => ?_)
        refine rl_w (κ := 144) (cx_U ty13_2) (by decide) (fun M19 M19r uM19 AM19 nM19 => ?_)
        have tM19 := cx_up ty13_2 uM19
        have wA_M19 := wg_up uM19 wA_y13_2
        have wG_M19 := wg_up uM19 wG_y13_2
        refine rl_ltI (av_add is7_1 tn_1 (by omega) (by omega)) (fun x20 ix20 => ?_)
        exact rl_inl ⟨rfl, (ti_bd ix20 (by omega) (by omega)), (up_tr (up_tr us7_2 uy13_2) uM19), (wg_ext wG_M19 ix17 (ag_up (up_0 mu (κ := 144) _ _) AM19) (by (try dsimp only) <;> omega) (by have q : _ = _ := ix20; (try dsimp only) <;> omega))⟩
  · exact ⟨rfl, (ti_bd tn_0 (by omega) (by omega)), (up_0 mu (κ := 144) _ _), (wg_0 (by have q : _ = _ := tn_0; (try dsimp only) <;> omega))⟩
  · rintro ⟨y6_1, y6_2⟩ ⟨y6_1r, y6_2r⟩ ⟨ey6_1, ly6_1, uy6_2, vG_y6_2⟩
    obtain rfl : y6_1 = y6_1r := ey6_1
    have ly6_1 : 0 ≤ y6_1.toInt ∧ y6_1.toInt ≤ 16 := ly6_1
    have iy6_1 : TI y6_1 y6_1.toInt := rfl
    have uy6_2 : Up mu 144 y5 y5r y6_2 y6_2r := uy6_2
    have ty6_2 := cx_up ty5 uy6_2
    have wA_y6_2 := wg_up uy6_2 vA_y5
    have vG_y6_2 : WG mu y6_2 y6_2r 139 (0) (16) (fun j => ((8 * (a2 / 8) + 4 * (a2 / 2 % 2)) + j / 4) * 16 + (8 * (a2 / 4 % 2) + 4 * (a2 % 2)) + j % 4) := vG_y6_2
    exact rl_some ⟨(up_tr (up_tr (up_tr (up_tr uy1_1 uy2_1) uy4_1) uy5) uy6_2), vG_y6_2⟩
