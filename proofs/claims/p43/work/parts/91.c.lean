/-! two runs in lockstep, printed out of the functions' trees -/
theorem c_pieceX {mu : Nat → Nat} {G H : GG} {M N : DD} {p : Nat} {L : List Nat} (t : CX mu G H M N p L) {p0 : Int32} : LKS (FX9_pieceX G M p0) (FX9_pieceX H N p0) (fun y z => M = y.1 ∧ N = z.1 ∧ y.2 = z.2) := by
  unfold FX9_pieceX
  refine rl_ltA (fun x1 => ?_)
  refine rl_ltE (fun x2 ex2 => ?_)
  have bx2 := av_modb (x := x1) tn_2 (by decide) (by decide)
  rw [← ex2] at bx2
  clear ex2
  have ix2 : TI x2 x2.toInt := rfl
  refine rl_ltI (av_mul tn_8 ix2 (by omega) (by omega)) (fun x3 ix3 => ?_)
  refine rl_ltE (fun x4 ex4 => ?_)
  have bx4 := av_modb (x := p0) tn_2 (by decide) (by decide)
  rw [← ex4] at bx4
  clear ex4
  have ix4 : TI x4 x4.toInt := rfl
  refine rl_ltI (av_mul tn_4 ix4 (by omega) (by omega)) (fun x5 ix5 => ?_)
  refine rl_ltI (av_add ix3 ix5 (by omega) (by omega)) (fun x6 ix6 => ?_)
  exact rl_some ⟨rfl, rfl, rfl⟩
theorem c_pieceY {mu : Nat → Nat} {G H : GG} {M N : DD} {p : Nat} {L : List Nat} (t : CX mu G H M N p L) {p0 : Int32} : LKS (FX9_pieceY G M p0) (FX9_pieceY H N p0) (fun y z => M = y.1 ∧ N = z.1 ∧ y.2 = z.2) := by
  unfold FX9_pieceY
  refine rl_ltA (fun x1 => ?_)
  refine rl_ltA (fun x2 => ?_)
  refine rl_ltA (fun x3 => ?_)
  refine rl_ltE (fun x4 ex4 => ?_)
  have bx4 := av_modb (x := x3) tn_2 (by decide) (by decide)
  rw [← ex4] at bx4
  clear ex4
  have ix4 : TI x4 x4.toInt := rfl
  refine rl_ltI (av_mul tn_4 ix4 (by omega) (by omega)) (fun x5 ix5 => ?_)
  refine rl_ltA (fun x6 => ?_)
  exact rl_some ⟨rfl, rfl, rfl⟩
theorem c_at {mu : Nat → Nat} {G H : GG} {M N : DD} {p : Nat} {L : List Nat} (t : CX mu G H M N p L) {p0 : Int32} {p1 : Int32} : LKS (FX4_at G M p0 p1) (FX4_at H N p0 p1) (fun y z => M = y.1 ∧ N = z.1 ∧ y.2 = z.2) := by
  unfold FX4_at
  refine rl_ltA (fun x1 => ?_)
  refine rl_ltA (fun x2 => ?_)
  exact rl_some ⟨rfl, rfl, rfl⟩
theorem c_blocks {mu : Nat → Nat} {G H : GG} {M N : DD} {p : Nat} {L : List Nat} (t : CX mu G H M N p L) {q : Nat} (hq : q ∈ L) : LKS (FX4_blocks G M q) (FX4_blocks H N (mu q)) (fun y z => M = y.1 ∧ N = z.1 ∧ y.2 = z.2) := by
  unfold FX4_blocks
  refine rl_rd (cx_q (j := 0) (k := 1) t hq rfl) (fun x1 => ?_)
  refine rl_rd (cx_q (j := 0) (k := 2) t hq rfl) (fun x2 => ?_)
  refine rl_ltA (fun x3 => ?_)
  exact rl_some ⟨rfl, rfl, rfl⟩
theorem c_listOf {mu : Nat → Nat} {G H : GG} {M N : DD} {p : Nat} {L : List Nat} (t : CX mu G H M N p L) {q : Nat} (hq : q ∈ L) {p0 : Int32} : LKS (FX4_listOf G M q p0) (FX4_listOf H N (mu q) p0) (fun y z => M = y.1 ∧ N = z.1 ∧ y.2 = z.2) := by
  unfold FX4_listOf
  refine rl_dr (cx_U t) (rx_5 t hq) (fun gb1 => ?_)
  refine rl_chk (chkl (cx_U t) gb1) (fun k1 => ?_)
  refine rl_rd (cx_qj (j := 6) t hq (by decide) _) (fun x2 => ?_)
  refine rl_bnd (Q := fun (y z : Int32) => y = z ∧ (-1 ≤ y.toInt ∧ y.toInt ≤ 1)) ?_ ?_
  · refine rl_if (fun c2 => ?_) (fun c2 => ?_)
    · have dc2 := tl_lt (rfl : TI x2 x2.toInt) tn_0 c2
      refine rl_ltA (fun x5 => ?_)
      refine rl_chk (chkl (cx_U t) gb1) (fun k3 => ?_)
      refine rl_rd (cx_qj (j := 6) t hq (by decide) _) (fun x6 => ?_)
      refine rl_bnd (Q := fun (y z : Int32) => y = z ∧ (-1 ≤ y.toInt ∧ y.toInt ≤ 1)) ?_ ?_
      · refine rl_if (fun c4 => ?_) (fun c4 => ?_)
        · have dc4 := tl_lt (rfl : TI x6 x6.toInt) tn_0 c4
          exact rl_some ⟨rfl, (ti_bd tn_m1 (by omega) (by omega))⟩
        · have dc4 := tl_nlt (rfl : TI x6 x6.toInt) tn_0 c4
          exact rl_some ⟨rfl, (ti_bd tn_1 (by omega) (by omega))⟩
      · rintro y7 y7r ⟨ey7, ly7⟩
        obtain rfl : y7 = y7r := ey7
        have ly7 : -1 ≤ y7.toInt ∧ y7.toInt ≤ 1 := ly7
        have iy7 : TI y7 y7.toInt := rfl
        exact rl_some ⟨rfl, (ti_bd iy7 (by omega) (by omega))⟩
    · have dc2 := tl_nlt (rfl : TI x2 x2.toInt) tn_0 c2
      exact rl_some ⟨rfl, (ti_bd tn_0 (by omega) (by omega))⟩
  · rintro y3 y3r ⟨ey3, ly3⟩
    obtain rfl : y3 = y3r := ey3
    have ly3 : -1 ≤ y3.toInt ∧ y3.toInt ≤ 1 := ly3
    have iy3 : TI y3 y3.toInt := rfl
    exact rl_some ⟨rfl, rfl, rfl⟩
theorem c_timeBetween {mu : Nat → Nat} {G H : GG} {M N : DD} {p : Nat} {L : List Nat} (t : CX mu G H M N p L) {p0 : Int32} {p1 : Int32} : LKS (FX9_timeBetween G M p0 p1) (FX9_timeBetween H N p0 p1) (fun y z => M = y.1 ∧ N = z.1 ∧ y.2 = z.2) := by
  unfold FX9_timeBetween
  refine rl_ltA (fun x1 => ?_)
  refine rl_bnd (Q := fun (y z : Int32) => y = z ∧ (-128 ≤ y.toInt ∧ y.toInt ≤ 127)) ?_ ?_
  · refine rl_if (fun c1 => ?_) (fun c1 => ?_)
    · have dc1 := tl_le tn_m128 (rfl : TI x1 x1.toInt) c1
      refine rl_bnd (Q := fun (y z : Int32) => y = z ∧ (-128 ≤ y.toInt ∧ y.toInt ≤ 127)) ?_ ?_
      · refine rl_if (fun c2 => ?_) (fun c2 => ?_)
        · have dc2 := tl_le (rfl : TI x1 x1.toInt) tn_127 c2
          exact rl_some ⟨rfl, (ti_bd (rfl : TI x1 x1.toInt) (by omega) (by omega))⟩
        · have dc2 := tl_nle (rfl : TI x1 x1.toInt) tn_127 c2
          exact rl_some ⟨rfl, (ti_bd tn_127 (by omega) (by omega))⟩
      · rintro y4 y4r ⟨ey4, ly4⟩
        obtain rfl : y4 = y4r := ey4
        have ly4 : -128 ≤ y4.toInt ∧ y4.toInt ≤ 127 := ly4
        have iy4 : TI y4 y4.toInt := rfl
        exact rl_some ⟨rfl, (ti_bd iy4 (by omega) (by omega))⟩
    · have dc1 := tl_nle tn_m128 (rfl : TI x1 x1.toInt) c1
      exact rl_some ⟨rfl, (ti_bd tn_m128 (by omega) (by omega))⟩
  · rintro y2 y2r ⟨ey2, ly2⟩
    obtain rfl : y2 = y2r := ey2
    have ly2 : -128 ≤ y2.toInt ∧ y2.toInt ≤ 127 := ly2
    have iy2 : TI y2 y2.toInt := rfl
    exact rl_some ⟨rfl, rfl, rfl⟩
theorem c_scaleBy {mu : Nat → Nat} {G H : GG} {M N : DD} {p : Nat} {L : List Nat} (t : CX mu G H M N p L) {p0 : Int32} {p1 : Int32} : LKS (FX9_scaleBy G M p0 p1) (FX9_scaleBy H N p0 p1) (fun y z => M = y.1 ∧ N = z.1 ∧ y.2 = z.2) := by
  unfold FX9_scaleBy
  refine rl_bnd (Q := fun (y z : Int32 × DD) => y.1 = z.1 ∧ M = y.2 ∧ N = z.2) ?_ ?_
  · refine rl_if (fun c1 => ?_) (fun c1 => ?_)
    · have dc1 := tl_eq (rfl : TI p1 p1.toInt) tn_0 c1
      exact rl_some ⟨rfl, rfl, rfl⟩
    · refine rl_ltA (fun x10 => ?_)
      refine rl_ltA (fun x11 => ?_)
      refine rl_ltA (fun x12 => ?_)
      refine rl_chk (fun h => h) (fun k2 => ?_)
      refine rl_ltA (fun x13 => ?_)
      exact rl_some ⟨rfl, rfl, rfl⟩
  · rintro ⟨y1_1, y1_2⟩ ⟨y1_1r, y1_2r⟩ ⟨ey1_1, my1_21, my1_22⟩
    obtain rfl : y1_1 = y1_1r := ey1_1
    obtain rfl : M = y1_2 := my1_21
    obtain rfl : N = y1_2r := my1_22
    refine rl_ltA (fun x2 => ?_)
    refine rl_ltA (fun x3 => ?_)
    refine rl_ltA (fun x4 => ?_)
    refine rl_bnd (Q := fun (y z : Int32) => y = z ∧ (-1024 ≤ y.toInt ∧ y.toInt ≤ 1023)) ?_ ?_
    · refine rl_if (fun c3 => ?_) (fun c3 => ?_)
      · have dc3 := tl_le tn_m1024 (rfl : TI x4 x4.toInt) c3
        refine rl_bnd (Q := fun (y z : Int32) => y = z ∧ (-1024 ≤ y.toInt ∧ y.toInt ≤ 1023)) ?_ ?_
        · refine rl_if (fun c4 => ?_) (fun c4 => ?_)
          · have dc4 := tl_le (rfl : TI x4 x4.toInt) tn_1023 c4
            exact rl_some ⟨rfl, (ti_bd (rfl : TI x4 x4.toInt) (by omega) (by omega))⟩
          · have dc4 := tl_nle (rfl : TI x4 x4.toInt) tn_1023 c4
            exact rl_some ⟨rfl, (ti_bd tn_1023 (by omega) (by omega))⟩
        · rintro y7 y7r ⟨ey7, ly7⟩
          obtain rfl : y7 = y7r := ey7
          have ly7 : -1024 ≤ y7.toInt ∧ y7.toInt ≤ 1023 := ly7
          have iy7 : TI y7 y7.toInt := rfl
          exact rl_some ⟨rfl, (ti_bd iy7 (by omega) (by omega))⟩
      · have dc3 := tl_nle tn_m1024 (rfl : TI x4 x4.toInt) c3
        exact rl_some ⟨rfl, (ti_bd tn_m1024 (by omega) (by omega))⟩
    · rintro y5 y5r ⟨ey5, ly5⟩
      obtain rfl : y5 = y5r := ey5
      have ly5 : -1024 ≤ y5.toInt ∧ y5.toInt ≤ 1023 := ly5
      have iy5 : TI y5 y5.toInt := rfl
      exact rl_some ⟨rfl, rfl, rfl⟩
theorem c_isStill {mu : Nat → Nat} {G H : GG} {M N : DD} {p : Nat} {L : List Nat} (t : CX mu G H M N p L) {p0 p0r : Option Nat} {q0 : Nat} (e0 : p0 = some q0 ∧ p0r = some (mu q0)) (hq0 : q0 ∈ L) {p1 : Int32} {p2 : Int32} : LKS (FX9_isStill G M p0 p1 p2) (FX9_isStill H N p0r p1 p2) (fun y z => M = y.1 ∧ N = z.1 ∧ y.2 = z.2) := by
  unfold FX9_isStill
  obtain ⟨rfl, rfl⟩ := e0
  refine rl_ltA (fun x1 => ?_)
  refine rl_ltA (fun x2 => ?_)
  refine rl_ltA (fun x3 => ?_)
  refine rl_dr (cx_U t) ⟨rfl, rfl⟩ (fun gb4 => ?_)
  refine rl_rd (cx_q (j := 0) (k := 10) t hq0 rfl) (fun x5 => ?_)
  refine rl_if (fun c1 => ?_) (fun c1 => ?_)
  · have dc1 := tl_eq (rfl : TI x5 x5.toInt) tn_2 c1
    refine rl_chk (fun h => h) (fun k2 => ?_)
    exact rl_some ⟨rfl, rfl, rfl⟩
  · refine rl_bnd (c_blocks t hq0) ?_
    rintro ⟨y7_1, y7_2⟩ ⟨y7_1r, y7_2r⟩ ⟨my7_11, my7_12, ey7_2⟩
    obtain rfl : M = y7_1 := my7_11
    obtain rfl : N = y7_1r := my7_12
    obtain rfl : y7_2 = y7_2r := ey7_2
    refine rl_if (fun c3 => ?_) (fun c3 => ?_)
    · have dc3 := tl_le (rfl : TI y7_2 y7_2.toInt) (rfl : TI p1 p1.toInt) c3
      refine rl_chk (fun h => h) (fun k4 => ?_)
      exact rl_some ⟨rfl, rfl, rfl⟩
    · have dc3 := tl_nle (rfl : TI y7_2 y7_2.toInt) (rfl : TI p1 p1.toInt) c3
      refine rl_bnd (c_listOf t hq0) ?_
      rintro ⟨y9_1, y9_2⟩ ⟨y9_1r, y9_2r⟩ ⟨my9_11, my9_12, ey9_2⟩
      obtain rfl : M = y9_1 := my9_11
      obtain rfl : N = y9_1r := my9_12
      obtain rfl : y9_2 = y9_2r := ey9_2
      refine rl_if (fun c5 => ?_) (fun c5 => ?_)
      · have dc5 := tl_le tn_0 (rfl : TI y9_2 y9_2.toInt) c5
        refine rl_bnd (c_listOf t hq0) ?_
        rintro ⟨y11_1, y11_2⟩ ⟨y11_1r, y11_2r⟩ ⟨my11_11, my11_12, ey11_2⟩
        obtain rfl : M = y11_1 := my11_11
        obtain rfl : N = y11_1r := my11_12
        obtain rfl : y11_2 = y11_2r := ey11_2
        refine rl_bnd (c_at t) ?_
        rintro ⟨y12_1, y12_2⟩ ⟨y12_1r, y12_2r⟩ ⟨my12_11, my12_12, ey12_2⟩
        obtain rfl : M = y12_1 := my12_11
        obtain rfl : N = y12_1r := my12_12
        obtain rfl : y12_2 = y12_2r := ey12_2
        refine rl_ltA (fun x13 => ?_)
        refine rl_dr (cx_U t) (rx_7 t hq0) (fun gb14 => ?_)
        refine rl_chk (chkl (cx_U t) gb14) (fun k6 => ?_)
        refine rl_rd (cx_qj (j := 8) t hq0 (by decide) _) (fun x15 => ?_)
        refine rl_ltA (fun x16 => ?_)
        refine rl_ltA (fun x17 => ?_)
        refine rl_chk (chkl (cx_U t) gb14) (fun k7 => ?_)
        refine rl_rd (cx_qj (j := 8) t hq0 (by decide) _) (fun x18 => ?_)
        refine rl_dr (cx_U t) (rx_5 t hq0) (fun gb19 => ?_)
        refine rl_chk (chkl (cx_U t) gb19) (fun k8 => ?_)
        refine rl_rd (cx_qj (j := 6) t hq0 (by decide) _) (fun x20 => ?_)
        refine rl_bnd (Q := fun (y z : Int32) => y = z ∧ (0 ≤ y.toInt ∧ y.toInt ≤ 1)) ?_ ?_
        · refine rl_if (fun c9 => ?_) (fun c9 => ?_)
          · have dc9 := tl_eq (rfl : TI x20 x20.toInt) tn_0 c9
            refine rl_bnd (Q := fun (y z : Int32) => y = z ∧ (0 ≤ y.toInt ∧ y.toInt ≤ 1)) ?_ ?_
            · refine rl_if (fun c10 => ?_) (fun c10 => ?_)
              · have dc10 := tl_lt (rfl : TI x15 x15.toInt) tn_m1 c10
                exact rl_some ⟨rfl, (ti_bd tn_0 (by omega) (by omega))⟩
              · have dc10 := tl_nlt (rfl : TI x15 x15.toInt) tn_m1 c10
                refine rl_bnd (Q := fun (y z : Int32) => y = z ∧ (0 ≤ y.toInt ∧ y.toInt ≤ 1)) ?_ ?_
                · refine rl_if (fun c11 => ?_) (fun c11 => ?_)
                  · have dc11 := tl_lt tn_1 (rfl : TI x15 x15.toInt) c11
                    exact rl_some ⟨rfl, (ti_bd tn_0 (by omega) (by omega))⟩
                  · have dc11 := tl_nlt tn_1 (rfl : TI x15 x15.toInt) c11
                    refine rl_bnd (Q := fun (y z : Int32) => y = z ∧ (0 ≤ y.toInt ∧ y.toInt ≤ 1)) ?_ ?_
                    · refine rl_if (fun c12 => ?_) (fun c12 => ?_)
                      · have dc12 := tl_lt (rfl : TI x18 x18.toInt) tn_m1 c12
                        exact rl_some ⟨rfl, (ti_bd tn_0 (by omega) (by omega))⟩
                      · have dc12 := tl_nlt (rfl : TI x18 x18.toInt) tn_m1 c12
                        refine rl_bnd (Q := fun (y z : Int32) => y = z ∧ (0 ≤ y.toInt ∧ y.toInt ≤ 1)) ?_ ?_
                        · refine rl_if (fun c13 => ?_) (fun c13 => ?_)
                          · have dc13 := tl_lt tn_1 (rfl : TI x18 x18.toInt) c13
                            exact rl_some ⟨rfl, (ti_bd tn_0 (by omega) (by omega))⟩
                          · have dc13 := tl_nlt tn_1 (rfl : TI x18 x18.toInt) c13
                            exact rl_some ⟨rfl, (ti_bd tn_1 (by omega) (by omega))⟩
                        · rintro y29 y29r ⟨ey29, ly29⟩
                          obtain rfl : y29 = y29r := ey29
                          have ly29 : 0 ≤ y29.toInt ∧ y29.toInt ≤ 1 := ly29
                          have iy29 : TI y29 y29.toInt := rfl
                          exact rl_some ⟨rfl, (ti_bd iy29 (by omega) (by omega))⟩
                    · rintro y27 y27r ⟨ey27, ly27⟩
                      obtain rfl : y27 = y27r := ey27
                      have ly27 : 0 ≤ y27.toInt ∧ y27.toInt ≤ 1 := ly27
                      have iy27 : TI y27 y27.toInt := rfl
                      exact rl_some ⟨rfl, (ti_bd iy27 (by omega) (by omega))⟩
                · rintro y25 y25r ⟨ey25, ly25⟩
                  obtain rfl : y25 = y25r := ey25
                  have ly25 : 0 ≤ y25.toInt ∧ y25.toInt ≤ 1 := ly25
                  have iy25 : TI y25 y25.toInt := rfl
                  exact rl_some ⟨rfl, (ti_bd iy25 (by omega) (by omega))⟩
            · rintro y23 y23r ⟨ey23, ly23⟩
              obtain rfl : y23 = y23r := ey23
              have ly23 : 0 ≤ y23.toInt ∧ y23.toInt ≤ 1 := ly23
              have iy23 : TI y23 y23.toInt := rfl
              exact rl_some ⟨rfl, (ti_bd iy23 (by omega) (by omega))⟩
          · exact rl_some ⟨rfl, (ti_bd tn_0 (by omega) (by omega))⟩
        · rintro y21 y21r ⟨ey21, ly21⟩
          obtain rfl : y21 = y21r := ey21
          have ly21 : 0 ≤ y21.toInt ∧ y21.toInt ≤ 1 := ly21
          have iy21 : TI y21 y21.toInt := rfl
          refine rl_chk (fun h => h) (fun k14 => ?_)
          exact rl_some ⟨rfl, rfl, rfl⟩
      · have dc5 := tl_nle tn_0 (rfl : TI y9_2 y9_2.toInt) c5
        refine rl_chk (fun h => h) (fun k15 => ?_)
        exact rl_some ⟨rfl, rfl, rfl⟩
theorem c_entryOf {mu : Nat → Nat} {G H : GG} {M N : DD} {p : Nat} {L : List Nat} (t : CX mu G H M N p L) {p0 : Int32} : LKS (FX9_entryOf G M 125 p0) (FX9_entryOf H N (mu 125) p0) (fun y z => M = y.1 ∧ N = z.1 ∧ y.2 = z.2) := by
  unfold FX9_entryOf
  refine rl_bnd (Q := SM (fun (y z : ( Int32 )) => y = z) (fun (y z : ( DD × Int32 )) => M = y.1 ∧ N = z.1 ∧ y.2 = z.2)) (rl_itr (fun (y z : Int32) => y = z) _ ?_ _ _ _ ?_) ?_
  · rintro s2 s2r es2
    obtain rfl : s2 = s2r := es2
    refine rl_if (fun c1 => ?_) (fun c1 => ?_)
    · have dc1 := tl_le tn_8 (rfl : TI s2 s2.toInt) c1
      exact rl_inr (sm_l rfl)
    · have dc1 := tl_nle tn_8 (rfl : TI s2 s2.toInt) c1
      refine rl_dr (cx_U t) (rx_c (a := 125) (k := 3) (b := 126) t (Or.inl rfl) rfl (by decide)) (fun gb6 => ?_)
      refine rl_chk (chkl (cx_U t) gb6) (fun k2 => ?_)
      refine rl_ifD (or_iff (mu := mu) (L := L) (rx_l t _)) (fun c3 => ?_) (fun c3 => ?_)
      · refine rl_ltA (fun x8 => ?_)
        exact rl_inl rfl
      · obtain ⟨qc3, hqc3, eqc3⟩ := or_ne (rx_l t _) c3
        refine rl_chk (chkl (cx_U t) gb6) (fun k4 => ?_)
        refine rl_dr (cx_U t) eqc3 (fun gb9 => ?_)
        refine rl_rd (cx_q (j := 0) (k := 0) t hqc3 rfl) (fun x10 => ?_)
        refine rl_if (fun c5 => ?_) (fun c5 => ?_)
        · have dc5 := tl_eq (rfl : TI x10 x10.toInt) (rfl : TI p0 p0.toInt) c5
          exact rl_inr (sm_r ⟨rfl, rfl, rfl⟩)
        · refine rl_ltA (fun x12 => ?_)
          exact rl_inl rfl
  · exact rfl
  · intro y1 y1r hyy1
    refine rl_sel hyy1 ?_ (fun a b h => rl_some h)
    rintro z1k z1kr ez1k
    obtain rfl : z1k = z1kr := ez1k
    exact rl_some ⟨rfl, rfl, rfl⟩
theorem c_setQuarter {mu : Nat → Nat} {G H : GG} {M N : DD} {p : Nat} {L : List Nat} (t : CX mu G H M N p L) {p0 : Int32} {p1 : Int32} {p2 : Int32} {p3 : Int32} {p4 : Int32} {p5 : Int32} : LKS (FX9_setQuarter G M 125 p0 p1 p2 p3 p4 p5) (FX9_setQuarter H N (mu 125) p0 p1 p2 p3 p4 p5) (fun y z => Up mu p M N y z) := by
  unfold FX9_setQuarter
  refine rl_bnd (Q := fun (y z : Option Nat) => OR mu L y z) ?_ ?_
  · refine rl_if (fun c1 => ?_) (fun c1 => ?_)
    · have dc1 := tl_le tn_0 (rfl : TI p3 p3.toInt) c1
      refine rl_ltA (fun x34 => ?_)
      refine rl_ltA (fun x35 => ?_)
      refine rl_dr (cx_U t) (rx_c (a := 125) (k := 3) (b := 126) t (Or.inl rfl) rfl (by decide)) (fun gb36 => ?_)
      refine rl_chk (chkl (cx_U t) gb36) (fun k2 => ?_)
      exact rl_some (rx_l t _)
    · have dc1 := tl_nle tn_0 (rfl : TI p3 p3.toInt) c1
      exact rl_some (Or.inl ⟨rfl, rfl⟩)
  · rintro y1 y1r oy1
    refine rl_bnd (Q := fun (y z : Int32 × DD) => y.1 = z.1 ∧ Up mu p M N y.2 z.2) (rl_itr (fun (y z : Int32 × DD) => y.1 = z.1 ∧ Up mu p M N y.2 z.2) _ ?_ _ _ _ ?_) ?_
    · rintro ⟨s3_1, s3_2⟩ ⟨s3_1r, s3_2r⟩ ⟨es3_1, us3_2⟩
      obtain rfl : s3_1 = s3_1r := es3_1
      have us3_2 : Up mu p M N s3_2 s3_2r := us3_2
      have ts3_2 := cx_up t us3_2
      refine rl_if (fun c3 => ?_) (fun c3 => ?_)
      · have dc3 := tl_le tn_4 (rfl : TI s3_1 s3_1.toInt) c3
        exact rl_inr ⟨rfl, us3_2⟩
      · have dc3 := tl_nle tn_4 (rfl : TI s3_1 s3_1.toInt) c3
        refine rl_ltA (fun x7 => ?_)
        refine rl_ltA (fun x8 => ?_)
        refine rl_ltA (fun x9 => ?_)
        refine rl_ltA (fun x10 => ?_)
        refine rl_ltA (fun x11 => ?_)
        refine rl_ltA (fun x12 => ?_)
        refine rl_dr (cx_U ts3_2) (rx_p ts3_2) (fun gb13 => ?_)
        refine rl_dr (cx_U ts3_2) (rx_5 ts3_2 (cx_p t)) (fun gb14 => ?_)
        refine rl_chk (chkl (cx_U ts3_2) gb14) (fun k4 => ?_)
        refine rl_w (κ := p) (cx_U ts3_2) (by have := cx_q0 ts3_2 (cx_p ts3_2); omega) (fun M15 M15r uM15 AM15 nM15 => ?_)
        have tM15 := cx_up ts3_2 uM15
        refine rl_dr (cx_U tM15) (rx_p tM15) (fun gb16 => ?_)
        refine rl_bnd (Q := fun (y z : Int32) => y = z) ?_ ?_
        · refine rl_ifD (or_iff (mu := mu) (L := L) oy1) (fun c5 => ?_) (fun c5 => ?_)
          · exact rl_some rfl
          · obtain ⟨qc5, hqc5, eqc5⟩ := or_ne oy1 c5
            refine rl_dr (cx_U tM15) eqc5 (fun gb31 => ?_)
            refine rl_rd (cx_q (j := 0) (k := 0) tM15 hqc5 rfl) (fun x32 => ?_)
            exact rl_some rfl
        · rintro y17 y17r ey17
          obtain rfl : y17 = y17r := ey17
          refine rl_dr (cx_U tM15) (rx_6 tM15 (cx_p t)) (fun gb18 => ?_)
          refine rl_chk (chkl (cx_U tM15) gb18) (fun k6 => ?_)
          refine rl_w (κ := p) (cx_U tM15) (by have := cx_q0 tM15 (cx_p tM15); omega) (fun M19 M19r uM19 AM19 nM19 => ?_)
          have tM19 := cx_up tM15 uM19
          refine rl_dr (cx_U tM19) (rx_p tM19) (fun gb20 => ?_)
          refine rl_ltA (fun x21 => ?_)
          refine rl_dr (cx_U tM19) (rx_7 tM19 (cx_p t)) (fun gb22 => ?_)
          refine rl_chk (chkl (cx_U tM19) gb22) (fun k7 => ?_)
          refine rl_w (κ := p) (cx_U tM19) (by have := cx_q0 tM19 (cx_p tM19); omega) (fun M23 M23r uM23 AM23 nM23 => ?_)
          have tM23 := cx_up tM19 uM23
          refine rl_dr (cx_U tM23) (rx_p tM23) (fun gb24 => ?_)
          refine rl_ltA (fun x25 => ?_)
          refine rl_ltA (fun x26 => ?_)
          refine rl_dr (cx_U tM23) (rx_7 tM23 (cx_p t)) (fun gb27 => ?_)
          refine rl_chk (chkl (cx_U tM23) gb27) (fun k8 => ?_)
          refine rl_w (κ := p) (cx_U tM23) (by have := cx_q0 tM23 (cx_p tM23); omega) (fun M28 M28r uM28 AM28 nM28 => ?_)
          have tM28 := cx_up tM23 uM28
          refine rl_ltA (fun x29 => ?_)
          exact rl_inl ⟨rfl, (up_tr (up_tr (up_tr (up_tr us3_2 uM15) uM19) uM23) uM28)⟩
    · exact ⟨rfl, (up_0 mu (κ := p) _ _)⟩
    · rintro ⟨y2_1, y2_2⟩ ⟨y2_1r, y2_2r⟩ ⟨ey2_1, uy2_2⟩
      obtain rfl : y2_1 = y2_1r := ey2_1
      have uy2_2 : Up mu p M N y2_2 y2_2r := uy2_2
      have ty2_2 := cx_up t uy2_2
      exact rl_some uy2_2
theorem c_setMove {mu : Nat → Nat} {G H : GG} {M N : DD} {p : Nat} {L : List Nat} (t : CX mu G H M N p L) {p0 : Int32} {p1 : Int32} {p2 : Int32} {a2 : Int} (i2 : TI p2 a2) {p3 : Int32} {p4 : Int32} (h0 : 0 ≤ a2) (h1 : a2 ≤ 15) (hp : FG mu M N 135 (CPp a2)) : LKS (FX9_setMove G M 125 p0 p1 p2 p3 p4) (FX9_setMove H N (mu 125) p0 p1 p2 p3 p4) (fun y z => Up mu p M N y z) := by
  unfold FX9_setMove
  refine rl_ltI (av_mul tn_5 i2 (by omega) (by omega)) (fun x1 ix1 => ?_)
  refine rl_dr (cx_U t) (rx_c (a := 125) (k := 13) (b := 135) t (Or.inl rfl) rfl (by decide)) (fun gb2 => ?_)
  refine rl_chk (chkl (cx_U t) gb2) (fun k1 => ?_)
  refine rl_rd (fg_use hp ix1 (by omega) (fun k hk => by unfold CPp; omega)) (fun x3 => ?_)
  refine rl_bnd (c_pieceX t) ?_
  rintro ⟨y4_1, y4_2⟩ ⟨y4_1r, y4_2r⟩ ⟨my4_11, my4_12, ey4_2⟩
  obtain rfl : M = y4_1 := my4_11
  obtain rfl : N = y4_1r := my4_12
  obtain rfl : y4_2 = y4_2r := ey4_2
  refine rl_ltI (av_mul tn_5 i2 (by omega) (by omega)) (fun x5 ix5 => ?_)
  refine rl_dr (cx_U t) (rx_c (a := 125) (k := 13) (b := 135) t (Or.inl rfl) rfl (by decide)) (fun gb6 => ?_)
  refine rl_chk (chkl (cx_U t) gb6) (fun k2 => ?_)
  refine rl_rd (fg_use hp ix5 (by omega) (fun k hk => by unfold CPp; omega)) (fun x7 => ?_)
  refine rl_bnd (c_pieceY t) ?_
  rintro ⟨y8_1, y8_2⟩ ⟨y8_1r, y8_2r⟩ ⟨my8_11, my8_12, ey8_2⟩
  obtain rfl : M = y8_1 := my8_11
  obtain rfl : N = y8_1r := my8_12
  obtain rfl : y8_2 = y8_2r := ey8_2
  refine rl_bnd (Q := fun (y z : Int32 × DD) => y.1 = z.1 ∧ Up mu p M N y.2 z.2) (rl_itr (fun (y z : Int32 × DD) => y.1 = z.1 ∧ Up mu p M N y.2 z.2) _ ?_ _ _ _ ?_) ?_
  · rintro ⟨s10_1, s10_2⟩ ⟨s10_1r, s10_2r⟩ ⟨es10_1, us10_2⟩
    obtain rfl : s10_1 = s10_1r := es10_1
    have us10_2 : Up mu p M N s10_2 s10_2r := us10_2
    have ts10_2 := cx_up t us10_2
    have wp_s10_2 := fg_up us10_2 hp
    refine rl_if (fun c3 => ?_) (fun c3 => ?_)
    · have dc3 := tl_le tn_16 (rfl : TI s10_1 s10_1.toInt) c3
      exact rl_inr ⟨rfl, us10_2⟩
    · have dc3 := tl_nle tn_16 (rfl : TI s10_1 s10_1.toInt) c3
      refine rl_bnd (c_pieceX ts10_2) ?_
      rintro ⟨y14_1, y14_2⟩ ⟨y14_1r, y14_2r⟩ ⟨my14_11, my14_12, ey14_2⟩
      obtain rfl : s10_2 = y14_1 := my14_11
      obtain rfl : s10_2r = y14_1r := my14_12
      obtain rfl : y14_2 = y14_2r := ey14_2
      refine rl_ltA (fun x15 => ?_)
      refine rl_bnd (c_pieceY ts10_2) ?_
      rintro ⟨y16_1, y16_2⟩ ⟨y16_1r, y16_2r⟩ ⟨my16_11, my16_12, ey16_2⟩
      obtain rfl : s10_2 = y16_1 := my16_11
      obtain rfl : s10_2r = y16_1r := my16_12
      obtain rfl : y16_2 = y16_2r := ey16_2
      refine rl_ltA (fun x17 => ?_)
      refine rl_bnd (Q := fun (y z : DD) => Up mu p s10_2 s10_2r y z) ?_ ?_
      · refine rl_if (fun c4 => ?_) (fun c4 => ?_)
        · have dc4 := tl_lt (rfl : TI x15 x15.toInt) tn_0 c4
          exact rl_some (up_0 mu (κ := p) _ _)
        · have dc4 := tl_nlt (rfl : TI x15 x15.toInt) tn_0 c4
          refine rl_ltI (av_mul tn_5 i2 (by omega) (by omega)) (fun x21 ix21 => ?_)
          refine rl_ltI (av_add ix21 tn_1 (by omega) (by omega)) (fun x22 ix22 => ?_)
          refine rl_dr (cx_U ts10_2) (rx_c (a := 125) (k := 13) (b := 135) ts10_2 (Or.inl rfl) rfl (by decide)) (fun gb23 => ?_)
          refine rl_chk (chkl (cx_U ts10_2) gb23) (fun k5 => ?_)
          refine rl_rd (fg_use wp_s10_2 ix22 (by omega) (fun k hk => by unfold CPp; omega)) (fun x24 => ?_)
          refine rl_bnd (Q := fun (y z : DD) => Up mu p s10_2 s10_2r y z) ?_ ?_
          · refine rl_if (fun c6 => ?_) (fun c6 => ?_)
            · have dc6 := tl_le (rfl : TI x24 x24.toInt) (rfl : TI x15 x15.toInt) c6
              exact rl_some (up_0 mu (κ := p) _ _)
            · have dc6 := tl_nle (rfl : TI x24 x24.toInt) (rfl : TI x15 x15.toInt) c6
              refine rl_bnd (Q := fun (y z : DD) => Up mu p s10_2 s10_2r y z) ?_ ?_
              · refine rl_if (fun c7 => ?_) (fun c7 => ?_)
                · have dc7 := tl_lt (rfl : TI x17 x17.toInt) tn_0 c7
                  exact rl_some (up_0 mu (κ := p) _ _)
                · have dc7 := tl_nlt (rfl : TI x17 x17.toInt) tn_0 c7
                  refine rl_ltI (av_mul tn_5 i2 (by omega) (by omega)) (fun x29 ix29 => ?_)
                  refine rl_ltI (av_add ix29 tn_2 (by omega) (by omega)) (fun x30 ix30 => ?_)
                  refine rl_chk (chkl (cx_U ts10_2) gb23) (fun k8 => ?_)
                  refine rl_rd (fg_use wp_s10_2 ix30 (by omega) (fun k hk => by unfold CPp; omega)) (fun x31 => ?_)
                  refine rl_bnd (Q := fun (y z : DD) => Up mu p s10_2 s10_2r y z) ?_ ?_
                  · refine rl_if (fun c9 => ?_) (fun c9 => ?_)
                    · have dc9 := tl_le (rfl : TI x31 x31.toInt) (rfl : TI x17 x17.toInt) c9
                      exact rl_some (up_0 mu (κ := p) _ _)
                    · have dc9 := tl_nle (rfl : TI x31 x31.toInt) (rfl : TI x17 x17.toInt) c9
                      refine rl_ltA (fun x34 => ?_)
                      refine rl_ltA (fun x35 => ?_)
                      refine rl_bnd (c_at ts10_2) ?_
                      rintro ⟨y36_1, y36_2⟩ ⟨y36_1r, y36_2r⟩ ⟨my36_11, my36_12, ey36_2⟩
                      obtain rfl : s10_2 = y36_1 := my36_11
                      obtain rfl : s10_2r = y36_1r := my36_12
                      obtain rfl : y36_2 = y36_2r := ey36_2
                      refine rl_ltA (fun x37 => ?_)
                      refine rl_dr (cx_U ts10_2) (rx_p ts10_2) (fun gb38 => ?_)
                      refine rl_dr (cx_U ts10_2) (rx_7 ts10_2 (cx_p t)) (fun gb39 => ?_)
                      refine rl_chk (chkl (cx_U ts10_2) gb39) (fun k10 => ?_)
                      refine rl_w (κ := p) (cx_U ts10_2) (by have := cx_q0 ts10_2 (cx_p ts10_2); omega) (fun M40 M40r uM40 AM40 nM40 => ?_)
                      have tM40 := cx_up ts10_2 uM40
                      have wp_M40 := fg_up uM40 wp_s10_2
                      refine rl_dr (cx_U tM40) (rx_p tM40) (fun gb41 => ?_)
                      refine rl_ltA (fun x42 => ?_)
                      refine rl_dr (cx_U tM40) (rx_7 tM40 (cx_p t)) (fun gb43 => ?_)
                      refine rl_chk (chkl (cx_U tM40) gb43) (fun k11 => ?_)
                      refine rl_w (κ := p) (cx_U tM40) (by have := cx_q0 tM40 (cx_p tM40); omega) (fun M44 M44r uM44 AM44 nM44 => ?_)
                      have tM44 := cx_up tM40 uM44
                      have wp_M44 := fg_up uM44 wp_M40
                      exact rl_some (up_tr uM40 uM44)
                  · rintro y32 y32r uy32
                    have uy32 : Up mu p s10_2 s10_2r y32 y32r := uy32
                    have ty32 := cx_up ts10_2 uy32
                    have wp_y32 := fg_up uy32 wp_s10_2
                    exact rl_some uy32
              · rintro y27 y27r uy27
                have uy27 : Up mu p s10_2 s10_2r y27 y27r := uy27
                have ty27 := cx_up ts10_2 uy27
                have wp_y27 := fg_up uy27 wp_s10_2
                exact rl_some uy27
          · rintro y25 y25r uy25
            have uy25 : Up mu p s10_2 s10_2r y25 y25r := uy25
            have ty25 := cx_up ts10_2 uy25
            have wp_y25 := fg_up uy25 wp_s10_2
            exact rl_some uy25
      · rintro y18 y18r uy18
        have uy18 : Up mu p s10_2 s10_2r y18 y18r := uy18
        have ty18 := cx_up ts10_2 uy18
        have wp_y18 := fg_up uy18 wp_s10_2
        refine rl_ltA (fun x19 => ?_)
        exact rl_inl ⟨rfl, (up_tr us10_2 uy18)⟩
  · exact ⟨rfl, (up_0 mu (κ := p) _ _)⟩
  · rintro ⟨y9_1, y9_2⟩ ⟨y9_1r, y9_2r⟩ ⟨ey9_1, uy9_2⟩
    obtain rfl : y9_1 = y9_1r := ey9_1
    have uy9_2 : Up mu p M N y9_2 y9_2r := uy9_2
    have ty9_2 := cx_up t uy9_2
    have wp_y9_2 := fg_up uy9_2 hp
    exact rl_some uy9_2
theorem c_setReference {mu : Nat → Nat} {G H : GG} {M N : DD} {p : Nat} {L : List Nat} (t : CX mu G H M N p L) {p0 : Int32} {p1 : Int32} {a1 : Int} (i1 : TI p1 a1) {p2 : Int32} {a2 : Int} (i2 : TI p2 a2) {p3 : Int32} {a3 : Int} (i3 : TI p3 a3) (h0 : 0 ≤ a1) (h1 : a1 ≤ 1) (h2 : 0 ≤ a2) (h3 : a2 ≤ 3) (h4 : 0 ≤ a3) (h5 : a3 ≤ 7) (hp : FG mu M N 136 (CGp a2)) : LKS (FX9_setReference G M 125 p0 p1 p2 p3) (FX9_setReference H N (mu 125) p0 p1 p2 p3) (fun y z => Up mu p M N y z) := by
  unfold FX9_setReference
  refine rl_ltI (av_mul tn_9 i1 (by omega) (by omega)) (fun x1 ix1 => ?_)
  refine rl_ltI (av_add ix1 i3 (by omega) (by omega)) (fun x2 ix2 => ?_)
  refine rl_dr (cx_U t) (rx_c (a := 125) (k := 3) (b := 126) t (Or.inl rfl) rfl (by decide)) (fun gb3 => ?_)
  refine rl_chk (chkl (cx_U t) gb3) (fun k1 => ?_)
  refine rl_ltI (av_mul tn_4 i2 (by omega) (by omega)) (fun x4 ix4 => ?_)
  refine rl_dr (cx_U t) (rx_c (a := 125) (k := 15) (b := 136) t (Or.inl rfl) rfl (by decide)) (fun gb5 => ?_)
  refine rl_chk (chkl (cx_U t) gb5) (fun k2 => ?_)
  refine rl_rd (fg_use hp ix4 (by omega) (fun k hk => by unfold CGp; omega)) (fun x6 => ?_)
  refine rl_bnd (c_pieceX t) ?_
  rintro ⟨y7_1, y7_2⟩ ⟨y7_1r, y7_2r⟩ ⟨my7_11, my7_12, ey7_2⟩
  obtain rfl : M = y7_1 := my7_11
  obtain rfl : N = y7_1r := my7_12
  obtain rfl : y7_2 = y7_2r := ey7_2
  refine rl_ltI (av_mul tn_4 i2 (by omega) (by omega)) (fun x8 ix8 => ?_)
  refine rl_dr (cx_U t) (rx_c (a := 125) (k := 15) (b := 136) t (Or.inl rfl) rfl (by decide)) (fun gb9 => ?_)
  refine rl_chk (chkl (cx_U t) gb9) (fun k3 => ?_)
  refine rl_rd (fg_use hp ix8 (by omega) (fun k hk => by unfold CGp; omega)) (fun x10 => ?_)
  refine rl_bnd (c_pieceY t) ?_
  rintro ⟨y11_1, y11_2⟩ ⟨y11_1r, y11_2r⟩ ⟨my11_11, my11_12, ey11_2⟩
  obtain rfl : M = y11_1 := my11_11
  obtain rfl : N = y11_1r := my11_12
  obtain rfl : y11_2 = y11_2r := ey11_2
  refine rl_bnd (Q := fun (y z : Int32 × DD) => y.1 = z.1 ∧ Up mu p M N y.2 z.2) (rl_itr (fun (y z : Int32 × DD) => y.1 = z.1 ∧ Up mu p M N y.2 z.2) _ ?_ _ _ _ ?_) ?_
  · rintro ⟨s13_1, s13_2⟩ ⟨s13_1r, s13_2r⟩ ⟨es13_1, us13_2⟩
    obtain rfl : s13_1 = s13_1r := es13_1
    have us13_2 : Up mu p M N s13_2 s13_2r := us13_2
    have ts13_2 := cx_up t us13_2
    have wp_s13_2 := fg_up us13_2 hp
    refine rl_if (fun c4 => ?_) (fun c4 => ?_)
    · have dc4 := tl_le tn_16 (rfl : TI s13_1 s13_1.toInt) c4
      exact rl_inr ⟨rfl, us13_2⟩
    · have dc4 := tl_nle tn_16 (rfl : TI s13_1 s13_1.toInt) c4
      refine rl_bnd (c_pieceX ts13_2) ?_
      rintro ⟨y17_1, y17_2⟩ ⟨y17_1r, y17_2r⟩ ⟨my17_11, my17_12, ey17_2⟩
      obtain rfl : s13_2 = y17_1 := my17_11
      obtain rfl : s13_2r = y17_1r := my17_12
      obtain rfl : y17_2 = y17_2r := ey17_2
      refine rl_ltA (fun x18 => ?_)
      refine rl_bnd (c_pieceY ts13_2) ?_
      rintro ⟨y19_1, y19_2⟩ ⟨y19_1r, y19_2r⟩ ⟨my19_11, my19_12, ey19_2⟩
      obtain rfl : s13_2 = y19_1 := my19_11
      obtain rfl : s13_2r = y19_1r := my19_12
      obtain rfl : y19_2 = y19_2r := ey19_2
      refine rl_ltA (fun x20 => ?_)
      refine rl_bnd (Q := fun (y z : DD) => Up mu p s13_2 s13_2r y z) ?_ ?_
      · refine rl_if (fun c5 => ?_) (fun c5 => ?_)
        · have dc5 := tl_lt (rfl : TI x18 x18.toInt) tn_0 c5
          exact rl_some (up_0 mu (κ := p) _ _)
        · have dc5 := tl_nlt (rfl : TI x18 x18.toInt) tn_0 c5
          refine rl_ltI (av_mul tn_4 i2 (by omega) (by omega)) (fun x24 ix24 => ?_)
          refine rl_ltI (av_add ix24 tn_1 (by omega) (by omega)) (fun x25 ix25 => ?_)
          refine rl_dr (cx_U ts13_2) (rx_c (a := 125) (k := 15) (b := 136) ts13_2 (Or.inl rfl) rfl (by decide)) (fun gb26 => ?_)
          refine rl_chk (chkl (cx_U ts13_2) gb26) (fun k6 => ?_)
          refine rl_rd (fg_use wp_s13_2 ix25 (by omega) (fun k hk => by unfold CGp; omega)) (fun x27 => ?_)
          refine rl_bnd (Q := fun (y z : DD) => Up mu p s13_2 s13_2r y z) ?_ ?_
          · refine rl_if (fun c7 => ?_) (fun c7 => ?_)
            · have dc7 := tl_le (rfl : TI x27 x27.toInt) (rfl : TI x18 x18.toInt) c7
              exact rl_some (up_0 mu (κ := p) _ _)
            · have dc7 := tl_nle (rfl : TI x27 x27.toInt) (rfl : TI x18 x18.toInt) c7
              refine rl_bnd (Q := fun (y z : DD) => Up mu p s13_2 s13_2r y z) ?_ ?_
              · refine rl_if (fun c8 => ?_) (fun c8 => ?_)
                · have dc8 := tl_lt (rfl : TI x20 x20.toInt) tn_0 c8
                  exact rl_some (up_0 mu (κ := p) _ _)
                · have dc8 := tl_nlt (rfl : TI x20 x20.toInt) tn_0 c8
                  refine rl_ltI (av_mul tn_4 i2 (by omega) (by omega)) (fun x32 ix32 => ?_)
                  refine rl_ltI (av_add ix32 tn_2 (by omega) (by omega)) (fun x33 ix33 => ?_)
                  refine rl_chk (chkl (cx_U ts13_2) gb26) (fun k9 => ?_)
                  refine rl_rd (fg_use wp_s13_2 ix33 (by omega) (fun k hk => by unfold CGp; omega)) (fun x34 => ?_)
                  refine rl_bnd (Q := fun (y z : DD) => Up mu p s13_2 s13_2r y z) ?_ ?_
                  · refine rl_if (fun c10 => ?_) (fun c10 => ?_)
                    · have dc10 := tl_le (rfl : TI x34 x34.toInt) (rfl : TI x20 x20.toInt) c10
                      exact rl_some (up_0 mu (κ := p) _ _)
                    · have dc10 := tl_nle (rfl : TI x34 x34.toInt) (rfl : TI x20 x20.toInt) c10
                      refine rl_ltA (fun x37 => ?_)
                      refine rl_ltA (fun x38 => ?_)
                      refine rl_bnd (c_at ts13_2) ?_
                      rintro ⟨y39_1, y39_2⟩ ⟨y39_1r, y39_2r⟩ ⟨my39_11, my39_12, ey39_2⟩
                      obtain rfl : s13_2 = y39_1 := my39_11
                      obtain rfl : s13_2r = y39_1r := my39_12
                      obtain rfl : y39_2 = y39_2r := ey39_2
                      refine rl_dr (cx_U ts13_2) (rx_p ts13_2) (fun gb40 => ?_)
                      refine rl_dr (cx_U ts13_2) (rx_5 ts13_2 (cx_p t)) (fun gb41 => ?_)
                      refine rl_chk (chkl (cx_U ts13_2) gb41) (fun k11 => ?_)
                      refine rl_w (κ := p) (cx_U ts13_2) (by have := cx_q0 ts13_2 (cx_p ts13_2); omega) (fun M42 M42r uM42 AM42 nM42 => ?_)
                      have tM42 := cx_up ts13_2 uM42
                      have wp_M42 := fg_up uM42 wp_s13_2
                      refine rl_dr (cx_U tM42) (rx_p tM42) (fun gb43 => ?_)
                      refine rl_bnd (Q := fun (y z : Int32) => y = z) ?_ ?_
                      · refine rl_ifD (or_iff (mu := mu) (L := L) (rx_l t _)) (fun c12 => ?_) (fun c12 => ?_)
                        · exact rl_some rfl
                        · obtain ⟨qc12, hqc12, eqc12⟩ := or_ne (rx_l t _) c12
                          refine rl_dr (cx_U tM42) eqc12 (fun gb48 => ?_)
                          refine rl_rd (cx_q (j := 0) (k := 0) tM42 hqc12 rfl) (fun x49 => ?_)
                          exact rl_some rfl
                      · rintro y44 y44r ey44
                        obtain rfl : y44 = y44r := ey44
                        refine rl_dr (cx_U tM42) (rx_6 tM42 (cx_p t)) (fun gb45 => ?_)
                        refine rl_chk (chkl (cx_U tM42) gb45) (fun k13 => ?_)
                        refine rl_w (κ := p) (cx_U tM42) (by have := cx_q0 tM42 (cx_p tM42); omega) (fun M46 M46r uM46 AM46 nM46 => ?_)
                        have tM46 := cx_up tM42 uM46
                        have wp_M46 := fg_up uM46 wp_M42
                        exact rl_some (up_tr uM42 uM46)
                  · rintro y35 y35r uy35
                    have uy35 : Up mu p s13_2 s13_2r y35 y35r := uy35
                    have ty35 := cx_up ts13_2 uy35
                    have wp_y35 := fg_up uy35 wp_s13_2
                    exact rl_some uy35
              · rintro y30 y30r uy30
                have uy30 : Up mu p s13_2 s13_2r y30 y30r := uy30
                have ty30 := cx_up ts13_2 uy30
                have wp_y30 := fg_up uy30 wp_s13_2
                exact rl_some uy30
          · rintro y28 y28r uy28
            have uy28 : Up mu p s13_2 s13_2r y28 y28r := uy28
            have ty28 := cx_up ts13_2 uy28
            have wp_y28 := fg_up uy28 wp_s13_2
            exact rl_some uy28
      · rintro y21 y21r uy21
        have uy21 : Up mu p s13_2 s13_2r y21 y21r := uy21
        have ty21 := cx_up ts13_2 uy21
        have wp_y21 := fg_up uy21 wp_s13_2
        refine rl_ltA (fun x22 => ?_)
        exact rl_inl ⟨rfl, (up_tr us13_2 uy21)⟩
  · exact ⟨rfl, (up_0 mu (κ := p) _ _)⟩
  · rintro ⟨y12_1, y12_2⟩ ⟨y12_1r, y12_2r⟩ ⟨ey12_1, uy12_2⟩
    obtain rfl : y12_1 = y12_1r := ey12_1
    have uy12_2 : Up mu p M N y12_2 y12_2r := uy12_2
    have ty12_2 := cx_up t uy12_2
    have wp_y12_2 := fg_up uy12_2 hp
    exact rl_some uy12_2
theorem c_leastReference {mu : Nat → Nat} {G H : GG} {M N : DD} {p : Nat} {L : List Nat} (t : CX mu G H M N p L) {p0 : Int32} {a0 : Int} (i0 : TI p0 a0) {p1 : Int32} {a1 : Int} (i1 : TI p1 a1) (h0 : 0 ≤ a0) (h1 : a0 ≤ 3) (h2 : 0 ≤ a1) (h3 : a1 ≤ 1) (hw : (M.1 p 1).toInt = 1 ∨ (M.1 p 1).toInt = 2) : LKS (FX9_leastReference G M 125 p0 p1) (FX9_leastReference H N (mu 125) p0 p1) (fun y z => M = y.1 ∧ N = z.1 ∧ y.2 = z.2) := by
  unfold FX9_leastReference
  refine rl_bnd (b_pieceAt (bx_of t) i0 tn_16 tn_m1 tn_0 (by omega) (by omega) (by omega) (by omega) (by omega) (by omega) (by omega) (by omega) hw (fg_i t)) ?_
  rintro ⟨y1_1, y1_2⟩ ⟨y1_1r, y1_2r⟩ ⟨my1_11, my1_12, ey1_2, ly1_2⟩
  obtain rfl : M = y1_1 := my1_11
  obtain rfl : N = y1_1r := my1_12
  obtain rfl : y1_2 = y1_2r := ey1_2
  dsimp only at ly1_2
  have iy1_2 : TI y1_2 y1_2.toInt := rfl
  replace ly1_2 := pk_of ly1_2
  refine rl_bnd (Q := fun (y z : Int32 × DD) => y.1 = z.1 ∧ (-1 ≤ y.1.toInt ∧ y.1.toInt ≤ 63) ∧ M = y.2 ∧ N = z.2 ∧ ((-1 ≤ y.1.toInt ∧ y.1.toInt ≤ 63) ∧ (0 ≤ y.1.toInt → y.1.toInt / 16 ≠ a0 ∨ y.1.toInt % 16 < 0))) ?_ ?_
  · refine rl_if (fun c1 => ?_) (fun c1 => ?_)
    · have dc1 := tl_le tn_0 iy1_2 c1
      exact rl_some ⟨rfl, (ti_bd iy1_2 (by omega) (by omega)), rfl, rfl, (by have q : _ = _ := iy1_2; (try dsimp only) <;> omega)⟩
    · have dc1 := tl_nle tn_0 iy1_2 c1
      refine rl_bnd (b_pieceAt (bx_of t) i0 tn_m1 tn_m1 tn_0 (by omega) (by omega) (by omega) (by omega) (by omega) (by omega) (by omega) (by omega) hw (fg_i t)) ?_
      rintro ⟨y21_1, y21_2⟩ ⟨y21_1r, y21_2r⟩ ⟨my21_11, my21_12, ey21_2, ly21_2⟩
      obtain rfl : M = y21_1 := my21_11
      obtain rfl : N = y21_1r := my21_12
      obtain rfl : y21_2 = y21_2r := ey21_2
      dsimp only at ly21_2
      have iy21_2 : TI y21_2 y21_2.toInt := rfl
      replace ly21_2 := pk_of ly21_2
      exact rl_some ⟨rfl, (ti_bd iy21_2 (by omega) (by omega)), rfl, rfl, (by have q : _ = _ := iy21_2; (try dsimp only) <;> omega)⟩
  · rintro ⟨y2_1, y2_2⟩ ⟨y2_1r, y2_2r⟩ ⟨ey2_1, ly2_1, my2_21, my2_22, jy2⟩
    obtain rfl : y2_1 = y2_1r := ey2_1
    have ly2_1 : -1 ≤ y2_1.toInt ∧ y2_1.toInt ≤ 63 := ly2_1
    have iy2_1 : TI y2_1 y2_1.toInt := rfl
    obtain rfl : M = y2_2 := my2_21
    obtain rfl : N = y2_2r := my2_22
    have jy2 : (-1 ≤ y2_1.toInt ∧ y2_1.toInt ≤ 63) ∧ (0 ≤ y2_1.toInt → y2_1.toInt / 16 ≠ a0 ∨ y2_1.toInt % 16 < 0) := jy2
    refine rl_bnd (b_pieceAt (bx_of t) i0 tn_m1 tn_0 tn_0 (by omega) (by omega) (by omega) (by omega) (by omega) (by omega) (by omega) (by omega) hw (fg_i t)) ?_
    rintro ⟨y3_1, y3_2⟩ ⟨y3_1r, y3_2r⟩ ⟨my3_11, my3_12, ey3_2, ly3_2⟩
    obtain rfl : M = y3_1 := my3_11
    obtain rfl : N = y3_1r := my3_12
    obtain rfl : y3_2 = y3_2r := ey3_2
    dsimp only at ly3_2
    have iy3_2 : TI y3_2 y3_2.toInt := rfl
    replace ly3_2 := pk_of ly3_2
    refine rl_bnd (b_referenceAt (bx_of t) i1 iy3_2 (by omega) (by omega) (by omega) (by omega) (by omega) (fg_p6 (lim := 0) (mb := a0) t)) ?_
    rintro ⟨y4_1, y4_2⟩ ⟨y4_1r, y4_2r⟩ ⟨my4_11, my4_12, ey4_2⟩
    obtain rfl : M = y4_1 := my4_11
    obtain rfl : N = y4_1r := my4_12
    obtain rfl : y4_2 = y4_2r := ey4_2
    refine rl_bnd (b_pieceAt (bx_of t) i0 tn_0 tn_m1 tn_0 (by omega) (by omega) (by omega) (by omega) (by omega) (by omega) (by omega) (by omega) hw (fg_i t)) ?_
    rintro ⟨y5_1, y5_2⟩ ⟨y5_1r, y5_2r⟩ ⟨my5_11, my5_12, ey5_2, ly5_2⟩
    obtain rfl : M = y5_1 := my5_11
    obtain rfl : N = y5_1r := my5_12
    obtain rfl : y5_2 = y5_2r := ey5_2
    dsimp only at ly5_2
    have iy5_2 : TI y5_2 y5_2.toInt := rfl
    replace ly5_2 := pk_of ly5_2
    refine rl_bnd (b_referenceAt (bx_of t) i1 iy5_2 (by omega) (by omega) (by omega) (by omega) (by omega) (fg_p6 (lim := 0) (mb := a0) t)) ?_
    rintro ⟨y6_1, y6_2⟩ ⟨y6_1r, y6_2r⟩ ⟨my6_11, my6_12, ey6_2⟩
    obtain rfl : M = y6_1 := my6_11
    obtain rfl : N = y6_1r := my6_12
    obtain rfl : y6_2 = y6_2r := ey6_2
    refine rl_bnd (b_referenceAt (bx_of t) i1 iy2_1 (by omega) (by omega) (by omega) (by omega) (by omega) (fg_p6 (lim := 0) (mb := a0) t)) ?_
    rintro ⟨y7_1, y7_2⟩ ⟨y7_1r, y7_2r⟩ ⟨my7_11, my7_12, ey7_2⟩
    obtain rfl : M = y7_1 := my7_11
    obtain rfl : N = y7_1r := my7_12
    obtain rfl : y7_2 = y7_2r := ey7_2
    refine rl_bnd (Q := fun (y z : Int32) => y = z) ?_ ?_
    · refine rl_if (fun c2 => ?_) (fun c2 => ?_)
      · have dc2 := tl_lt (rfl : TI y4_2 y4_2.toInt) tn_0 c2
        exact rl_some rfl
      · have dc2 := tl_nlt (rfl : TI y4_2 y4_2.toInt) tn_0 c2
        refine rl_bnd (Q := fun (y z : Int32) => y = z) ?_ ?_
        · refine rl_if (fun c3 => ?_) (fun c3 => ?_)
          · have dc3 := tl_lt (rfl : TI y6_2 y6_2.toInt) tn_0 c3
            exact rl_some rfl
          · have dc3 := tl_nlt (rfl : TI y6_2 y6_2.toInt) tn_0 c3
            refine rl_bnd (Q := fun (y z : Int32) => y = z) ?_ ?_
            · refine rl_if (fun c4 => ?_) (fun c4 => ?_)
              · have dc4 := tl_le (rfl : TI y4_2 y4_2.toInt) (rfl : TI y6_2 y6_2.toInt) c4
                exact rl_some rfl
              · have dc4 := tl_nle (rfl : TI y4_2 y4_2.toInt) (rfl : TI y6_2 y6_2.toInt) c4
                exact rl_some rfl
            · rintro y18 y18r ey18
              obtain rfl : y18 = y18r := ey18
              exact rl_some rfl
        · rintro y16 y16r ey16
          obtain rfl : y16 = y16r := ey16
          exact rl_some rfl
    · rintro y8 y8r ey8
      obtain rfl : y8 = y8r := ey8
      refine rl_bnd (Q := fun (y z : Int32) => y = z) ?_ ?_
      · refine rl_if (fun c5 => ?_) (fun c5 => ?_)
        · have dc5 := tl_lt (rfl : TI y8 y8.toInt) tn_0 c5
          exact rl_some rfl
        · have dc5 := tl_nlt (rfl : TI y8 y8.toInt) tn_0 c5
          refine rl_bnd (Q := fun (y z : Int32) => y = z) ?_ ?_
          · refine rl_if (fun c6 => ?_) (fun c6 => ?_)
            · have dc6 := tl_lt (rfl : TI y7_2 y7_2.toInt) tn_0 c6
              exact rl_some rfl
            · have dc6 := tl_nlt (rfl : TI y7_2 y7_2.toInt) tn_0 c6
              refine rl_bnd (Q := fun (y z : Int32) => y = z) ?_ ?_
              · refine rl_if (fun c7 => ?_) (fun c7 => ?_)
                · have dc7 := tl_le (rfl : TI y8 y8.toInt) (rfl : TI y7_2 y7_2.toInt) c7
                  exact rl_some rfl
                · have dc7 := tl_nle (rfl : TI y8 y8.toInt) (rfl : TI y7_2 y7_2.toInt) c7
                  exact rl_some rfl
              · rintro y13 y13r ey13
                obtain rfl : y13 = y13r := ey13
                exact rl_some rfl
          · rintro y11 y11r ey11
            obtain rfl : y11 = y11r := ey11
            exact rl_some rfl
      · rintro y9 y9r ey9
        obtain rfl : y9 = y9r := ey9
        exact rl_some ⟨rfl, rfl, rfl⟩
theorem c_guessSkipped {mu : Nat → Nat} {G H : GG} {M N : DD} {p : Nat} {L : List Nat} (t : CX mu G H M N p L) {p0 : Int32} {a0 : Int} (i0 : TI p0 a0) (h0 : 0 ≤ a0) (h1 : a0 ≤ 3) (hw : (M.1 p 1).toInt = 1 ∨ (M.1 p 1).toInt = 2) : LKS (FX9_guessSkipped G M 125 p0) (FX9_guessSkipped H N (mu 125) p0) (fun y z => Up mu p M N y z ∧ Ag mu y z 125 18 ∧ Ag mu y z 125 19) := by
  unfold FX9_guessSkipped
  refine rl_bnd (b_pieceAt (bx_of t) i0 tn_m1 tn_0 tn_0 (by omega) (by omega) (by omega) (by omega) (by omega) (by omega) (by omega) (by omega) hw (fg_i t)) ?_
  rintro ⟨y1_1, y1_2⟩ ⟨y1_1r, y1_2r⟩ ⟨my1_11, my1_12, ey1_2, ly1_2⟩
  obtain rfl : M = y1_1 := my1_11
  obtain rfl : N = y1_1r := my1_12
  obtain rfl : y1_2 = y1_2r := ey1_2
  dsimp only at ly1_2
  have iy1_2 : TI y1_2 y1_2.toInt := rfl
  replace ly1_2 := pk_of ly1_2
  refine rl_bnd (b_pieceAt (bx_of t) i0 tn_0 tn_m1 tn_0 (by omega) (by omega) (by omega) (by omega) (by omega) (by omega) (by omega) (by omega) hw (fg_i t)) ?_
  rintro ⟨y2_1, y2_2⟩ ⟨y2_1r, y2_2r⟩ ⟨my2_11, my2_12, ey2_2, ly2_2⟩
  obtain rfl : M = y2_1 := my2_11
  obtain rfl : N = y2_1r := my2_12
  obtain rfl : y2_2 = y2_2r := ey2_2
  dsimp only at ly2_2
  have iy2_2 : TI y2_2 y2_2.toInt := rfl
  replace ly2_2 := pk_of ly2_2
  refine rl_w (κ := p) (cx_U t) (by have := cx_q0 t (cx_p t); omega) (fun M3 M3r uM3 AM3 nM3 => ?_)
  have tM3 := cx_up t uM3
  refine rl_w (κ := p) (cx_U tM3) (by have := cx_q0 tM3 (cx_p tM3); omega) (fun M4 M4r uM4 AM4 nM4 => ?_)
  have tM4 := cx_up tM3 uM4
  have wP125_18_M4 := ag_up uM4 AM3
  refine rl_bnd (Q := fun (y z : DD) => Up mu p M4 M4r y z) ?_ ?_
  · refine rl_if (fun c1 => ?_) (fun c1 => ?_)
    · have dc1 := tl_lt iy1_2 tn_0 c1
      exact rl_some (up_0 mu (κ := p) _ _)
    · have dc1 := tl_nlt iy1_2 tn_0 c1
      refine rl_bnd (Q := fun (y z : DD) => Up mu p M4 M4r y z) ?_ ?_
      · refine rl_if (fun c2 => ?_) (fun c2 => ?_)
        · have dc2 := tl_lt iy2_2 tn_0 c2
          exact rl_some (up_0 mu (κ := p) _ _)
        · have dc2 := tl_nlt iy2_2 tn_0 c2
          refine rl_bnd (b_isAtRest (bx_of tM4) iy1_2 (by omega) (by omega) (by omega) (fg_p6 (lim := 0) (mb := a0) tM4) (fg_p8 (lim := 0) (mb := a0) tM4)) ?_
          rintro ⟨y9_1, y9_2⟩ ⟨y9_1r, y9_2r⟩ ⟨my9_11, my9_12, ey9_2⟩
          obtain rfl : M4 = y9_1 := my9_11
          obtain rfl : M4r = y9_1r := my9_12
          obtain rfl : y9_2 = y9_2r := ey9_2
          refine rl_bnd (Q := fun (y z : DD) => Up mu p M4 M4r y z) ?_ ?_
          · refine rl_if (fun c3 => ?_) (fun c3 => ?_)
            · have dc3 := tl_eq (rfl : TI y9_2 y9_2.toInt) tn_0 c3
              refine rl_bnd (b_isAtRest (bx_of tM4) iy2_2 (by omega) (by omega) (by omega) (fg_p6 (lim := 0) (mb := a0) tM4) (fg_p8 (lim := 0) (mb := a0) tM4)) ?_
              rintro ⟨y12_1, y12_2⟩ ⟨y12_1r, y12_2r⟩ ⟨my12_11, my12_12, ey12_2⟩
              obtain rfl : M4 = y12_1 := my12_11
              obtain rfl : M4r = y12_1r := my12_12
              obtain rfl : y12_2 = y12_2r := ey12_2
              refine rl_bnd (Q := fun (y z : DD) => Up mu p M4 M4r y z) ?_ ?_
              · refine rl_if (fun c4 => ?_) (fun c4 => ?_)
                · have dc4 := tl_eq (rfl : TI y12_2 y12_2.toInt) tn_0 c4
                  refine rl_bnd (b_guess (bx_of tM4) i0 tn_0 tn_0 tn_16 (by omega) (by omega) (by omega) (by omega) (by omega) (by omega) (by omega) (by omega) (by rw [((up_tr uM3 uM4)).2.2.2.1]; exact hw) (fg_i tM4) (fg_p6 tM4) (fg_p8 tM4)) ?_
                  rintro y15 y15r ⟨uy15', vP125_18_y15, vP125_19_y15⟩
                  have uy15 : Up mu p M4 M4r y15 y15r := uy15'
                  have ty15 := cx_up tM4 uy15
                  have wP125_18_y15 := ag_up uy15 wP125_18_M4
                  have wP125_19_y15 := ag_up uy15 AM4
                  exact rl_some uy15
                · exact rl_some (up_0 mu (κ := p) _ _)
              · rintro y13 y13r uy13
                have uy13 : Up mu p M4 M4r y13 y13r := uy13
                have ty13 := cx_up tM4 uy13
                have wP125_18_y13 := ag_up uy13 wP125_18_M4
                have wP125_19_y13 := ag_up uy13 AM4
                exact rl_some uy13
            · exact rl_some (up_0 mu (κ := p) _ _)
          · rintro y10 y10r uy10
            have uy10 : Up mu p M4 M4r y10 y10r := uy10
            have ty10 := cx_up tM4 uy10
            have wP125_18_y10 := ag_up uy10 wP125_18_M4
            have wP125_19_y10 := ag_up uy10 AM4
            exact rl_some uy10
      · rintro y7 y7r uy7
        have uy7 : Up mu p M4 M4r y7 y7r := uy7
        have ty7 := cx_up tM4 uy7
        have wP125_18_y7 := ag_up uy7 wP125_18_M4
        have wP125_19_y7 := ag_up uy7 AM4
        exact rl_some uy7
  · rintro y5 y5r uy5
    have uy5 : Up mu p M4 M4r y5 y5r := uy5
    have ty5 := cx_up tM4 uy5
    have wP125_18_y5 := ag_up uy5 wP125_18_M4
    have wP125_19_y5 := ag_up uy5 AM4
    exact rl_some ⟨(up_tr (up_tr uM3 uM4) uy5), wP125_18_y5, wP125_19_y5⟩
theorem c_directByTime {mu : Nat → Nat} {G H : GG} {M N : DD} {p : Nat} {L : List Nat} (t : CX mu G H M N p L) {p0 : Int32} {a0 : Int} (i0 : TI p0 a0) {p1 : Int32} {p2 p2r : Option Nat} {q2 : Nat} (e2 : p2 = some q2 ∧ p2r = some (mu q2)) (hq2 : q2 ∈ L) (h0 : 0 ≤ a0) (h1 : a0 ≤ 3) : LKS (FX9_directByTime G M 125 p0 p1 p2) (FX9_directByTime H N (mu 125) p0 p1 p2r) (fun y z => Up mu p M N y.1 z.1 ∧ y.2 = z.2) := by
  unfold FX9_directByTime
  obtain ⟨rfl, rfl⟩ := e2
  refine rl_bnd (Q := SM (fun (y z : ( Int32 × DD )) => y.1 = z.1 ∧ Up mu p M N y.2 z.2) (fun (y z : ( DD × Int32 )) => Up mu p M N y.1 z.1 ∧ y.2 = z.2)) (rl_itr (fun (y z : Int32 × DD) => y.1 = z.1 ∧ Up mu p M N y.2 z.2) _ ?_ _ _ _ ?_) ?_
  · rintro ⟨s2_1, s2_2⟩ ⟨s2_1r, s2_2r⟩ ⟨es2_1, us2_2⟩
    obtain rfl : s2_1 = s2_1r := es2_1
    have us2_2 : Up mu p M N s2_2 s2_2r := us2_2
    have ts2_2 := cx_up t us2_2
    refine rl_if (fun c1 => ?_) (fun c1 => ?_)
    · have dc1 := tl_le tn_4 (rfl : TI s2_1 s2_1.toInt) c1
      exact rl_inr (sm_l ⟨rfl, us2_2⟩)
    · have dc1 := tl_nle tn_4 (rfl : TI s2_1 s2_1.toInt) c1
      refine rl_ltA (fun x6 => ?_)
      refine rl_ltI (av_and 1 (rfl : TI x6 x6.toInt) (by decide) (by decide)) (fun x7 ix7 => ?_)
      refine rl_if (fun c2 => ?_) (fun c2 => ?_)
      · have dc2 := tl_eq ix7 tn_0 c2
        refine rl_ltA (fun x68 => ?_)
        exact rl_inl ⟨rfl, us2_2⟩
      · refine rl_ltI (av_mul tn_16 i0 (by omega) (by omega)) (fun x9 ix9 => ?_)
        refine rl_ltA (fun x10 => ?_)
        refine rl_ltA (fun x11 => ?_)
        refine rl_dr (cx_U ts2_2) ⟨rfl, rfl⟩ (fun gb12 => ?_)
        refine rl_bnd (c_blocks ts2_2 hq2) ?_
        rintro ⟨y13_1, y13_2⟩ ⟨y13_1r, y13_2r⟩ ⟨my13_11, my13_12, ey13_2⟩
        obtain rfl : s2_2 = y13_1 := my13_11
        obtain rfl : s2_2r = y13_1r := my13_12
        obtain rfl : y13_2 = y13_2r := ey13_2
        refine rl_bnd (Q := fun (y z : Int32 × DD) => y.1 = z.1 ∧ s2_2 = y.2 ∧ s2_2r = z.2) ?_ ?_
        · refine rl_if (fun c3 => ?_) (fun c3 => ?_)
          · have dc3 := tl_le (rfl : TI y13_2 y13_2.toInt) i0 c3
            exact rl_some ⟨rfl, rfl, rfl⟩
          · have dc3 := tl_nle (rfl : TI y13_2 y13_2.toInt) i0 c3
            refine rl_bnd (c_listOf ts2_2 hq2) ?_
            rintro ⟨y67_1, y67_2⟩ ⟨y67_1r, y67_2r⟩ ⟨my67_11, my67_12, ey67_2⟩
            obtain rfl : s2_2 = y67_1 := my67_11
            obtain rfl : s2_2r = y67_1r := my67_12
            obtain rfl : y67_2 = y67_2r := ey67_2
            exact rl_some ⟨rfl, rfl, rfl⟩
        · rintro ⟨y14_1, y14_2⟩ ⟨y14_1r, y14_2r⟩ ⟨ey14_1, my14_21, my14_22⟩
          obtain rfl : y14_1 = y14_1r := ey14_1
          obtain rfl : s2_2 = y14_2 := my14_21
          obtain rfl : s2_2r = y14_2r := my14_22
          refine rl_bnd (Q := fun (y z : Int32) => y = z) ?_ ?_
          · refine rl_if (fun c4 => ?_) (fun c4 => ?_)
            · have dc4 := tl_le tn_0 (rfl : TI y14_1 y14_1.toInt) c4
              exact rl_some rfl
            · have dc4 := tl_nle tn_0 (rfl : TI y14_1 y14_1.toInt) c4
              exact rl_some rfl
          · rintro y15 y15r ey15
            obtain rfl : y15 = y15r := ey15
            refine rl_bnd (c_at ts2_2) ?_
            rintro ⟨y16_1, y16_2⟩ ⟨y16_1r, y16_2r⟩ ⟨my16_11, my16_12, ey16_2⟩
            obtain rfl : s2_2 = y16_1 := my16_11
            obtain rfl : s2_2r = y16_1r := my16_12
            obtain rfl : y16_2 = y16_2r := ey16_2
            refine rl_bnd (Q := fun (y z : Int32 × DD) => y.1 = z.1 ∧ s2_2 = y.2 ∧ s2_2r = z.2) ?_ ?_
            · refine rl_if (fun c5 => ?_) (fun c5 => ?_)
              · have dc5 := tl_le tn_0 (rfl : TI y14_1 y14_1.toInt) c5
                refine rl_dr (cx_U ts2_2) (rx_6 ts2_2 hq2) (fun gb62 => ?_)
                refine rl_chk (chkl (cx_U ts2_2) gb62) (fun k6 => ?_)
                refine rl_rd (cx_qj (j := 7) ts2_2 hq2 (by decide) _) (fun x63 => ?_)
                refine rl_bnd (c_entryOf ts2_2) ?_
                rintro ⟨y64_1, y64_2⟩ ⟨y64_1r, y64_2r⟩ ⟨my64_11, my64_12, ey64_2⟩
                obtain rfl : s2_2 = y64_1 := my64_11
                obtain rfl : s2_2r = y64_1r := my64_12
                obtain rfl : y64_2 = y64_2r := ey64_2
                exact rl_some ⟨rfl, rfl, rfl⟩
              · have dc5 := tl_nle tn_0 (rfl : TI y14_1 y14_1.toInt) c5
                exact rl_some ⟨rfl, rfl, rfl⟩
            · rintro ⟨y17_1, y17_2⟩ ⟨y17_1r, y17_2r⟩ ⟨ey17_1, my17_21, my17_22⟩
              obtain rfl : y17_1 = y17_1r := ey17_1
              obtain rfl : s2_2 = y17_2 := my17_21
              obtain rfl : s2_2r = y17_2r := my17_22
              refine rl_if (fun c7 => ?_) (fun c7 => ?_)
              · have dc7 := tl_lt (rfl : TI y17_1 y17_1.toInt) tn_0 c7
                refine rl_chk (fun h => h) (fun k8 => ?_)
                exact rl_inr (sm_r ⟨us2_2, rfl⟩)
              · have dc7 := tl_nlt (rfl : TI y17_1 y17_1.toInt) tn_0 c7
                refine rl_dr (cx_U ts2_2) (rx_c (a := 125) (k := 3) (b := 126) ts2_2 (Or.inl rfl) rfl (by decide)) (fun gb19 => ?_)
                refine rl_chk (chkl (cx_U ts2_2) gb19) (fun k9 => ?_)
                refine rl_ifD (or_iff (mu := mu) (L := L) (rx_l ts2_2 _)) (fun c10 => ?_) (fun c10 => ?_)
                · refine rl_chk (fun h => h) (fun k11 => ?_)
                  exact rl_inr (sm_r ⟨us2_2, rfl⟩)
                · obtain ⟨qc10, hqc10, eqc10⟩ := or_ne (rx_l ts2_2 _) c10
                  refine rl_bnd (Q := fun (y z : Int32) => y = z) ?_ ?_
                  · refine rl_if (fun c12 => ?_) (fun c12 => ?_)
                    · have dc12 := tl_le tn_0 (rfl : TI y14_1 y14_1.toInt) c12
                      refine rl_ltA (fun x58 => ?_)
                      refine rl_dr (cx_U ts2_2) (rx_7 ts2_2 hq2) (fun gb59 => ?_)
                      refine rl_chk (chkl (cx_U ts2_2) gb59) (fun k13 => ?_)
                      refine rl_rd (cx_qj (j := 8) ts2_2 hq2 (by decide) _) (fun x60 => ?_)
                      exact rl_some rfl
                    · have dc12 := tl_nle tn_0 (rfl : TI y14_1 y14_1.toInt) c12
                      exact rl_some rfl
                  · rintro y21 y21r ey21
                    obtain rfl : y21 = y21r := ey21
                    refine rl_bnd (Q := fun (y z : Int32) => y = z) ?_ ?_
                    · refine rl_if (fun c14 => ?_) (fun c14 => ?_)
                      · have dc14 := tl_le tn_0 (rfl : TI y14_1 y14_1.toInt) c14
                        refine rl_ltA (fun x53 => ?_)
                        refine rl_ltA (fun x54 => ?_)
                        refine rl_dr (cx_U ts2_2) (rx_7 ts2_2 hq2) (fun gb55 => ?_)
                        refine rl_chk (chkl (cx_U ts2_2) gb55) (fun k15 => ?_)
                        refine rl_rd (cx_qj (j := 8) ts2_2 hq2 (by decide) _) (fun x56 => ?_)
                        exact rl_some rfl
                      · have dc14 := tl_nle tn_0 (rfl : TI y14_1 y14_1.toInt) c14
                        exact rl_some rfl
                    · rintro y22 y22r ey22
                      obtain rfl : y22 = y22r := ey22
                      refine rl_chk (chkl (cx_U ts2_2) gb19) (fun k16 => ?_)
                      refine rl_dr (cx_U ts2_2) eqc10 (fun gb23 => ?_)
                      refine rl_rd (cx_q (j := 0) (k := 9) ts2_2 hqc10 rfl) (fun x24 => ?_)
                      refine rl_rd (cx_q (j := 0) (k := 9) ts2_2 hq2 rfl) (fun x25 => ?_)
                      refine rl_bnd (c_timeBetween ts2_2) ?_
                      rintro ⟨y26_1, y26_2⟩ ⟨y26_1r, y26_2r⟩ ⟨my26_11, my26_12, ey26_2⟩
                      obtain rfl : s2_2 = y26_1 := my26_11
                      obtain rfl : s2_2r = y26_1r := my26_12
                      obtain rfl : y26_2 = y26_2r := ey26_2
                      refine rl_dr (cx_U ts2_2) (rx_c (a := 125) (k := 3) (b := 126) ts2_2 (Or.inl rfl) rfl (by decide)) (fun gb27 => ?_)
                      refine rl_chk (chkl (cx_U ts2_2) gb27) (fun k17 => ?_)
                      refine rl_dr (cx_U ts2_2) eqc10 (fun gb28 => ?_)
                      refine rl_rd (cx_q (j := 0) (k := 10) ts2_2 hqc10 rfl) (fun x29 => ?_)
                      refine rl_bnd (Q := fun (y z : Int32) => y = z ∧ (0 ≤ y.toInt ∧ y.toInt ≤ 1)) ?_ ?_
                      · refine rl_if (fun c18 => ?_) (fun c18 => ?_)
                        · have dc18 := tl_eq (rfl : TI x29 x29.toInt) tn_2 c18
                          exact rl_some ⟨rfl, (ti_bd tn_1 (by omega) (by omega))⟩
                        · refine rl_bnd (Q := fun (y z : Int32) => y = z ∧ (0 ≤ y.toInt ∧ y.toInt ≤ 1)) ?_ ?_
                          · refine rl_if (fun c19 => ?_) (fun c19 => ?_)
                            · have dc19 := tl_eq (rfl : TI y26_2 y26_2.toInt) tn_0 c19
                              exact rl_some ⟨rfl, (ti_bd tn_1 (by omega) (by omega))⟩
                            · exact rl_some ⟨rfl, (ti_bd tn_0 (by omega) (by omega))⟩
                          · rintro y50 y50r ⟨ey50, ly50⟩
                            obtain rfl : y50 = y50r := ey50
                            have ly50 : 0 ≤ y50.toInt ∧ y50.toInt ≤ 1 := ly50
                            have iy50 : TI y50 y50.toInt := rfl
                            exact rl_some ⟨rfl, (ti_bd iy50 (by omega) (by omega))⟩
                      · rintro y30 y30r ⟨ey30, ly30⟩
                        obtain rfl : y30 = y30r := ey30
                        have ly30 : 0 ≤ y30.toInt ∧ y30.toInt ≤ 1 := ly30
                        have iy30 : TI y30 y30.toInt := rfl
                        refine rl_bnd (Q := fun (y z : Int32 × DD) => y.1 = z.1 ∧ s2_2 = y.2 ∧ s2_2r = z.2) ?_ ?_
                        · refine rl_if (fun c20 => ?_) (fun c20 => ?_)
                          · have dc20 := tl_eq iy30 tn_0 c20
                            refine rl_chk (chkl (cx_U ts2_2) gb27) (fun k21 => ?_)
                            refine rl_rd (cx_q (j := 0) (k := 9) ts2_2 hqc10 rfl) (fun x44 => ?_)
                            refine rl_dr (cx_U ts2_2) (rx_p ts2_2) (fun gb45 => ?_)
                            refine rl_rd (cx_q (j := 0) (k := 9) ts2_2 (cx_p t) rfl) (fun x46 => ?_)
                            refine rl_bnd (c_timeBetween ts2_2) ?_
                            rintro ⟨y47_1, y47_2⟩ ⟨y47_1r, y47_2r⟩ ⟨my47_11, my47_12, ey47_2⟩
                            obtain rfl : s2_2 = y47_1 := my47_11
                            obtain rfl : s2_2r = y47_1r := my47_12
                            obtain rfl : y47_2 = y47_2r := ey47_2
                            refine rl_bnd (c_scaleBy ts2_2) ?_
                            rintro ⟨y48_1, y48_2⟩ ⟨y48_1r, y48_2r⟩ ⟨my48_11, my48_12, ey48_2⟩
                            obtain rfl : s2_2 = y48_1 := my48_11
                            obtain rfl : s2_2r = y48_1r := my48_12
                            obtain rfl : y48_2 = y48_2r := ey48_2
                            exact rl_some ⟨rfl, rfl, rfl⟩
                          · exact rl_some ⟨rfl, rfl, rfl⟩
                        · rintro ⟨y31_1, y31_2⟩ ⟨y31_1r, y31_2r⟩ ⟨ey31_1, my31_21, my31_22⟩
                          obtain rfl : y31_1 = y31_1r := ey31_1
                          obtain rfl : s2_2 = y31_2 := my31_21
                          obtain rfl : s2_2r = y31_2r := my31_22
                          refine rl_ltA (fun x32 => ?_)
                          refine rl_ltA (fun x33 => ?_)
                          refine rl_ltA (fun x34 => ?_)
                          refine rl_ltA (fun x35 => ?_)
                          refine rl_ltA (fun x36 => ?_)
                          refine rl_ltA (fun x37 => ?_)
                          refine rl_bnd (c_setQuarter ts2_2) ?_
                          rintro y38 y38r uy38'
                          have uy38 : Up mu p s2_2 s2_2r y38 y38r := uy38'
                          have ty38 := cx_up ts2_2 uy38
                          refine rl_ltA (fun x39 => ?_)
                          refine rl_ltA (fun x40 => ?_)
                          refine rl_bnd (c_setQuarter ty38) ?_
                          rintro y41 y41r uy41'
                          have uy41 : Up mu p y38 y38r y41 y41r := uy41'
                          have ty41 := cx_up ty38 uy41
                          refine rl_ltA (fun x42 => ?_)
                          exact rl_inl ⟨rfl, (up_tr (up_tr us2_2 uy38) uy41)⟩
  · exact ⟨rfl, (up_0 mu (κ := p) _ _)⟩
  · intro y1 y1r hyy1
    refine rl_sel hyy1 ?_ (fun a b h => rl_some h)
    rintro ⟨z1k_1, z1k_2⟩ ⟨z1k_1r, z1k_2r⟩ ⟨ez1k_1, uz1k_2⟩
    obtain rfl : z1k_1 = z1k_1r := ez1k_1
    have uz1k_2 : Up mu p M N z1k_2 z1k_2r := uz1k_2
    have tz1k_2 := cx_up t uz1k_2
    refine rl_chk (fun h => h) (fun k22 => ?_)
    exact rl_some ⟨uz1k_2, rfl⟩
theorem c_direct {mu : Nat → Nat} {G H : GG} {M N : DD} {p : Nat} {L : List Nat} (t : CX mu G H M N p L) {p0 : Int32} {a0 : Int} (i0 : TI p0 a0) {p1 : Int32} (h0 : 0 ≤ a0) (h1 : a0 ≤ 3) (hw : (M.1 p 1).toInt = 1 ∨ (M.1 p 1).toInt = 2) : LKS (FX9_direct G M 125 p0 p1) (FX9_direct H N (mu 125) p0 p1) (fun y z => Up mu p M N y.1 z.1 ∧ y.2 = z.2) := by
  unfold FX9_direct
  refine rl_dr (cx_U t) (rx_c (a := 125) (k := 3) (b := 126) t (Or.inl rfl) rfl (by decide)) (fun gb2 => ?_)
  refine rl_chk (chkl (cx_U t) gb2) (fun k1 => ?_)
  refine rl_ifD (or_iff (mu := mu) (L := L) (rx_l t _)) (fun c2 => ?_) (fun c2 => ?_)
  · refine rl_chk (fun h => h) (fun k3 => ?_)
    exact rl_some ⟨(up_0 mu (κ := p) _ _), rfl⟩
  · obtain ⟨qc2, hqc2, eqc2⟩ := or_ne (rx_l t _) c2
    refine rl_dr (cx_U t) (rx_c (a := 125) (k := 1) (b := 215) t (Or.inl rfl) rfl (by decide)) (fun gb4 => ?_)
    refine rl_dr (cx_U t) (rx_c (a := 215) (k := 0) (b := 216) t (Or.inr (Or.inr (Or.inr rfl))) rfl (by decide)) (fun gb5 => ?_)
    refine rl_chk (chkl (cx_U t) gb5) (fun k4 => ?_)
    refine rl_rd (cx_k (c := 216) (k := 8) t rfl) (fun x6 => ?_)
    refine rl_if (fun c5 => ?_) (fun c5 => ?_)
    · have dc5 := tl_eq (rfl : TI x6 x6.toInt) tn_0 c5
      refine rl_bnd (c_directByTime t i0 eqc2 hqc2 (by omega) (by omega)) ?_
      rintro ⟨y90_1, y90_2⟩ ⟨y90_1r, y90_2r⟩ ⟨uy90_1', ey90_2⟩
      have uy90_1 : Up mu p M N y90_1 y90_1r := uy90_1'
      have ty90_1 := cx_up t uy90_1
      obtain rfl : y90_2 = y90_2r := ey90_2
      refine rl_chk (fun h => h) (fun k6 => ?_)
      exact rl_some ⟨uy90_1, rfl⟩
    · refine rl_bnd (c_leastReference t i0 tn_0 (by omega) (by omega) (by omega) (by omega) hw) ?_
      rintro ⟨y8_1, y8_2⟩ ⟨y8_1r, y8_2r⟩ ⟨my8_11, my8_12, ey8_2⟩
      obtain rfl : M = y8_1 := my8_11
      obtain rfl : N = y8_1r := my8_12
      obtain rfl : y8_2 = y8_2r := ey8_2
      refine rl_bnd (c_leastReference t i0 tn_1 (by omega) (by omega) (by omega) (by omega) hw) ?_
      rintro ⟨y9_1, y9_2⟩ ⟨y9_1r, y9_2r⟩ ⟨my9_11, my9_12, ey9_2⟩
      obtain rfl : M = y9_1 := my9_11
      obtain rfl : N = y9_1r := my9_12
      obtain rfl : y9_2 = y9_2r := ey9_2
      refine rl_bnd (Q := fun (y z : Int32) => y = z ∧ (0 ≤ y.toInt ∧ y.toInt ≤ 1)) ?_ ?_
      · refine rl_if (fun c7 => ?_) (fun c7 => ?_)
        · have dc7 := tl_le tn_0 (rfl : TI y8_2 y8_2.toInt) c7
          exact rl_some ⟨rfl, (ti_bd tn_0 (by omega) (by omega))⟩
        · have dc7 := tl_nle tn_0 (rfl : TI y8_2 y8_2.toInt) c7
          refine rl_bnd (Q := fun (y z : Int32) => y = z ∧ (0 ≤ y.toInt ∧ y.toInt ≤ 1)) ?_ ?_
          · refine rl_if (fun c8 => ?_) (fun c8 => ?_)
            · have dc8 := tl_le tn_0 (rfl : TI y9_2 y9_2.toInt) c8
              exact rl_some ⟨rfl, (ti_bd tn_0 (by omega) (by omega))⟩
            · have dc8 := tl_nle tn_0 (rfl : TI y9_2 y9_2.toInt) c8
              exact rl_some ⟨rfl, (ti_bd tn_1 (by omega) (by omega))⟩
          · rintro y88 y88r ⟨ey88, ly88⟩
            obtain rfl : y88 = y88r := ey88
            have ly88 : 0 ≤ y88.toInt ∧ y88.toInt ≤ 1 := ly88
            have iy88 : TI y88 y88.toInt := rfl
            exact rl_some ⟨rfl, (ti_bd iy88 (by omega) (by omega))⟩
      · rintro y10 y10r ⟨ey10, ly10⟩
        obtain rfl : y10 = y10r := ey10
        have ly10 : 0 ≤ y10.toInt ∧ y10.toInt ≤ 1 := ly10
        have iy10 : TI y10 y10.toInt := rfl
        refine rl_bnd (Q := SM (fun (y z : ( Int32 × DD )) => y.1 = z.1 ∧ (0 ≤ y.1.toInt ∧ y.1.toInt ≤ 2) ∧ Up mu p M N y.2 z.2) (fun (y z : ( DD × Int32 )) => Up mu p M N y.1 z.1 ∧ y.2 = z.2)) (rl_itr (fun (y z : Int32 × DD) => y.1 = z.1 ∧ (0 ≤ y.1.toInt ∧ y.1.toInt ≤ 2) ∧ Up mu p M N y.2 z.2) _ ?_ _ _ _ ?_) ?_
        · rintro ⟨s12_1, s12_2⟩ ⟨s12_1r, s12_2r⟩ ⟨es12_1, ls12_1, us12_2⟩
          obtain rfl : s12_1 = s12_1r := es12_1
          have ls12_1 : 0 ≤ s12_1.toInt ∧ s12_1.toInt ≤ 2 := ls12_1
          have is12_1 : TI s12_1 s12_1.toInt := rfl
          have us12_2 : Up mu p M N s12_2 s12_2r := us12_2
          have ts12_2 := cx_up t us12_2
          refine rl_if (fun c9 => ?_) (fun c9 => ?_)
          · have dc9 := tl_le tn_2 is12_1 c9
            exact rl_inr (sm_l ⟨rfl, (ti_bd is12_1 (by omega) (by omega)), us12_2⟩)
          · have dc9 := tl_nle tn_2 is12_1 c9
            refine rl_bnd (Q := fun (y z : Int32) => y = z) ?_ ?_
            · refine rl_if (fun c10 => ?_) (fun c10 => ?_)
              · have dc10 := tl_eq iy10 tn_0 c10
                refine rl_bnd (Q := fun (y z : Int32) => y = z) ?_ ?_
                · refine rl_if (fun c11 => ?_) (fun c11 => ?_)
                  · have dc11 := tl_eq is12_1 tn_0 c11
                    exact rl_some rfl
                  · exact rl_some rfl
                · rintro y85 y85r ey85
                  obtain rfl : y85 = y85r := ey85
                  exact rl_some rfl
              · exact rl_some rfl
            · rintro y16 y16r ey16
              obtain rfl : y16 = y16r := ey16
              refine rl_w (κ := p) (cx_U ts12_2) (by have := cx_q0 ts12_2 (cx_p ts12_2); omega) (fun M17 M17r uM17 AM17 nM17 => ?_)
              have tM17 := cx_up ts12_2 uM17
              refine rl_w (κ := p) (cx_U tM17) (by have := cx_q0 tM17 (cx_p tM17); omega) (fun M18 M18r uM18 AM18 nM18 => ?_)
              have tM18 := cx_up tM17 uM18
              have wP125_18_M18 := ag_up uM18 AM17
              refine rl_if (fun c12 => ?_) (fun c12 => ?_)
              · have dc12 := tl_lt (rfl : TI y16 y16.toInt) tn_0 c12
                refine rl_bnd (Q := fun (y z : DD) => M18 = y ∧ M18r = z) ?_ ?_
                · refine rl_if (fun c13 => ?_) (fun c13 => ?_)
                  · have dc13 := tl_lt (rfl : TI y16 y16.toInt) tn_0 c13
                    exact rl_some ⟨rfl, rfl⟩
                  · have dc13 := tl_nlt (rfl : TI y16 y16.toInt) tn_0 c13
                    exfalso
                    omega
                · rintro y20 y20r ⟨my201, my202⟩
                  obtain rfl : M18 = y20 := my201
                  obtain rfl : M18r = y20r := my202
                  refine rl_bnd (Q := fun (y z : Int32 × DD) => y.1 = z.1 ∧ Up mu p M18 M18r y.2 z.2) (rl_itr (fun (y z : Int32 × DD) => y.1 = z.1 ∧ Up mu p M18 M18r y.2 z.2) _ ?_ _ _ _ ?_) ?_
                  · rintro ⟨s22_1, s22_2⟩ ⟨s22_1r, s22_2r⟩ ⟨es22_1, us22_2⟩
                    obtain rfl : s22_1 = s22_1r := es22_1
                    have us22_2 : Up mu p M18 M18r s22_2 s22_2r := us22_2
                    have ts22_2 := cx_up tM18 us22_2
                    have wP125_18_s22_2 := ag_up us22_2 wP125_18_M18
                    have wP125_19_s22_2 := ag_up us22_2 AM18
                    refine rl_if (fun c14 => ?_) (fun c14 => ?_)
                    · have dc14 := tl_le tn_4 (rfl : TI s22_1 s22_1.toInt) c14
                      exact rl_inr ⟨rfl, us22_2⟩
                    · have dc14 := tl_nle tn_4 (rfl : TI s22_1 s22_1.toInt) c14
                      refine rl_bnd (Q := fun (y z : Int32 × DD) => y.1 = z.1 ∧ (0 ≤ y.1.toInt ∧ y.1.toInt ≤ 0) ∧ s22_2 = y.2 ∧ s22_2r = z.2) ?_ ?_
                      · refine rl_if (fun c15 => ?_) (fun c15 => ?_)
                        · have dc15 := tl_eq (rfl : TI y16 y16.toInt) tn_0 c15
                          exfalso
                          omega
                        · exact rl_some ⟨rfl, (ti_bd tn_0 (by omega) (by omega)), rfl, rfl⟩
                      · rintro ⟨y27_1, y27_2⟩ ⟨y27_1r, y27_2r⟩ ⟨ey27_1, ly27_1, my27_21, my27_22⟩
                        obtain rfl : y27_1 = y27_1r := ey27_1
                        have ly27_1 : 0 ≤ y27_1.toInt ∧ y27_1.toInt ≤ 0 := ly27_1
                        have iy27_1 : TI y27_1 (0) := ti_c ly27_1
                        obtain rfl : s22_2 = y27_2 := my27_21
                        obtain rfl : s22_2r = y27_2r := my27_22
                        refine rl_ltA (fun x28 => ?_)
                        refine rl_ltI (av_and 1 (rfl : TI x28 x28.toInt) (by decide) (by decide)) (fun x29 ix29 => ?_)
                        refine rl_bnd (Q := fun (y z : DD) => Up mu p s22_2 s22_2r y z) ?_ ?_
                        · refine rl_if (fun c16 => ?_) (fun c16 => ?_)
                          · have dc16 := tl_eq ix29 tn_1 c16
                            refine rl_bnd (Q := fun (y z : Int32) => y = z) ?_ ?_
                            · refine rl_if (fun c17 => ?_) (fun c17 => ?_)
                              · have dc17 := tl_eq iy27_1 tn_0 c17
                                refine rl_rd wP125_18_s22_2 (fun x39 => ?_)
                                exact rl_some rfl
                              · have dc17 := tl_ne iy27_1 tn_0 c17
                                exfalso
                                omega
                            · rintro y33 y33r ey33
                              obtain rfl : y33 = y33r := ey33
                              refine rl_bnd (Q := fun (y z : Int32) => y = z) ?_ ?_
                              · refine rl_if (fun c18 => ?_) (fun c18 => ?_)
                                · have dc18 := tl_eq iy27_1 tn_0 c18
                                  refine rl_rd wP125_19_s22_2 (fun x37 => ?_)
                                  exact rl_some rfl
                                · have dc18 := tl_ne iy27_1 tn_0 c18
                                  exfalso
                                  omega
                              · rintro y34 y34r ey34
                                obtain rfl : y34 = y34r := ey34
                                refine rl_bnd (c_setQuarter ts22_2) ?_
                                rintro y35 y35r uy35'
                                have uy35 : Up mu p s22_2 s22_2r y35 y35r := uy35'
                                have ty35 := cx_up ts22_2 uy35
                                have wP125_18_y35 := ag_up uy35 wP125_18_s22_2
                                have wP125_19_y35 := ag_up uy35 wP125_19_s22_2
                                exact rl_some uy35
                          · exact rl_some (up_0 mu (κ := p) _ _)
                        · rintro y30 y30r uy30
                          have uy30 : Up mu p s22_2 s22_2r y30 y30r := uy30
                          have ty30 := cx_up ts22_2 uy30
                          have wP125_18_y30 := ag_up uy30 wP125_18_s22_2
                          have wP125_19_y30 := ag_up uy30 wP125_19_s22_2
                          refine rl_ltA (fun x31 => ?_)
                          exact rl_inl ⟨rfl, (up_tr us22_2 uy30)⟩
                  · exact ⟨rfl, (up_0 mu (κ := p) _ _)⟩
                  · rintro ⟨y21_1, y21_2⟩ ⟨y21_1r, y21_2r⟩ ⟨ey21_1, uy21_2⟩
                    obtain rfl : y21_1 = y21_1r := ey21_1
                    have uy21_2 : Up mu p M18 M18r y21_2 y21_2r := uy21_2
                    have ty21_2 := cx_up tM18 uy21_2
                    have wP125_18_y21_2 := ag_up uy21_2 wP125_18_M18
                    have wP125_19_y21_2 := ag_up uy21_2 AM18
                    refine rl_ltI (av_add is12_1 tn_1 (by omega) (by omega)) (fun x24 ix24 => ?_)
                    exact rl_inl ⟨rfl, (ti_bd ix24 (by omega) (by omega)), (up_tr (up_tr (up_tr us12_2 uM17) uM18) uy21_2)⟩
              · have dc12 := tl_nlt (rfl : TI y16 y16.toInt) tn_0 c12
                refine rl_ltI (av_mul tn_9 is12_1 (by omega) (by omega)) (fun x50 ix50 => ?_)
                refine rl_ltA (fun x51 => ?_)
                refine rl_dr (cx_U tM18) (rx_c (a := 125) (k := 3) (b := 126) tM18 (Or.inl rfl) rfl (by decide)) (fun gb52 => ?_)
                refine rl_chk (chkl (cx_U tM18) gb52) (fun k19 => ?_)
                refine rl_ifD (or_iff (mu := mu) (L := L) (rx_l tM18 _)) (fun c20 => ?_) (fun c20 => ?_)
                · refine rl_chk (fun h => h) (fun k21 => ?_)
                  exact rl_inr (sm_r ⟨(up_tr (up_tr us12_2 uM17) uM18), rfl⟩)
                · obtain ⟨qc20, hqc20, eqc20⟩ := or_ne (rx_l tM18 _) c20
                  refine rl_bnd (Q := fun (y z : DD) => Up mu p M18 M18r y z) ?_ ?_
                  · refine rl_if (fun c22 => ?_) (fun c22 => ?_)
                    · have dc22 := tl_lt (rfl : TI y16 y16.toInt) tn_0 c22
                      exfalso
                      omega
                    · have dc22 := tl_nlt (rfl : TI y16 y16.toInt) tn_0 c22
                      refine rl_bnd (Q := fun (y z : DD) => Up mu p M18 M18r y z) ?_ ?_
                      · refine rl_if (fun c23 => ?_) (fun c23 => ?_)
                        · have dc23 := tl_eq iy10 tn_0 c23
                          refine rl_bnd (b_guess (bx_of tM18) i0 is12_1 tn_0 tn_16 (by omega) (by omega) (by omega) (by omega) (by omega) (by omega) (by omega) (by omega) (by rw [((up_tr (up_tr us12_2 uM17) uM18)).2.2.2.1]; exact hw) (fg_i tM18) (fg_p6 tM18) (fg_p8 tM18)) ?_
                          rintro y83 y83r ⟨uy83', vP125_18_y83, vP125_19_y83⟩
                          have uy83 : Up mu p M18 M18r y83 y83r := uy83'
                          have ty83 := cx_up tM18 uy83
                          have wP125_18_y83 := ag_up uy83 wP125_18_M18
                          have wP125_19_y83 := ag_up uy83 AM18
                          exact rl_some uy83
                        · exact rl_some (up_0 mu (κ := p) _ _)
                      · rintro y81 y81r uy81
                        have uy81 : Up mu p M18 M18r y81 y81r := uy81
                        have ty81 := cx_up tM18 uy81
                        have wP125_18_y81 := ag_up uy81 wP125_18_M18
                        have wP125_19_y81 := ag_up uy81 AM18
                        exact rl_some uy81
                  · rintro y54 y54r uy54
                    have uy54 : Up mu p M18 M18r y54 y54r := uy54
                    have ty54 := cx_up tM18 uy54
                    have wP125_18_y54 := ag_up uy54 wP125_18_M18
                    have wP125_19_y54 := ag_up uy54 AM18
                    refine rl_bnd (Q := fun (y z : Int32 × DD) => y.1 = z.1 ∧ Up mu p y54 y54r y.2 z.2) (rl_itr (fun (y z : Int32 × DD) => y.1 = z.1 ∧ Up mu p y54 y54r y.2 z.2) _ ?_ _ _ _ ?_) ?_
                    · rintro ⟨s56_1, s56_2⟩ ⟨s56_1r, s56_2r⟩ ⟨es56_1, us56_2⟩
                      obtain rfl : s56_1 = s56_1r := es56_1
                      have us56_2 : Up mu p y54 y54r s56_2 s56_2r := us56_2
                      have ts56_2 := cx_up ty54 us56_2
                      have wP125_18_s56_2 := ag_up us56_2 wP125_18_y54
                      have wP125_19_s56_2 := ag_up us56_2 wP125_19_y54
                      refine rl_if (fun c24 => ?_) (fun c24 => ?_)
                      · have dc24 := tl_le tn_4 (rfl : TI s56_1 s56_1.toInt) c24
                        exact rl_inr ⟨rfl, us56_2⟩
                      · have dc24 := tl_nle tn_4 (rfl : TI s56_1 s56_1.toInt) c24
                        refine rl_bnd (Q := fun (y z : Int32 × DD) => y.1 = z.1 ∧ (0 ≤ y.1.toInt ∧ y.1.toInt ≤ 1) ∧ s56_2 = y.2 ∧ s56_2r = z.2) ?_ ?_
                        · refine rl_if (fun c25 => ?_) (fun c25 => ?_)
                          · have dc25 := tl_eq (rfl : TI y16 y16.toInt) tn_0 c25
                            refine rl_bnd (Q := fun (y z : Int32 × DD) => y.1 = z.1 ∧ (0 ≤ y.1.toInt ∧ y.1.toInt ≤ 1) ∧ s56_2 = y.2 ∧ s56_2r = z.2) ?_ ?_
                            · refine rl_if (fun c26 => ?_) (fun c26 => ?_)
                              · have dc26 := tl_eq iy10 tn_0 c26
                                refine rl_bnd (c_isStill ts56_2 eqc2 hqc2) ?_
                                rintro ⟨y77_1, y77_2⟩ ⟨y77_1r, y77_2r⟩ ⟨my77_11, my77_12, ey77_2⟩
                                obtain rfl : s56_2 = y77_1 := my77_11
                                obtain rfl : s56_2r = y77_1r := my77_12
                                obtain rfl : y77_2 = y77_2r := ey77_2
                                refine rl_bnd (Q := fun (y z : Int32) => y = z ∧ (0 ≤ y.toInt ∧ y.toInt ≤ 1)) ?_ ?_
                                · refine rl_if (fun c27 => ?_) (fun c27 => ?_)
                                  · have dc27 := tl_eq (rfl : TI y77_2 y77_2.toInt) tn_0 c27
                                    exact rl_some ⟨rfl, (ti_bd tn_0 (by omega) (by omega))⟩
                                  · exact rl_some ⟨rfl, (ti_bd tn_1 (by omega) (by omega))⟩
                                · rintro y78 y78r ⟨ey78, ly78⟩
                                  obtain rfl : y78 = y78r := ey78
                                  have ly78 : 0 ≤ y78.toInt ∧ y78.toInt ≤ 1 := ly78
                                  have iy78 : TI y78 y78.toInt := rfl
                                  exact rl_some ⟨rfl, (ti_bd iy78 (by omega) (by omega)), rfl, rfl⟩
                              · exact rl_some ⟨rfl, (ti_bd tn_0 (by omega) (by omega)), rfl, rfl⟩
                            · rintro ⟨y75_1, y75_2⟩ ⟨y75_1r, y75_2r⟩ ⟨ey75_1, ly75_1, my75_21, my75_22⟩
                              obtain rfl : y75_1 = y75_1r := ey75_1
                              have ly75_1 : 0 ≤ y75_1.toInt ∧ y75_1.toInt ≤ 1 := ly75_1
                              have iy75_1 : TI y75_1 y75_1.toInt := rfl
                              obtain rfl : s56_2 = y75_2 := my75_21
                              obtain rfl : s56_2r = y75_2r := my75_22
                              exact rl_some ⟨rfl, (ti_bd iy75_1 (by omega) (by omega)), rfl, rfl⟩
                          · exact rl_some ⟨rfl, (ti_bd tn_0 (by omega) (by omega)), rfl, rfl⟩
                        · rintro ⟨y61_1, y61_2⟩ ⟨y61_1r, y61_2r⟩ ⟨ey61_1, ly61_1, my61_21, my61_22⟩
                          obtain rfl : y61_1 = y61_1r := ey61_1
                          have ly61_1 : 0 ≤ y61_1.toInt ∧ y61_1.toInt ≤ 1 := ly61_1
                          have iy61_1 : TI y61_1 y61_1.toInt := rfl
                          obtain rfl : s56_2 = y61_2 := my61_21
                          obtain rfl : s56_2r = y61_2r := my61_22
                          refine rl_ltA (fun x62 => ?_)
                          refine rl_ltI (av_and 1 (rfl : TI x62 x62.toInt) (by decide) (by decide)) (fun x63 ix63 => ?_)
                          refine rl_bnd (Q := fun (y z : DD) => Up mu p s56_2 s56_2r y z) ?_ ?_
                          · refine rl_if (fun c28 => ?_) (fun c28 => ?_)
                            · have dc28 := tl_eq ix63 tn_1 c28
                              refine rl_bnd (Q := fun (y z : Int32) => y = z) ?_ ?_
                              · refine rl_if (fun c29 => ?_) (fun c29 => ?_)
                                · have dc29 := tl_eq iy61_1 tn_0 c29
                                  refine rl_rd wP125_18_s56_2 (fun x73 => ?_)
                                  exact rl_some rfl
                                · exact rl_some rfl
                              · rintro y67 y67r ey67
                                obtain rfl : y67 = y67r := ey67
                                refine rl_bnd (Q := fun (y z : Int32) => y = z) ?_ ?_
                                · refine rl_if (fun c30 => ?_) (fun c30 => ?_)
                                  · have dc30 := tl_eq iy61_1 tn_0 c30
                                    refine rl_rd wP125_19_s56_2 (fun x71 => ?_)
                                    exact rl_some rfl
                                  · exact rl_some rfl
                                · rintro y68 y68r ey68
                                  obtain rfl : y68 = y68r := ey68
                                  refine rl_bnd (c_setQuarter ts56_2) ?_
                                  rintro y69 y69r uy69'
                                  have uy69 : Up mu p s56_2 s56_2r y69 y69r := uy69'
                                  have ty69 := cx_up ts56_2 uy69
                                  have wP125_18_y69 := ag_up uy69 wP125_18_s56_2
                                  have wP125_19_y69 := ag_up uy69 wP125_19_s56_2
                                  exact rl_some uy69
                            · exact rl_some (up_0 mu (κ := p) _ _)
                          · rintro y64 y64r uy64
                            have uy64 : Up mu p s56_2 s56_2r y64 y64r := uy64
                            have ty64 := cx_up ts56_2 uy64
                            have wP125_18_y64 := ag_up uy64 wP125_18_s56_2
                            have wP125_19_y64 := ag_up uy64 wP125_19_s56_2
                            refine rl_ltA (fun x65 => ?_)
                            exact rl_inl ⟨rfl, (up_tr us56_2 uy64)⟩
                    · exact ⟨rfl, (up_0 mu (κ := p) _ _)⟩
                    · rintro ⟨y55_1, y55_2⟩ ⟨y55_1r, y55_2r⟩ ⟨ey55_1, uy55_2⟩
                      obtain rfl : y55_1 = y55_1r := ey55_1
                      have uy55_2 : Up mu p y54 y54r y55_2 y55_2r := uy55_2
                      have ty55_2 := cx_up ty54 uy55_2
                      have wP125_18_y55_2 := ag_up uy55_2 wP125_18_y54
                      have wP125_19_y55_2 := ag_up uy55_2 wP125_19_y54
                      refine rl_ltI (av_add is12_1 tn_1 (by omega) (by omega)) (fun x58 ix58 => ?_)
                      exact rl_inl ⟨rfl, (ti_bd ix58 (by omega) (by omega)), (up_tr (up_tr (up_tr (up_tr us12_2 uM17) uM18) uy54) uy55_2)⟩
        · exact ⟨rfl, (ti_bd tn_0 (by omega) (by omega)), (up_0 mu (κ := p) _ _)⟩
        · intro y11 y11r hyy11
          refine rl_sel hyy11 ?_ (fun a b h => rl_some h)
          rintro ⟨z11k_1, z11k_2⟩ ⟨z11k_1r, z11k_2r⟩ ⟨ez11k_1, lz11k_1, uz11k_2⟩
          obtain rfl : z11k_1 = z11k_1r := ez11k_1
          have lz11k_1 : 0 ≤ z11k_1.toInt ∧ z11k_1.toInt ≤ 2 := lz11k_1
          have iz11k_1 : TI z11k_1 z11k_1.toInt := rfl
          have uz11k_2 : Up mu p M N z11k_2 z11k_2r := uz11k_2
          have tz11k_2 := cx_up t uz11k_2
          refine rl_chk (fun h => h) (fun k31 => ?_)
          exact rl_some ⟨uz11k_2, rfl⟩
