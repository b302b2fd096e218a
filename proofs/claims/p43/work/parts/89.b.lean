/-! two runs in lockstep, printed out of the functions' trees -/
theorem b_tokenTable {mu : Nat → Nat} {G H : GG} {M N : DD} {p : Nat} {L : List Nat} (t : BX mu G H M N p L) {p0 : Int32} {a0 : Int} (i0 : TI p0 a0) {p1 : Int32} {a1 : Int} (i1 : TI p1 a1) (h0 : 0 ≤ a0) (h1 : a0 ≤ 3) (h2 : a1 = 0 ∨ a1 = 1 ∨ a1 = 2 ∨ a1 = 3 ∨ a1 = 4 ∨ a1 = 5 ∨ a1 = 6 ∨ a1 = 7 ∨ a1 = 8 ∨ a1 = 9 ∨ a1 = 10 ∨ a1 = 11 ∨ a1 = 12 ∨ a1 = 13 ∨ a1 = 14 ∨ a1 = 15 ∨ a1 = 16 ∨ a1 = 17 ∨ a1 = 18 ∨ a1 = 19 ∨ a1 = 20 ∨ a1 = 21 ∨ a1 = 22 ∨ a1 = 23) (hw : (M.1 p 1).toInt = 1 ∨ (M.1 p 1).toInt = 2) (hI : FG mu M N 129 (CI a0)) (hT : FG mu M N 131 (CTo a0 a1)) : LKS (FX9_tokenTable G M 125 p0 p1) (FX9_tokenTable H N (mu 125) p0 p1) (fun y z => M = y.1 ∧ N = z.1 ∧ y.2 = z.2) := by
  unfold FX9_tokenTable
  rcases h2 with rfl | rfl | rfl | rfl | rfl | rfl | rfl | rfl | rfl | rfl | rfl | rfl | rfl | rfl | rfl | rfl | rfl | rfl | rfl | rfl | rfl | rfl | rfl | rfl
  · refine rl_bnd (Q := fun (y z : Int32 × Int32 × DD) => y.1 = z.1 ∧ y.2.1 = z.2.1 ∧ M = y.2.2 ∧ N = z.2.2) ?_ ?_
    · refine rl_if (fun c1 => ?_) (fun c1 => ?_)
      · have dc1 := tl_le tn_16 i1 c1
        exfalso
        omega
      · have dc1 := tl_nle tn_16 i1 c1
        refine rl_bnd (b_pieceX t i1 (by omega) (by omega)) ?_
        rintro ⟨y28_1, y28_2⟩ ⟨y28_1r, y28_2r⟩ ⟨my28_11, my28_12, ey28_2, iy28_2⟩
        obtain rfl : M = y28_1 := my28_11
        obtain rfl : N = y28_1r := my28_12
        obtain rfl : y28_2 = y28_2r := ey28_2
        refine rl_ltI (av_sub iy28_2 tn_1 (by omega) (by omega)) (fun x29 ix29 => ?_)
        refine rl_bnd (b_pieceY t i1 (by omega) (by omega)) ?_
        rintro ⟨y30_1, y30_2⟩ ⟨y30_1r, y30_2r⟩ ⟨my30_11, my30_12, ey30_2, iy30_2⟩
        obtain rfl : M = y30_1 := my30_11
        obtain rfl : N = y30_1r := my30_12
        obtain rfl : y30_2 = y30_2r := ey30_2
        refine rl_bnd (b_pieceAt t i0 ix29 iy30_2 tn_16 (by omega) (by omega) (by omega) (by omega) (by omega) (by omega) (by omega) (by omega) hw hI) ?_
        rintro ⟨y31_1, y31_2⟩ ⟨y31_1r, y31_2r⟩ ⟨my31_11, my31_12, ey31_2, ly31_2⟩
        obtain rfl : M = y31_1 := my31_11
        obtain rfl : N = y31_1r := my31_12
        obtain rfl : y31_2 = y31_2r := ey31_2
        dsimp only at ly31_2
        have iy31_2 : TI y31_2 y31_2.toInt := rfl
        refine rl_bnd (b_totalAt t iy31_2 tn_m1 (by omega) (by omega) (by omega) (by omega) (by omega) hT) ?_
        rintro ⟨y32_1, y32_2⟩ ⟨y32_1r, y32_2r⟩ ⟨my32_11, my32_12, ey32_2⟩
        obtain rfl : M = y32_1 := my32_11
        obtain rfl : N = y32_1r := my32_12
        obtain rfl : y32_2 = y32_2r := ey32_2
        refine rl_bnd (b_pieceX t i1 (by omega) (by omega)) ?_
        rintro ⟨y33_1, y33_2⟩ ⟨y33_1r, y33_2r⟩ ⟨my33_11, my33_12, ey33_2, iy33_2⟩
        obtain rfl : M = y33_1 := my33_11
        obtain rfl : N = y33_1r := my33_12
        obtain rfl : y33_2 = y33_2r := ey33_2
        refine rl_bnd (b_pieceY t i1 (by omega) (by omega)) ?_
        rintro ⟨y34_1, y34_2⟩ ⟨y34_1r, y34_2r⟩ ⟨my34_11, my34_12, ey34_2, iy34_2⟩
        obtain rfl : M = y34_1 := my34_11
        obtain rfl : N = y34_1r := my34_12
        obtain rfl : y34_2 = y34_2r := ey34_2
        refine rl_ltI (av_sub iy34_2 tn_1 (by omega) (by omega)) (fun x35 ix35 => ?_)
        refine rl_bnd (b_pieceAt t i0 iy33_2 ix35 tn_16 (by omega) (by omega) (by omega) (by omega) (by omega) (by omega) (by omega) (by omega) hw hI) ?_
        rintro ⟨y36_1, y36_2⟩ ⟨y36_1r, y36_2r⟩ ⟨my36_11, my36_12, ey36_2, ly36_2⟩
        obtain rfl : M = y36_1 := my36_11
        obtain rfl : N = y36_1r := my36_12
        obtain rfl : y36_2 = y36_2r := ey36_2
        dsimp only at ly36_2
        have iy36_2 : TI y36_2 y36_2.toInt := rfl
        refine rl_bnd (b_totalAt t iy36_2 tn_m1 (by omega) (by omega) (by omega) (by omega) (by omega) hT) ?_
        rintro ⟨y37_1, y37_2⟩ ⟨y37_1r, y37_2r⟩ ⟨my37_11, my37_12, ey37_2⟩
        obtain rfl : M = y37_1 := my37_11
        obtain rfl : N = y37_1r := my37_12
        obtain rfl : y37_2 = y37_2r := ey37_2
        exact rl_some ⟨rfl, rfl, rfl, rfl⟩
    · rintro ⟨y1_1, y1_2_1, y1_2_2⟩ ⟨y1_1r, y1_2_1r, y1_2_2r⟩ ⟨ey1_1, ey1_2_1, my1_2_21, my1_2_22⟩
      obtain rfl : y1_1 = y1_1r := ey1_1
      obtain rfl : y1_2_1 = y1_2_1r := ey1_2_1
      obtain rfl : M = y1_2_2 := my1_2_21
      obtain rfl : N = y1_2_2r := my1_2_22
      refine rl_bnd (Q := fun (y z : Int32) => y = z) ?_ ?_
      · refine rl_if (fun c2 => ?_) (fun c2 => ?_)
        · have dc2 := tl_le tn_0 (rfl : TI y1_1 y1_1.toInt) c2
          refine rl_bnd (Q := fun (y z : Int32) => y = z) ?_ ?_
          · refine rl_if (fun c3 => ?_) (fun c3 => ?_)
            · have dc3 := tl_le tn_0 (rfl : TI y1_2_1 y1_2_1.toInt) c3
              refine rl_ltA (fun x12 => ?_)
              refine rl_ltA (fun x13 => ?_)
              refine rl_ltA (fun x14 => ?_)
              exact rl_some rfl
            · have dc3 := tl_nle tn_0 (rfl : TI y1_2_1 y1_2_1.toInt) c3
              exact rl_some rfl
          · rintro y10 y10r ey10
            obtain rfl : y10 = y10r := ey10
            exact rl_some rfl
        · have dc2 := tl_nle tn_0 (rfl : TI y1_1 y1_1.toInt) c2
          exact rl_some rfl
      · rintro y2 y2r ey2
        obtain rfl : y2 = y2r := ey2
        refine rl_bnd (Q := fun (y z : Int32) => y = z ∧ (0 ≤ y.toInt ∧ y.toInt ≤ 3)) ?_ ?_
        · refine rl_if (fun c4 => ?_) (fun c4 => ?_)
          · have dc4 := tl_le tn_2 (rfl : TI y2 y2.toInt) c4
            refine rl_bnd (Q := fun (y z : Int32) => y = z ∧ (1 ≤ y.toInt ∧ y.toInt ≤ 3)) ?_ ?_
            · refine rl_if (fun c5 => ?_) (fun c5 => ?_)
              · have dc5 := tl_le tn_4 (rfl : TI y2 y2.toInt) c5
                refine rl_bnd (Q := fun (y z : Int32) => y = z ∧ (2 ≤ y.toInt ∧ y.toInt ≤ 3)) ?_ ?_
                · refine rl_if (fun c6 => ?_) (fun c6 => ?_)
                  · have dc6 := tl_le tn_8 (rfl : TI y2 y2.toInt) c6
                    exact rl_some ⟨rfl, (ti_bd tn_3 (by omega) (by omega))⟩
                  · have dc6 := tl_nle tn_8 (rfl : TI y2 y2.toInt) c6
                    exact rl_some ⟨rfl, (ti_bd tn_2 (by omega) (by omega))⟩
                · rintro y7 y7r ⟨ey7, ly7⟩
                  obtain rfl : y7 = y7r := ey7
                  have ly7 : 2 ≤ y7.toInt ∧ y7.toInt ≤ 3 := ly7
                  have iy7 : TI y7 y7.toInt := rfl
                  exact rl_some ⟨rfl, (ti_bd iy7 (by omega) (by omega))⟩
              · have dc5 := tl_nle tn_4 (rfl : TI y2 y2.toInt) c5
                exact rl_some ⟨rfl, (ti_bd tn_1 (by omega) (by omega))⟩
            · rintro y5 y5r ⟨ey5, ly5⟩
              obtain rfl : y5 = y5r := ey5
              have ly5 : 1 ≤ y5.toInt ∧ y5.toInt ≤ 3 := ly5
              have iy5 : TI y5 y5.toInt := rfl
              exact rl_some ⟨rfl, (ti_bd iy5 (by omega) (by omega))⟩
          · have dc4 := tl_nle tn_2 (rfl : TI y2 y2.toInt) c4
            exact rl_some ⟨rfl, (ti_bd tn_0 (by omega) (by omega))⟩
        · rintro y3 y3r ⟨ey3, ly3⟩
          obtain rfl : y3 = y3r := ey3
          have ly3 : 0 ≤ y3.toInt ∧ y3.toInt ≤ 3 := ly3
          have iy3 : TI y3 y3.toInt := rfl
          exact rl_some ⟨rfl, rfl, rfl⟩
  · refine rl_bnd (Q := fun (y z : Int32 × Int32 × DD) => y.1 = z.1 ∧ y.2.1 = z.2.1 ∧ M = y.2.2 ∧ N = z.2.2) ?_ ?_
    · refine rl_if (fun c1 => ?_) (fun c1 => ?_)
      · have dc1 := tl_le tn_16 i1 c1
        exfalso
        omega
      · have dc1 := tl_nle tn_16 i1 c1
        refine rl_bnd (b_pieceX t i1 (by omega) (by omega)) ?_
        rintro ⟨y28_1, y28_2⟩ ⟨y28_1r, y28_2r⟩ ⟨my28_11, my28_12, ey28_2, iy28_2⟩
        obtain rfl : M = y28_1 := my28_11
        obtain rfl : N = y28_1r := my28_12
        obtain rfl : y28_2 = y28_2r := ey28_2
        refine rl_ltI (av_sub iy28_2 tn_1 (by omega) (by omega)) (fun x29 ix29 => ?_)
        refine rl_bnd (b_pieceY t i1 (by omega) (by omega)) ?_
        rintro ⟨y30_1, y30_2⟩ ⟨y30_1r, y30_2r⟩ ⟨my30_11, my30_12, ey30_2, iy30_2⟩
        obtain rfl : M = y30_1 := my30_11
        obtain rfl : N = y30_1r := my30_12
        obtain rfl : y30_2 = y30_2r := ey30_2
        refine rl_bnd (b_pieceAt t i0 ix29 iy30_2 tn_16 (by omega) (by omega) (by omega) (by omega) (by omega) (by omega) (by omega) (by omega) hw hI) ?_
        rintro ⟨y31_1, y31_2⟩ ⟨y31_1r, y31_2r⟩ ⟨my31_11, my31_12, ey31_2, ly31_2⟩
        obtain rfl : M = y31_1 := my31_11
        obtain rfl : N = y31_1r := my31_12
        obtain rfl : y31_2 = y31_2r := ey31_2
        dsimp only at ly31_2
        have iy31_2 : TI y31_2 y31_2.toInt := rfl
        refine rl_bnd (b_totalAt t iy31_2 tn_m1 (by omega) (by omega) (by omega) (by omega) (by omega) hT) ?_
        rintro ⟨y32_1, y32_2⟩ ⟨y32_1r, y32_2r⟩ ⟨my32_11, my32_12, ey32_2⟩
        obtain rfl : M = y32_1 := my32_11
        obtain rfl : N = y32_1r := my32_12
        obtain rfl : y32_2 = y32_2r := ey32_2
        refine rl_bnd (b_pieceX t i1 (by omega) (by omega)) ?_
        rintro ⟨y33_1, y33_2⟩ ⟨y33_1r, y33_2r⟩ ⟨my33_11, my33_12, ey33_2, iy33_2⟩
        obtain rfl : M = y33_1 := my33_11
        obtain rfl : N = y33_1r := my33_12
        obtain rfl : y33_2 = y33_2r := ey33_2
        refine rl_bnd (b_pieceY t i1 (by omega) (by omega)) ?_
        rintro ⟨y34_1, y34_2⟩ ⟨y34_1r, y34_2r⟩ ⟨my34_11, my34_12, ey34_2, iy34_2⟩
        obtain rfl : M = y34_1 := my34_11
        obtain rfl : N = y34_1r := my34_12
        obtain rfl : y34_2 = y34_2r := ey34_2
        refine rl_ltI (av_sub iy34_2 tn_1 (by omega) (by omega)) (fun x35 ix35 => ?_)
        refine rl_bnd (b_pieceAt t i0 iy33_2 ix35 tn_16 (by omega) (by omega) (by omega) (by omega) (by omega) (by omega) (by omega) (by omega) hw hI) ?_
        rintro ⟨y36_1, y36_2⟩ ⟨y36_1r, y36_2r⟩ ⟨my36_11, my36_12, ey36_2, ly36_2⟩
        obtain rfl : M = y36_1 := my36_11
        obtain rfl : N = y36_1r := my36_12
        obtain rfl : y36_2 = y36_2r := ey36_2
        dsimp only at ly36_2
        have iy36_2 : TI y36_2 y36_2.toInt := rfl
        refine rl_bnd (b_totalAt t iy36_2 tn_m1 (by omega) (by omega) (by omega) (by omega) (by omega) hT) ?_
        rintro ⟨y37_1, y37_2⟩ ⟨y37_1r, y37_2r⟩ ⟨my37_11, my37_12, ey37_2⟩
        obtain rfl : M = y37_1 := my37_11
        obtain rfl : N = y37_1r := my37_12
        obtain rfl : y37_2 = y37_2r := ey37_2
        exact rl_some ⟨rfl, rfl, rfl, rfl⟩
    · rintro ⟨y1_1, y1_2_1, y1_2_2⟩ ⟨y1_1r, y1_2_1r, y1_2_2r⟩ ⟨ey1_1, ey1_2_1, my1_2_21, my1_2_22⟩
      obtain rfl : y1_1 = y1_1r := ey1_1
      obtain rfl : y1_2_1 = y1_2_1r := ey1_2_1
      obtain rfl : M = y1_2_2 := my1_2_21
      obtain rfl : N = y1_2_2r := my1_2_22
      refine rl_bnd (Q := fun (y z : Int32) => y = z) ?_ ?_
      · refine rl_if (fun c2 => ?_) (fun c2 => ?_)
        · have dc2 := tl_le tn_0 (rfl : TI y1_1 y1_1.toInt) c2
          refine rl_bnd (Q := fun (y z : Int32) => y = z) ?_ ?_
          · refine rl_if (fun c3 => ?_) (fun c3 => ?_)
            · have dc3 := tl_le tn_0 (rfl : TI y1_2_1 y1_2_1.toInt) c3
              refine rl_ltA (fun x12 => ?_)
              refine rl_ltA (fun x13 => ?_)
              refine rl_ltA (fun x14 => ?_)
              exact rl_some rfl
            · have dc3 := tl_nle tn_0 (rfl : TI y1_2_1 y1_2_1.toInt) c3
              exact rl_some rfl
          · rintro y10 y10r ey10
            obtain rfl : y10 = y10r := ey10
            exact rl_some rfl
        · have dc2 := tl_nle tn_0 (rfl : TI y1_1 y1_1.toInt) c2
          exact rl_some rfl
      · rintro y2 y2r ey2
        obtain rfl : y2 = y2r := ey2
        refine rl_bnd (Q := fun (y z : Int32) => y = z ∧ (0 ≤ y.toInt ∧ y.toInt ≤ 3)) ?_ ?_
        · refine rl_if (fun c4 => ?_) (fun c4 => ?_)
          · have dc4 := tl_le tn_2 (rfl : TI y2 y2.toInt) c4
            refine rl_bnd (Q := fun (y z : Int32) => y = z ∧ (1 ≤ y.toInt ∧ y.toInt ≤ 3)) ?_ ?_
            · refine rl_if (fun c5 => ?_) (fun c5 => ?_)
              · have dc5 := tl_le tn_4 (rfl : TI y2 y2.toInt) c5
                refine rl_bnd (Q := fun (y z : Int32) => y = z ∧ (2 ≤ y.toInt ∧ y.toInt ≤ 3)) ?_ ?_
                · refine rl_if (fun c6 => ?_) (fun c6 => ?_)
                  · have dc6 := tl_le tn_8 (rfl : TI y2 y2.toInt) c6
                    exact rl_some ⟨rfl, (ti_bd tn_3 (by omega) (by omega))⟩
                  · have dc6 := tl_nle tn_8 (rfl : TI y2 y2.toInt) c6
                    exact rl_some ⟨rfl, (ti_bd tn_2 (by omega) (by omega))⟩
                · rintro y7 y7r ⟨ey7, ly7⟩
                  obtain rfl : y7 = y7r := ey7
                  have ly7 : 2 ≤ y7.toInt ∧ y7.toInt ≤ 3 := ly7
                  have iy7 : TI y7 y7.toInt := rfl
                  exact rl_some ⟨rfl, (ti_bd iy7 (by omega) (by omega))⟩
              · have dc5 := tl_nle tn_4 (rfl : TI y2 y2.toInt) c5
                exact rl_some ⟨rfl, (ti_bd tn_1 (by omega) (by omega))⟩
            · rintro y5 y5r ⟨ey5, ly5⟩
              obtain rfl : y5 = y5r := ey5
              have ly5 : 1 ≤ y5.toInt ∧ y5.toInt ≤ 3 := ly5
              have iy5 : TI y5 y5.toInt := rfl
              exact rl_some ⟨rfl, (ti_bd iy5 (by omega) (by omega))⟩
          · have dc4 := tl_nle tn_2 (rfl : TI y2 y2.toInt) c4
            exact rl_some ⟨rfl, (ti_bd tn_0 (by omega) (by omega))⟩
        · rintro y3 y3r ⟨ey3, ly3⟩
          obtain rfl : y3 = y3r := ey3
          have ly3 : 0 ≤ y3.toInt ∧ y3.toInt ≤ 3 := ly3
          have iy3 : TI y3 y3.toInt := rfl
          exact rl_some ⟨rfl, rfl, rfl⟩
  · refine rl_bnd (Q := fun (y z : Int32 × Int32 × DD) => y.1 = z.1 ∧ y.2.1 = z.2.1 ∧ M = y.2.2 ∧ N = z.2.2) ?_ ?_
    · refine rl_if (fun c1 => ?_) (fun c1 => ?_)
      · have dc1 := tl_le tn_16 i1 c1
        exfalso
        omega
      · have dc1 := tl_nle tn_16 i1 c1
        refine rl_bnd (b_pieceX t i1 (by omega) (by omega)) ?_
        rintro ⟨y28_1, y28_2⟩ ⟨y28_1r, y28_2r⟩ ⟨my28_11, my28_12, ey28_2, iy28_2⟩
        obtain rfl : M = y28_1 := my28_11
        obtain rfl : N = y28_1r := my28_12
        obtain rfl : y28_2 = y28_2r := ey28_2
        refine rl_ltI (av_sub iy28_2 tn_1 (by omega) (by omega)) (fun x29 ix29 => ?_)
        refine rl_bnd (b_pieceY t i1 (by omega) (by omega)) ?_
        rintro ⟨y30_1, y30_2⟩ ⟨y30_1r, y30_2r⟩ ⟨my30_11, my30_12, ey30_2, iy30_2⟩
        obtain rfl : M = y30_1 := my30_11
        obtain rfl : N = y30_1r := my30_12
        obtain rfl : y30_2 = y30_2r := ey30_2
        refine rl_bnd (b_pieceAt t i0 ix29 iy30_2 tn_16 (by omega) (by omega) (by omega) (by omega) (by omega) (by omega) (by omega) (by omega) hw hI) ?_
        rintro ⟨y31_1, y31_2⟩ ⟨y31_1r, y31_2r⟩ ⟨my31_11, my31_12, ey31_2, ly31_2⟩
        obtain rfl : M = y31_1 := my31_11
        obtain rfl : N = y31_1r := my31_12
        obtain rfl : y31_2 = y31_2r := ey31_2
        dsimp only at ly31_2
        have iy31_2 : TI y31_2 y31_2.toInt := rfl
        refine rl_bnd (b_totalAt t iy31_2 tn_m1 (by omega) (by omega) (by omega) (by omega) (by omega) hT) ?_
        rintro ⟨y32_1, y32_2⟩ ⟨y32_1r, y32_2r⟩ ⟨my32_11, my32_12, ey32_2⟩
        obtain rfl : M = y32_1 := my32_11
        obtain rfl : N = y32_1r := my32_12
        obtain rfl : y32_2 = y32_2r := ey32_2
        refine rl_bnd (b_pieceX t i1 (by omega) (by omega)) ?_
        rintro ⟨y33_1, y33_2⟩ ⟨y33_1r, y33_2r⟩ ⟨my33_11, my33_12, ey33_2, iy33_2⟩
        obtain rfl : M = y33_1 := my33_11
        obtain rfl : N = y33_1r := my33_12
        obtain rfl : y33_2 = y33_2r := ey33_2
        refine rl_bnd (b_pieceY t i1 (by omega) (by omega)) ?_
        rintro ⟨y34_1, y34_2⟩ ⟨y34_1r, y34_2r⟩ ⟨my34_11, my34_12, ey34_2, iy34_2⟩
        obtain rfl : M = y34_1 := my34_11
        obtain rfl : N = y34_1r := my34_12
        obtain rfl : y34_2 = y34_2r := ey34_2
        refine rl_ltI (av_sub iy34_2 tn_1 (by omega) (by omega)) (fun x35 ix35 => ?_)
        refine rl_bnd (b_pieceAt t i0 iy33_2 ix35 tn_16 (by omega) (by omega) (by omega) (by omega) (by omega) (by omega) (by omega) (by omega) hw hI) ?_
        rintro ⟨y36_1, y36_2⟩ ⟨y36_1r, y36_2r⟩ ⟨my36_11, my36_12, ey36_2, ly36_2⟩
        obtain rfl : M = y36_1 := my36_11
        obtain rfl : N = y36_1r := my36_12
        obtain rfl : y36_2 = y36_2r := ey36_2
        dsimp only at ly36_2
        have iy36_2 : TI y36_2 y36_2.toInt := rfl
        refine rl_bnd (b_totalAt t iy36_2 tn_m1 (by omega) (by omega) (by omega) (by omega) (by omega) hT) ?_
        rintro ⟨y37_1, y37_2⟩ ⟨y37_1r, y37_2r⟩ ⟨my37_11, my37_12, ey37_2⟩
        obtain rfl : M = y37_1 := my37_11
        obtain rfl : N = y37_1r := my37_12
        obtain rfl : y37_2 = y37_2r := ey37_2
        exact rl_some ⟨rfl, rfl, rfl, rfl⟩
    · rintro ⟨y1_1, y1_2_1, y1_2_2⟩ ⟨y1_1r, y1_2_1r, y1_2_2r⟩ ⟨ey1_1, ey1_2_1, my1_2_21, my1_2_22⟩
      obtain rfl : y1_1 = y1_1r := ey1_1
      obtain rfl : y1_2_1 = y1_2_1r := ey1_2_1
      obtain rfl : M = y1_2_2 := my1_2_21
      obtain rfl : N = y1_2_2r := my1_2_22
      refine rl_bnd (Q := fun (y z : Int32) => y = z) ?_ ?_
      · refine rl_if (fun c2 => ?_) (fun c2 => ?_)
        · have dc2 := tl_le tn_0 (rfl : TI y1_1 y1_1.toInt) c2
          refine rl_bnd (Q := fun (y z : Int32) => y = z) ?_ ?_
          · refine rl_if (fun c3 => ?_) (fun c3 => ?_)
            · have dc3 := tl_le tn_0 (rfl : TI y1_2_1 y1_2_1.toInt) c3
              refine rl_ltA (fun x12 => ?_)
              refine rl_ltA (fun x13 => ?_)
              refine rl_ltA (fun x14 => ?_)
              exact rl_some rfl
            · have dc3 := tl_nle tn_0 (rfl : TI y1_2_1 y1_2_1.toInt) c3
              exact rl_some rfl
          · rintro y10 y10r ey10
            obtain rfl : y10 = y10r := ey10
            exact rl_some rfl
        · have dc2 := tl_nle tn_0 (rfl : TI y1_1 y1_1.toInt) c2
          exact rl_some rfl
      · rintro y2 y2r ey2
        obtain rfl : y2 = y2r := ey2
        refine rl_bnd (Q := fun (y z : Int32) => y = z ∧ (0 ≤ y.toInt ∧ y.toInt ≤ 3)) ?_ ?_
        · refine rl_if (fun c4 => ?_) (fun c4 => ?_)
          · have dc4 := tl_le tn_2 (rfl : TI y2 y2.toInt) c4
            refine rl_bnd (Q := fun (y z : Int32) => y = z ∧ (1 ≤ y.toInt ∧ y.toInt ≤ 3)) ?_ ?_
            · refine rl_if (fun c5 => ?_) (fun c5 => ?_)
              · have dc5 := tl_le tn_4 (rfl : TI y2 y2.toInt) c5
                refine rl_bnd (Q := fun (y z : Int32) => y = z ∧ (2 ≤ y.toInt ∧ y.toInt ≤ 3)) ?_ ?_
                · refine rl_if (fun c6 => ?_) (fun c6 => ?_)
                  · have dc6 := tl_le tn_8 (rfl : TI y2 y2.toInt) c6
                    exact rl_some ⟨rfl, (ti_bd tn_3 (by omega) (by omega))⟩
                  · have dc6 := tl_nle tn_8 (rfl : TI y2 y2.toInt) c6
                    exact rl_some ⟨rfl, (ti_bd tn_2 (by omega) (by omega))⟩
                · rintro y7 y7r ⟨ey7, ly7⟩
                  obtain rfl : y7 = y7r := ey7
                  have ly7 : 2 ≤ y7.toInt ∧ y7.toInt ≤ 3 := ly7
                  have iy7 : TI y7 y7.toInt := rfl
                  exact rl_some ⟨rfl, (ti_bd iy7 (by omega) (by omega))⟩
              · have dc5 := tl_nle tn_4 (rfl : TI y2 y2.toInt) c5
                exact rl_some ⟨rfl, (ti_bd tn_1 (by omega) (by omega))⟩
            · rintro y5 y5r ⟨ey5, ly5⟩
              obtain rfl : y5 = y5r := ey5
              have ly5 : 1 ≤ y5.toInt ∧ y5.toInt ≤ 3 := ly5
              have iy5 : TI y5 y5.toInt := rfl
              exact rl_some ⟨rfl, (ti_bd iy5 (by omega) (by omega))⟩
          · have dc4 := tl_nle tn_2 (rfl : TI y2 y2.toInt) c4
            exact rl_some ⟨rfl, (ti_bd tn_0 (by omega) (by omega))⟩
        · rintro y3 y3r ⟨ey3, ly3⟩
          obtain rfl : y3 = y3r := ey3
          have ly3 : 0 ≤ y3.toInt ∧ y3.toInt ≤ 3 := ly3
          have iy3 : TI y3 y3.toInt := rfl
          exact rl_some ⟨rfl, rfl, rfl⟩
  · refine rl_bnd (Q := fun (y z : Int32 × Int32 × DD) => y.1 = z.1 ∧ y.2.1 = z.2.1 ∧ M = y.2.2 ∧ N = z.2.2) ?_ ?_
    · refine rl_if (fun c1 => ?_) (fun c1 => ?_)
      · have dc1 := tl_le tn_16 i1 c1
        exfalso
        omega
      · have dc1 := tl_nle tn_16 i1 c1
        refine rl_bnd (b_pieceX t i1 (by omega) (by omega)) ?_
        rintro ⟨y28_1, y28_2⟩ ⟨y28_1r, y28_2r⟩ ⟨my28_11, my28_12, ey28_2, iy28_2⟩
        obtain rfl : M = y28_1 := my28_11
        obtain rfl : N = y28_1r := my28_12
        obtain rfl : y28_2 = y28_2r := ey28_2
        refine rl_ltI (av_sub iy28_2 tn_1 (by omega) (by omega)) (fun x29 ix29 => ?_)
        refine rl_bnd (b_pieceY t i1 (by omega) (by omega)) ?_
        rintro ⟨y30_1, y30_2⟩ ⟨y30_1r, y30_2r⟩ ⟨my30_11, my30_12, ey30_2, iy30_2⟩
        obtain rfl : M = y30_1 := my30_11
        obtain rfl : N = y30_1r := my30_12
        obtain rfl : y30_2 = y30_2r := ey30_2
        refine rl_bnd (b_pieceAt t i0 ix29 iy30_2 tn_16 (by omega) (by omega) (by omega) (by omega) (by omega) (by omega) (by omega) (by omega) hw hI) ?_
        rintro ⟨y31_1, y31_2⟩ ⟨y31_1r, y31_2r⟩ ⟨my31_11, my31_12, ey31_2, ly31_2⟩
        obtain rfl : M = y31_1 := my31_11
        obtain rfl : N = y31_1r := my31_12
        obtain rfl : y31_2 = y31_2r := ey31_2
        dsimp only at ly31_2
        have iy31_2 : TI y31_2 y31_2.toInt := rfl
        refine rl_bnd (b_totalAt t iy31_2 tn_m1 (by omega) (by omega) (by omega) (by omega) (by omega) hT) ?_
        rintro ⟨y32_1, y32_2⟩ ⟨y32_1r, y32_2r⟩ ⟨my32_11, my32_12, ey32_2⟩
        obtain rfl : M = y32_1 := my32_11
        obtain rfl : N = y32_1r := my32_12
        obtain rfl : y32_2 = y32_2r := ey32_2
        refine rl_bnd (b_pieceX t i1 (by omega) (by omega)) ?_
        rintro ⟨y33_1, y33_2⟩ ⟨y33_1r, y33_2r⟩ ⟨my33_11, my33_12, ey33_2, iy33_2⟩
        obtain rfl : M = y33_1 := my33_11
        obtain rfl : N = y33_1r := my33_12
        obtain rfl : y33_2 = y33_2r := ey33_2
        refine rl_bnd (b_pieceY t i1 (by omega) (by omega)) ?_
        rintro ⟨y34_1, y34_2⟩ ⟨y34_1r, y34_2r⟩ ⟨my34_11, my34_12, ey34_2, iy34_2⟩
        obtain rfl : M = y34_1 := my34_11
        obtain rfl : N = y34_1r := my34_12
        obtain rfl : y34_2 = y34_2r := ey34_2
        refine rl_ltI (av_sub iy34_2 tn_1 (by omega) (by omega)) (fun x35 ix35 => ?_)
        refine rl_bnd (b_pieceAt t i0 iy33_2 ix35 tn_16 (by omega) (by omega) (by omega) (by omega) (by omega) (by omega) (by omega) (by omega) hw hI) ?_
        rintro ⟨y36_1, y36_2⟩ ⟨y36_1r, y36_2r⟩ ⟨my36_11, my36_12, ey36_2, ly36_2⟩
        obtain rfl : M = y36_1 := my36_11
        obtain rfl : N = y36_1r := my36_12
        obtain rfl : y36_2 = y36_2r := ey36_2
        dsimp only at ly36_2
        have iy36_2 : TI y36_2 y36_2.toInt := rfl
        refine rl_bnd (b_totalAt t iy36_2 tn_m1 (by omega) (by omega) (by omega) (by omega) (by omega) hT) ?_
        rintro ⟨y37_1, y37_2⟩ ⟨y37_1r, y37_2r⟩ ⟨my37_11, my37_12, ey37_2⟩
        obtain rfl : M = y37_1 := my37_11
        obtain rfl : N = y37_1r := my37_12
        obtain rfl : y37_2 = y37_2r := ey37_2
        exact rl_some ⟨rfl, rfl, rfl, rfl⟩
    · rintro ⟨y1_1, y1_2_1, y1_2_2⟩ ⟨y1_1r, y1_2_1r, y1_2_2r⟩ ⟨ey1_1, ey1_2_1, my1_2_21, my1_2_22⟩
      obtain rfl : y1_1 = y1_1r := ey1_1
      obtain rfl : y1_2_1 = y1_2_1r := ey1_2_1
      obtain rfl : M = y1_2_2 := my1_2_21
      obtain rfl : N = y1_2_2r := my1_2_22
      refine rl_bnd (Q := fun (y z : Int32) => y = z) ?_ ?_
      · refine rl_if (fun c2 => ?_) (fun c2 => ?_)
        · have dc2 := tl_le tn_0 (rfl : TI y1_1 y1_1.toInt) c2
          refine rl_bnd (Q := fun (y z : Int32) => y = z) ?_ ?_
          · refine rl_if (fun c3 => ?_) (fun c3 => ?_)
            · have dc3 := tl_le tn_0 (rfl : TI y1_2_1 y1_2_1.toInt) c3
              refine rl_ltA (fun x12 => ?_)
              refine rl_ltA (fun x13 => ?_)
              refine rl_ltA (fun x14 => ?_)
              exact rl_some rfl
            · have dc3 := tl_nle tn_0 (rfl : TI y1_2_1 y1_2_1.toInt) c3
              exact rl_some rfl
          · rintro y10 y10r ey10
            obtain rfl : y10 = y10r := ey10
            exact rl_some rfl
        · have dc2 := tl_nle tn_0 (rfl : TI y1_1 y1_1.toInt) c2
          exact rl_some rfl
      · rintro y2 y2r ey2
        obtain rfl : y2 = y2r := ey2
        refine rl_bnd (Q := fun (y z : Int32) => y = z ∧ (0 ≤ y.toInt ∧ y.toInt ≤ 3)) ?_ ?_
        · refine rl_if (fun c4 => ?_) (fun c4 => ?_)
          · have dc4 := tl_le tn_2 (rfl : TI y2 y2.toInt) c4
            refine rl_bnd (Q := fun (y z : Int32) => y = z ∧ (1 ≤ y.toInt ∧ y.toInt ≤ 3)) ?_ ?_
            · refine rl_if (fun c5 => ?_) (fun c5 => ?_)
              · have dc5 := tl_le tn_4 (rfl : TI y2 y2.toInt) c5
                refine rl_bnd (Q := fun (y z : Int32) => y = z ∧ (2 ≤ y.toInt ∧ y.toInt ≤ 3)) ?_ ?_
                · refine rl_if (fun c6 => ?_) (fun c6 => ?_)
                  · have dc6 := tl_le tn_8 (rfl : TI y2 y2.toInt) c6
                    exact rl_some ⟨rfl, (ti_bd tn_3 (by omega) (by omega))⟩
                  · have dc6 := tl_nle tn_8 (rfl : TI y2 y2.toInt) c6
                    exact rl_some ⟨rfl, (ti_bd tn_2 (by omega) (by omega))⟩
                · rintro y7 y7r ⟨ey7, ly7⟩
                  obtain rfl : y7 = y7r := ey7
                  have ly7 : 2 ≤ y7.toInt ∧ y7.toInt ≤ 3 := ly7
                  have iy7 : TI y7 y7.toInt := rfl
                  exact rl_some ⟨rfl, (ti_bd iy7 (by omega) (by omega))⟩
              · have dc5 := tl_nle tn_4 (rfl : TI y2 y2.toInt) c5
                exact rl_some ⟨rfl, (ti_bd tn_1 (by omega) (by omega))⟩
            · rintro y5 y5r ⟨ey5, ly5⟩
              obtain rfl : y5 = y5r := ey5
              have ly5 : 1 ≤ y5.toInt ∧ y5.toInt ≤ 3 := ly5
              have iy5 : TI y5 y5.toInt := rfl
              exact rl_some ⟨rfl, (ti_bd iy5 (by omega) (by omega))⟩
          · have dc4 := tl_nle tn_2 (rfl : TI y2 y2.toInt) c4
            exact rl_some ⟨rfl, (ti_bd tn_0 (by omega) (by omega))⟩
        · rintro y3 y3r ⟨ey3, ly3⟩
          obtain rfl : y3 = y3r := ey3
          have ly3 : 0 ≤ y3.toInt ∧ y3.toInt ≤ 3 := ly3
          have iy3 : TI y3 y3.toInt := rfl
          exact rl_some ⟨rfl, rfl, rfl⟩
  · refine rl_bnd (Q := fun (y z : Int32 × Int32 × DD) => y.1 = z.1 ∧ y.2.1 = z.2.1 ∧ M = y.2.2 ∧ N = z.2.2) ?_ ?_
    · refine rl_if (fun c1 => ?_) (fun c1 => ?_)
      · have dc1 := tl_le tn_16 i1 c1
        exfalso
        omega
      · have dc1 := tl_nle tn_16 i1 c1
        refine rl_bnd (b_pieceX t i1 (by omega) (by omega)) ?_
        rintro ⟨y28_1, y28_2⟩ ⟨y28_1r, y28_2r⟩ ⟨my28_11, my28_12, ey28_2, iy28_2⟩
        obtain rfl : M = y28_1 := my28_11
        obtain rfl : N = y28_1r := my28_12
        obtain rfl : y28_2 = y28_2r := ey28_2
        refine rl_ltI (av_sub iy28_2 tn_1 (by omega) (by omega)) (fun x29 ix29 => ?_)
        refine rl_bnd (b_pieceY t i1 (by omega) (by omega)) ?_
        rintro ⟨y30_1, y30_2⟩ ⟨y30_1r, y30_2r⟩ ⟨my30_11, my30_12, ey30_2, iy30_2⟩
        obtain rfl : M = y30_1 := my30_11
        obtain rfl : N = y30_1r := my30_12
        obtain rfl : y30_2 = y30_2r := ey30_2
        refine rl_bnd (b_pieceAt t i0 ix29 iy30_2 tn_16 (by omega) (by omega) (by omega) (by omega) (by omega) (by omega) (by omega) (by omega) hw hI) ?_
        rintro ⟨y31_1, y31_2⟩ ⟨y31_1r, y31_2r⟩ ⟨my31_11, my31_12, ey31_2, ly31_2⟩
        obtain rfl : M = y31_1 := my31_11
        obtain rfl : N = y31_1r := my31_12
        obtain rfl : y31_2 = y31_2r := ey31_2
        dsimp only at ly31_2
        have iy31_2 : TI y31_2 y31_2.toInt := rfl
        refine rl_bnd (b_totalAt t iy31_2 tn_m1 (by omega) (by omega) (by omega) (by omega) (by omega) hT) ?_
        rintro ⟨y32_1, y32_2⟩ ⟨y32_1r, y32_2r⟩ ⟨my32_11, my32_12, ey32_2⟩
        obtain rfl : M = y32_1 := my32_11
        obtain rfl : N = y32_1r := my32_12
        obtain rfl : y32_2 = y32_2r := ey32_2
        refine rl_bnd (b_pieceX t i1 (by omega) (by omega)) ?_
        rintro ⟨y33_1, y33_2⟩ ⟨y33_1r, y33_2r⟩ ⟨my33_11, my33_12, ey33_2, iy33_2⟩
        obtain rfl : M = y33_1 := my33_11
        obtain rfl : N = y33_1r := my33_12
        obtain rfl : y33_2 = y33_2r := ey33_2
        refine rl_bnd (b_pieceY t i1 (by omega) (by omega)) ?_
        rintro ⟨y34_1, y34_2⟩ ⟨y34_1r, y34_2r⟩ ⟨my34_11, my34_12, ey34_2, iy34_2⟩
        obtain rfl : M = y34_1 := my34_11
        obtain rfl : N = y34_1r := my34_12
        obtain rfl : y34_2 = y34_2r := ey34_2
        refine rl_ltI (av_sub iy34_2 tn_1 (by omega) (by omega)) (fun x35 ix35 => ?_)
        refine rl_bnd (b_pieceAt t i0 iy33_2 ix35 tn_16 (by omega) (by omega) (by omega) (by omega) (by omega) (by omega) (by omega) (by omega) hw hI) ?_
        rintro ⟨y36_1, y36_2⟩ ⟨y36_1r, y36_2r⟩ ⟨my36_11, my36_12, ey36_2, ly36_2⟩
        obtain rfl : M = y36_1 := my36_11
        obtain rfl : N = y36_1r := my36_12
        obtain rfl : y36_2 = y36_2r := ey36_2
        dsimp only at ly36_2
        have iy36_2 : TI y36_2 y36_2.toInt := rfl
        refine rl_bnd (b_totalAt t iy36_2 tn_m1 (by omega) (by omega) (by omega) (by omega) (by omega) hT) ?_
        rintro ⟨y37_1, y37_2⟩ ⟨y37_1r, y37_2r⟩ ⟨my37_11, my37_12, ey37_2⟩
        obtain rfl : M = y37_1 := my37_11
        obtain rfl : N = y37_1r := my37_12
        obtain rfl : y37_2 = y37_2r := ey37_2
        exact rl_some ⟨rfl, rfl, rfl, rfl⟩
    · rintro ⟨y1_1, y1_2_1, y1_2_2⟩ ⟨y1_1r, y1_2_1r, y1_2_2r⟩ ⟨ey1_1, ey1_2_1, my1_2_21, my1_2_22⟩
      obtain rfl : y1_1 = y1_1r := ey1_1
      obtain rfl : y1_2_1 = y1_2_1r := ey1_2_1
      obtain rfl : M = y1_2_2 := my1_2_21
      obtain rfl : N = y1_2_2r := my1_2_22
      refine rl_bnd (Q := fun (y z : Int32) => y = z) ?_ ?_
      · refine rl_if (fun c2 => ?_) (fun c2 => ?_)
        · have dc2 := tl_le tn_0 (rfl : TI y1_1 y1_1.toInt) c2
          refine rl_bnd (Q := fun (y z : Int32) => y = z) ?_ ?_
          · refine rl_if (fun c3 => ?_) (fun c3 => ?_)
            · have dc3 := tl_le tn_0 (rfl : TI y1_2_1 y1_2_1.toInt) c3
              refine rl_ltA (fun x12 => ?_)
              refine rl_ltA (fun x13 => ?_)
              refine rl_ltA (fun x14 => ?_)
              exact rl_some rfl
            · have dc3 := tl_nle tn_0 (rfl : TI y1_2_1 y1_2_1.toInt) c3
              exact rl_some rfl
          · rintro y10 y10r ey10
            obtain rfl : y10 = y10r := ey10
            exact rl_some rfl
        · have dc2 := tl_nle tn_0 (rfl : TI y1_1 y1_1.toInt) c2
          exact rl_some rfl
      · rintro y2 y2r ey2
        obtain rfl : y2 = y2r := ey2
        refine rl_bnd (Q := fun (y z : Int32) => y = z ∧ (0 ≤ y.toInt ∧ y.toInt ≤ 3)) ?_ ?_
        · refine rl_if (fun c4 => ?_) (fun c4 => ?_)
          · have dc4 := tl_le tn_2 (rfl : TI y2 y2.toInt) c4
            refine rl_bnd (Q := fun (y z : Int32) => y = z ∧ (1 ≤ y.toInt ∧ y.toInt ≤ 3)) ?_ ?_
            · refine rl_if (fun c5 => ?_) (fun c5 => ?_)
              · have dc5 := tl_le tn_4 (rfl : TI y2 y2.toInt) c5
                refine rl_bnd (Q := fun (y z : Int32) => y = z ∧ (2 ≤ y.toInt ∧ y.toInt ≤ 3)) ?_ ?_
                · refine rl_if (fun c6 => ?_) (fun c6 => ?_)
                  · have dc6 := tl_le tn_8 (rfl : TI y2 y2.toInt) c6
                    exact rl_some ⟨rfl, (ti_bd tn_3 (by omega) (by omega))⟩
                  · have dc6 := tl_nle tn_8 (rfl : TI y2 y2.toInt) c6
                    exact rl_some ⟨rfl, (ti_bd tn_2 (by omega) (by omega))⟩
                · rintro y7 y7r ⟨ey7, ly7⟩
                  obtain rfl : y7 = y7r := ey7
                  have ly7 : 2 ≤ y7.toInt ∧ y7.toInt ≤ 3 := ly7
                  have iy7 : TI y7 y7.toInt := rfl
                  exact rl_some ⟨rfl, (ti_bd iy7 (by omega) (by omega))⟩
              · have dc5 := tl_nle tn_4 (rfl : TI y2 y2.toInt) c5
                exact rl_some ⟨rfl, (ti_bd tn_1 (by omega) (by omega))⟩
            · rintro y5 y5r ⟨ey5, ly5⟩
              obtain rfl : y5 = y5r := ey5
              have ly5 : 1 ≤ y5.toInt ∧ y5.toInt ≤ 3 := ly5
              have iy5 : TI y5 y5.toInt := rfl
              exact rl_some ⟨rfl, (ti_bd iy5 (by omega) (by omega))⟩
          · have dc4 := tl_nle tn_2 (rfl : TI y2 y2.toInt) c4
            exact rl_some ⟨rfl, (ti_bd tn_0 (by omega) (by omega))⟩
        · rintro y3 y3r ⟨ey3, ly3⟩
          obtain rfl : y3 = y3r := ey3
          have ly3 : 0 ≤ y3.toInt ∧ y3.toInt ≤ 3 := ly3
          have iy3 : TI y3 y3.toInt := rfl
          exact rl_some ⟨rfl, rfl, rfl⟩
  · refine rl_bnd (Q := fun (y z : Int32 × Int32 × DD) => y.1 = z.1 ∧ y.2.1 = z.2.1 ∧ M = y.2.2 ∧ N = z.2.2) ?_ ?_
    · refine rl_if (fun c1 => ?_) (fun c1 => ?_)
      · have dc1 := tl_le tn_16 i1 c1
        exfalso
        omega
      · have dc1 := tl_nle tn_16 i1 c1
        refine rl_bnd (b_pieceX t i1 (by omega) (by omega)) ?_
        rintro ⟨y28_1, y28_2⟩ ⟨y28_1r, y28_2r⟩ ⟨my28_11, my28_12, ey28_2, iy28_2⟩
        obtain rfl : M = y28_1 := my28_11
        obtain rfl : N = y28_1r := my28_12
        obtain rfl : y28_2 = y28_2r := ey28_2
        refine rl_ltI (av_sub iy28_2 tn_1 (by omega) (by omega)) (fun x29 ix29 => ?_)
        refine rl_bnd (b_pieceY t i1 (by omega) (by omega)) ?_
        rintro ⟨y30_1, y30_2⟩ ⟨y30_1r, y30_2r⟩ ⟨my30_11, my30_12, ey30_2, iy30_2⟩
        obtain rfl : M = y30_1 := my30_11
        obtain rfl : N = y30_1r := my30_12
        obtain rfl : y30_2 = y30_2r := ey30_2
        refine rl_bnd (b_pieceAt t i0 ix29 iy30_2 tn_16 (by omega) (by omega) (by omega) (by omega) (by omega) (by omega) (by omega) (by omega) hw hI) ?_
        rintro ⟨y31_1, y31_2⟩ ⟨y31_1r, y31_2r⟩ ⟨my31_11, my31_12, ey31_2, ly31_2⟩
        obtain rfl : M = y31_1 := my31_11
        obtain rfl : N = y31_1r := my31_12
        obtain rfl : y31_2 = y31_2r := ey31_2
        dsimp only at ly31_2
        have iy31_2 : TI y31_2 y31_2.toInt := rfl
        refine rl_bnd (b_totalAt t iy31_2 tn_m1 (by omega) (by omega) (by omega) (by omega) (by omega) hT) ?_
        rintro ⟨y32_1, y32_2⟩ ⟨y32_1r, y32_2r⟩ ⟨my32_11, my32_12, ey32_2⟩
        obtain rfl : M = y32_1 := my32_11
        obtain rfl : N = y32_1r := my32_12
        obtain rfl : y32_2 = y32_2r := ey32_2
        refine rl_bnd (b_pieceX t i1 (by omega) (by omega)) ?_
        rintro ⟨y33_1, y33_2⟩ ⟨y33_1r, y33_2r⟩ ⟨my33_11, my33_12, ey33_2, iy33_2⟩
        obtain rfl : M = y33_1 := my33_11
        obtain rfl : N = y33_1r := my33_12
        obtain rfl : y33_2 = y33_2r := ey33_2
        refine rl_bnd (b_pieceY t i1 (by omega) (by omega)) ?_
        rintro ⟨y34_1, y34_2⟩ ⟨y34_1r, y34_2r⟩ ⟨my34_11, my34_12, ey34_2, iy34_2⟩
        obtain rfl : M = y34_1 := my34_11
        obtain rfl : N = y34_1r := my34_12
        obtain rfl : y34_2 = y34_2r := ey34_2
        refine rl_ltI (av_sub iy34_2 tn_1 (by omega) (by omega)) (fun x35 ix35 => ?_)
        refine rl_bnd (b_pieceAt t i0 iy33_2 ix35 tn_16 (by omega) (by omega) (by omega) (by omega) (by omega) (by omega) (by omega) (by omega) hw hI) ?_
        rintro ⟨y36_1, y36_2⟩ ⟨y36_1r, y36_2r⟩ ⟨my36_11, my36_12, ey36_2, ly36_2⟩
        obtain rfl : M = y36_1 := my36_11
        obtain rfl : N = y36_1r := my36_12
        obtain rfl : y36_2 = y36_2r := ey36_2
        dsimp only at ly36_2
        have iy36_2 : TI y36_2 y36_2.toInt := rfl
        refine rl_bnd (b_totalAt t iy36_2 tn_m1 (by omega) (by omega) (by omega) (by omega) (by omega) hT) ?_
        rintro ⟨y37_1, y37_2⟩ ⟨y37_1r, y37_2r⟩ ⟨my37_11, my37_12, ey37_2⟩
        obtain rfl : M = y37_1 := my37_11
        obtain rfl : N = y37_1r := my37_12
        obtain rfl : y37_2 = y37_2r := ey37_2
        exact rl_some ⟨rfl, rfl, rfl, rfl⟩
    · rintro ⟨y1_1, y1_2_1, y1_2_2⟩ ⟨y1_1r, y1_2_1r, y1_2_2r⟩ ⟨ey1_1, ey1_2_1, my1_2_21, my1_2_22⟩
      obtain rfl : y1_1 = y1_1r := ey1_1
      obtain rfl : y1_2_1 = y1_2_1r := ey1_2_1
      obtain rfl : M = y1_2_2 := my1_2_21
      obtain rfl : N = y1_2_2r := my1_2_22
      refine rl_bnd (Q := fun (y z : Int32) => y = z) ?_ ?_
      · refine rl_if (fun c2 => ?_) (fun c2 => ?_)
        · have dc2 := tl_le tn_0 (rfl : TI y1_1 y1_1.toInt) c2
          refine rl_bnd (Q := fun (y z : Int32) => y = z) ?_ ?_
          · refine rl_if (fun c3 => ?_) (fun c3 => ?_)
            · have dc3 := tl_le tn_0 (rfl : TI y1_2_1 y1_2_1.toInt) c3
              refine rl_ltA (fun x12 => ?_)
              refine rl_ltA (fun x13 => ?_)
              refine rl_ltA (fun x14 => ?_)
              exact rl_some rfl
            · have dc3 := tl_nle tn_0 (rfl : TI y1_2_1 y1_2_1.toInt) c3
              exact rl_some rfl
          · rintro y10 y10r ey10
            obtain rfl : y10 = y10r := ey10
            exact rl_some rfl
        · have dc2 := tl_nle tn_0 (rfl : TI y1_1 y1_1.toInt) c2
          exact rl_some rfl
      · rintro y2 y2r ey2
        obtain rfl : y2 = y2r := ey2
        refine rl_bnd (Q := fun (y z : Int32) => y = z ∧ (0 ≤ y.toInt ∧ y.toInt ≤ 3)) ?_ ?_
        · refine rl_if (fun c4 => ?_) (fun c4 => ?_)
          · have dc4 := tl_le tn_2 (rfl : TI y2 y2.toInt) c4
            refine rl_bnd (Q := fun (y z : Int32) => y = z ∧ (1 ≤ y.toInt ∧ y.toInt ≤ 3)) ?_ ?_
            · refine rl_if (fun c5 => ?_) (fun c5 => ?_)
              · have dc5 := tl_le tn_4 (rfl : TI y2 y2.toInt) c5
                refine rl_bnd (Q := fun (y z : Int32) => y = z ∧ (2 ≤ y.toInt ∧ y.toInt ≤ 3)) ?_ ?_
                · refine rl_if (fun c6 => ?_) (fun c6 => ?_)
                  · have dc6 := tl_le tn_8 (rfl : TI y2 y2.toInt) c6
                    exact rl_some ⟨rfl, (ti_bd tn_3 (by omega) (by omega))⟩
                  · have dc6 := tl_nle tn_8 (rfl : TI y2 y2.toInt) c6
                    exact rl_some ⟨rfl, (ti_bd tn_2 (by omega) (by omega))⟩
                · rintro y7 y7r ⟨ey7, ly7⟩
                  obtain rfl : y7 = y7r := ey7
                  have ly7 : 2 ≤ y7.toInt ∧ y7.toInt ≤ 3 := ly7
                  have iy7 : TI y7 y7.toInt := rfl
                  exact rl_some ⟨rfl, (ti_bd iy7 (by omega) (by omega))⟩
              · have dc5 := tl_nle tn_4 (rfl : TI y2 y2.toInt) c5
                exact rl_some ⟨rfl, (ti_bd tn_1 (by omega) (by omega))⟩
            · rintro y5 y5r ⟨ey5, ly5⟩
              obtain rfl : y5 = y5r := ey5
              have ly5 : 1 ≤ y5.toInt ∧ y5.toInt ≤ 3 := ly5
              have iy5 : TI y5 y5.toInt := rfl
              exact rl_some ⟨rfl, (ti_bd iy5 (by omega) (by omega))⟩
          · have dc4 := tl_nle tn_2 (rfl : TI y2 y2.toInt) c4
            exact rl_some ⟨rfl, (ti_bd tn_0 (by omega) (by omega))⟩
        · rintro y3 y3r ⟨ey3, ly3⟩
          obtain rfl : y3 = y3r := ey3
          have ly3 : 0 ≤ y3.toInt ∧ y3.toInt ≤ 3 := ly3
          have iy3 : TI y3 y3.toInt := rfl
          exact rl_some ⟨rfl, rfl, rfl⟩
  · refine rl_bnd (Q := fun (y z : Int32 × Int32 × DD) => y.1 = z.1 ∧ y.2.1 = z.2.1 ∧ M = y.2.2 ∧ N = z.2.2) ?_ ?_
    · refine rl_if (fun c1 => ?_) (fun c1 => ?_)
      · have dc1 := tl_le tn_16 i1 c1
        exfalso
        omega
      · have dc1 := tl_nle tn_16 i1 c1
        refine rl_bnd (b_pieceX t i1 (by omega) (by omega)) ?_
        rintro ⟨y28_1, y28_2⟩ ⟨y28_1r, y28_2r⟩ ⟨my28_11, my28_12, ey28_2, iy28_2⟩
        obtain rfl : M = y28_1 := my28_11
        obtain rfl : N = y28_1r := my28_12
        obtain rfl : y28_2 = y28_2r := ey28_2
        refine rl_ltI (av_sub iy28_2 tn_1 (by omega) (by omega)) (fun x29 ix29 => ?_)
        refine rl_bnd (b_pieceY t i1 (by omega) (by omega)) ?_
        rintro ⟨y30_1, y30_2⟩ ⟨y30_1r, y30_2r⟩ ⟨my30_11, my30_12, ey30_2, iy30_2⟩
        obtain rfl : M = y30_1 := my30_11
        obtain rfl : N = y30_1r := my30_12
        obtain rfl : y30_2 = y30_2r := ey30_2
        refine rl_bnd (b_pieceAt t i0 ix29 iy30_2 tn_16 (by omega) (by omega) (by omega) (by omega) (by omega) (by omega) (by omega) (by omega) hw hI) ?_
        rintro ⟨y31_1, y31_2⟩ ⟨y31_1r, y31_2r⟩ ⟨my31_11, my31_12, ey31_2, ly31_2⟩
        obtain rfl : M = y31_1 := my31_11
        obtain rfl : N = y31_1r := my31_12
        obtain rfl : y31_2 = y31_2r := ey31_2
        dsimp only at ly31_2
        have iy31_2 : TI y31_2 y31_2.toInt := rfl
        refine rl_bnd (b_totalAt t iy31_2 tn_m1 (by omega) (by omega) (by omega) (by omega) (by omega) hT) ?_
        rintro ⟨y32_1, y32_2⟩ ⟨y32_1r, y32_2r⟩ ⟨my32_11, my32_12, ey32_2⟩
        obtain rfl : M = y32_1 := my32_11
        obtain rfl : N = y32_1r := my32_12
        obtain rfl : y32_2 = y32_2r := ey32_2
        refine rl_bnd (b_pieceX t i1 (by omega) (by omega)) ?_
        rintro ⟨y33_1, y33_2⟩ ⟨y33_1r, y33_2r⟩ ⟨my33_11, my33_12, ey33_2, iy33_2⟩
        obtain rfl : M = y33_1 := my33_11
        obtain rfl : N = y33_1r := my33_12
        obtain rfl : y33_2 = y33_2r := ey33_2
        refine rl_bnd (b_pieceY t i1 (by omega) (by omega)) ?_
        rintro ⟨y34_1, y34_2⟩ ⟨y34_1r, y34_2r⟩ ⟨my34_11, my34_12, ey34_2, iy34_2⟩
        obtain rfl : M = y34_1 := my34_11
        obtain rfl : N = y34_1r := my34_12
        obtain rfl : y34_2 = y34_2r := ey34_2
        refine rl_ltI (av_sub iy34_2 tn_1 (by omega) (by omega)) (fun x35 ix35 => ?_)
        refine rl_bnd (b_pieceAt t i0 iy33_2 ix35 tn_16 (by omega) (by omega) (by omega) (by omega) (by omega) (by omega) (by omega) (by omega) hw hI) ?_
        rintro ⟨y36_1, y36_2⟩ ⟨y36_1r, y36_2r⟩ ⟨my36_11, my36_12, ey36_2, ly36_2⟩
        obtain rfl : M = y36_1 := my36_11
        obtain rfl : N = y36_1r := my36_12
        obtain rfl : y36_2 = y36_2r := ey36_2
        dsimp only at ly36_2
        have iy36_2 : TI y36_2 y36_2.toInt := rfl
        refine rl_bnd (b_totalAt t iy36_2 tn_m1 (by omega) (by omega) (by omega) (by omega) (by omega) hT) ?_
        rintro ⟨y37_1, y37_2⟩ ⟨y37_1r, y37_2r⟩ ⟨my37_11, my37_12, ey37_2⟩
        obtain rfl : M = y37_1 := my37_11
        obtain rfl : N = y37_1r := my37_12
        obtain rfl : y37_2 = y37_2r := ey37_2
        exact rl_some ⟨rfl, rfl, rfl, rfl⟩
    · rintro ⟨y1_1, y1_2_1, y1_2_2⟩ ⟨y1_1r, y1_2_1r, y1_2_2r⟩ ⟨ey1_1, ey1_2_1, my1_2_21, my1_2_22⟩
      obtain rfl : y1_1 = y1_1r := ey1_1
      obtain rfl : y1_2_1 = y1_2_1r := ey1_2_1
      obtain rfl : M = y1_2_2 := my1_2_21
      obtain rfl : N = y1_2_2r := my1_2_22
      refine rl_bnd (Q := fun (y z : Int32) => y = z) ?_ ?_
      · refine rl_if (fun c2 => ?_) (fun c2 => ?_)
        · have dc2 := tl_le tn_0 (rfl : TI y1_1 y1_1.toInt) c2
          refine rl_bnd (Q := fun (y z : Int32) => y = z) ?_ ?_
          · refine rl_if (fun c3 => ?_) (fun c3 => ?_)
            · have dc3 := tl_le tn_0 (rfl : TI y1_2_1 y1_2_1.toInt) c3
              refine rl_ltA (fun x12 => ?_)
              refine rl_ltA (fun x13 => ?_)
              refine rl_ltA (fun x14 => ?_)
              exact rl_some rfl
            · have dc3 := tl_nle tn_0 (rfl : TI y1_2_1 y1_2_1.toInt) c3
              exact rl_some rfl
          · rintro y10 y10r ey10
            obtain rfl : y10 = y10r := ey10
            exact rl_some rfl
        · have dc2 := tl_nle tn_0 (rfl : TI y1_1 y1_1.toInt) c2
          exact rl_some rfl
      · rintro y2 y2r ey2
        obtain rfl : y2 = y2r := ey2
        refine rl_bnd (Q := fun (y z : Int32) => y = z ∧ (0 ≤ y.toInt ∧ y.toInt ≤ 3)) ?_ ?_
        · refine rl_if (fun c4 => ?_) (fun c4 => ?_)
          · have dc4 := tl_le tn_2 (rfl : TI y2 y2.toInt) c4
            refine rl_bnd (Q := fun (y z : Int32) => y = z ∧ (1 ≤ y.toInt ∧ y.toInt ≤ 3)) ?_ ?_
            · refine rl_if (fun c5 => ?_) (fun c5 => ?_)
              · have dc5 := tl_le tn_4 (rfl : TI y2 y2.toInt) c5
                refine rl_bnd (Q := fun (y z : Int32) => y = z ∧ (2 ≤ y.toInt ∧ y.toInt ≤ 3)) ?_ ?_
                · refine rl_if (fun c6 => ?_) (fun c6 => ?_)
                  · have dc6 := tl_le tn_8 (rfl : TI y2 y2.toInt) c6
                    exact rl_some ⟨rfl, (ti_bd tn_3 (by omega) (by omega))⟩
                  · have dc6 := tl_nle tn_8 (rfl : TI y2 y2.toInt) c6
                    exact rl_some ⟨rfl, (ti_bd tn_2 (by omega) (by omega))⟩
                · rintro y7 y7r ⟨ey7, ly7⟩
                  obtain rfl : y7 = y7r := ey7
                  have ly7 : 2 ≤ y7.toInt ∧ y7.toInt ≤ 3 := ly7
                  have iy7 : TI y7 y7.toInt := rfl
                  exact rl_some ⟨rfl, (ti_bd iy7 (by omega) (by omega))⟩
              · have dc5 := tl_nle tn_4 (rfl : TI y2 y2.toInt) c5
                exact rl_some ⟨rfl, (ti_bd tn_1 (by omega) (by omega))⟩
            · rintro y5 y5r ⟨ey5, ly5⟩
              obtain rfl : y5 = y5r := ey5
              have ly5 : 1 ≤ y5.toInt ∧ y5.toInt ≤ 3 := ly5
              have iy5 : TI y5 y5.toInt := rfl
              exact rl_some ⟨rfl, (ti_bd iy5 (by omega) (by omega))⟩
          · have dc4 := tl_nle tn_2 (rfl : TI y2 y2.toInt) c4
            exact rl_some ⟨rfl, (ti_bd tn_0 (by omega) (by omega))⟩
        · rintro y3 y3r ⟨ey3, ly3⟩
          obtain rfl : y3 = y3r := ey3
          have ly3 : 0 ≤ y3.toInt ∧ y3.toInt ≤ 3 := ly3
          have iy3 : TI y3 y3.toInt := rfl
          exact rl_some ⟨rfl, rfl, rfl⟩
  · refine rl_bnd (Q := fun (y z : Int32 × Int32 × DD) => y.1 = z.1 ∧ y.2.1 = z.2.1 ∧ M = y.2.2 ∧ N = z.2.2) ?_ ?_
    · refine rl_if (fun c1 => ?_) (fun c1 => ?_)
      · have dc1 := tl_le tn_16 i1 c1
        exfalso
        omega
      · have dc1 := tl_nle tn_16 i1 c1
        refine rl_bnd (b_pieceX t i1 (by omega) (by omega)) ?_
        rintro ⟨y28_1, y28_2⟩ ⟨y28_1r, y28_2r⟩ ⟨my28_11, my28_12, ey28_2, iy28_2⟩
        obtain rfl : M = y28_1 := my28_11
        obtain rfl : N = y28_1r := my28_12
        obtain rfl : y28_2 = y28_2r := ey28_2
        refine rl_ltI (av_sub iy28_2 tn_1 (by omega) (by omega)) (fun x29 ix29 => ?_)
        refine rl_bnd (b_pieceY t i1 (by omega) (by omega)) ?_
        rintro ⟨y30_1, y30_2⟩ ⟨y30_1r, y30_2r⟩ ⟨my30_11, my30_12, ey30_2, iy30_2⟩
        obtain rfl : M = y30_1 := my30_11
        obtain rfl : N = y30_1r := my30_12
        obtain rfl : y30_2 = y30_2r := ey30_2
        refine rl_bnd (b_pieceAt t i0 ix29 iy30_2 tn_16 (by omega) (by omega) (by omega) (by omega) (by omega) (by omega) (by omega) (by omega) hw hI) ?_
        rintro ⟨y31_1, y31_2⟩ ⟨y31_1r, y31_2r⟩ ⟨my31_11, my31_12, ey31_2, ly31_2⟩
        obtain rfl : M = y31_1 := my31_11
        obtain rfl : N = y31_1r := my31_12
        obtain rfl : y31_2 = y31_2r := ey31_2
        dsimp only at ly31_2
        have iy31_2 : TI y31_2 y31_2.toInt := rfl
        refine rl_bnd (b_totalAt t iy31_2 tn_m1 (by omega) (by omega) (by omega) (by omega) (by omega) hT) ?_
        rintro ⟨y32_1, y32_2⟩ ⟨y32_1r, y32_2r⟩ ⟨my32_11, my32_12, ey32_2⟩
        obtain rfl : M = y32_1 := my32_11
        obtain rfl : N = y32_1r := my32_12
        obtain rfl : y32_2 = y32_2r := ey32_2
        refine rl_bnd (b_pieceX t i1 (by omega) (by omega)) ?_
        rintro ⟨y33_1, y33_2⟩ ⟨y33_1r, y33_2r⟩ ⟨my33_11, my33_12, ey33_2, iy33_2⟩
        obtain rfl : M = y33_1 := my33_11
        obtain rfl : N = y33_1r := my33_12
        obtain rfl : y33_2 = y33_2r := ey33_2
        refine rl_bnd (b_pieceY t i1 (by omega) (by omega)) ?_
        rintro ⟨y34_1, y34_2⟩ ⟨y34_1r, y34_2r⟩ ⟨my34_11, my34_12, ey34_2, iy34_2⟩
        obtain rfl : M = y34_1 := my34_11
        obtain rfl : N = y34_1r := my34_12
        obtain rfl : y34_2 = y34_2r := ey34_2
        refine rl_ltI (av_sub iy34_2 tn_1 (by omega) (by omega)) (fun x35 ix35 => ?_)
        refine rl_bnd (b_pieceAt t i0 iy33_2 ix35 tn_16 (by omega) (by omega) (by omega) (by omega) (by omega) (by omega) (by omega) (by omega) hw hI) ?_
        rintro ⟨y36_1, y36_2⟩ ⟨y36_1r, y36_2r⟩ ⟨my36_11, my36_12, ey36_2, ly36_2⟩
        obtain rfl : M = y36_1 := my36_11
        obtain rfl : N = y36_1r := my36_12
        obtain rfl : y36_2 = y36_2r := ey36_2
        dsimp only at ly36_2
        have iy36_2 : TI y36_2 y36_2.toInt := rfl
        refine rl_bnd (b_totalAt t iy36_2 tn_m1 (by omega) (by omega) (by omega) (by omega) (by omega) hT) ?_
        rintro ⟨y37_1, y37_2⟩ ⟨y37_1r, y37_2r⟩ ⟨my37_11, my37_12, ey37_2⟩
        obtain rfl : M = y37_1 := my37_11
        obtain rfl : N = y37_1r := my37_12
        obtain rfl : y37_2 = y37_2r := ey37_2
        exact rl_some ⟨rfl, rfl, rfl, rfl⟩
    · rintro ⟨y1_1, y1_2_1, y1_2_2⟩ ⟨y1_1r, y1_2_1r, y1_2_2r⟩ ⟨ey1_1, ey1_2_1, my1_2_21, my1_2_22⟩
      obtain rfl : y1_1 = y1_1r := ey1_1
      obtain rfl : y1_2_1 = y1_2_1r := ey1_2_1
      obtain rfl : M = y1_2_2 := my1_2_21
      obtain rfl : N = y1_2_2r := my1_2_22
      refine rl_bnd (Q := fun (y z : Int32) => y = z) ?_ ?_
      · refine rl_if (fun c2 => ?_) (fun c2 => ?_)
        · have dc2 := tl_le tn_0 (rfl : TI y1_1 y1_1.toInt) c2
          refine rl_bnd (Q := fun (y z : Int32) => y = z) ?_ ?_
          · refine rl_if (fun c3 => ?_) (fun c3 => ?_)
            · have dc3 := tl_le tn_0 (rfl : TI y1_2_1 y1_2_1.toInt) c3
              refine rl_ltA (fun x12 => ?_)
              refine rl_ltA (fun x13 => ?_)
              refine rl_ltA (fun x14 => ?_)
              exact rl_some rfl
            · have dc3 := tl_nle tn_0 (rfl : TI y1_2_1 y1_2_1.toInt) c3
              exact rl_some rfl
          · rintro y10 y10r ey10
            obtain rfl : y10 = y10r := ey10
            exact rl_some rfl
        · have dc2 := tl_nle tn_0 (rfl : TI y1_1 y1_1.toInt) c2
          exact rl_some rfl
      · rintro y2 y2r ey2
        obtain rfl : y2 = y2r := ey2
        refine rl_bnd (Q := fun (y z : Int32) => y = z ∧ (0 ≤ y.toInt ∧ y.toInt ≤ 3)) ?_ ?_
        · refine rl_if (fun c4 => ?_) (fun c4 => ?_)
          · have dc4 := tl_le tn_2 (rfl : TI y2 y2.toInt) c4
            refine rl_bnd (Q := fun (y z : Int32) => y = z ∧ (1 ≤ y.toInt ∧ y.toInt ≤ 3)) ?_ ?_
            · refine rl_if (fun c5 => ?_) (fun c5 => ?_)
              · have dc5 := tl_le tn_4 (rfl : TI y2 y2.toInt) c5
                refine rl_bnd (Q := fun (y z : Int32) => y = z ∧ (2 ≤ y.toInt ∧ y.toInt ≤ 3)) ?_ ?_
                · refine rl_if (fun c6 => ?_) (fun c6 => ?_)
                  · have dc6 := tl_le tn_8 (rfl : TI y2 y2.toInt) c6
                    exact rl_some ⟨rfl, (ti_bd tn_3 (by omega) (by omega))⟩
                  · have dc6 := tl_nle tn_8 (rfl : TI y2 y2.toInt) c6
                    exact rl_some ⟨rfl, (ti_bd tn_2 (by omega) (by omega))⟩
                · rintro y7 y7r ⟨ey7, ly7⟩
                  obtain rfl : y7 = y7r := ey7
                  have ly7 : 2 ≤ y7.toInt ∧ y7.toInt ≤ 3 := ly7
                  have iy7 : TI y7 y7.toInt := rfl
                  exact rl_some ⟨rfl, (ti_bd iy7 (by omega) (by omega))⟩
              · have dc5 := tl_nle tn_4 (rfl : TI y2 y2.toInt) c5
                exact rl_some ⟨rfl, (ti_bd tn_1 (by omega) (by omega))⟩
            · rintro y5 y5r ⟨ey5, ly5⟩
              obtain rfl : y5 = y5r := ey5
              have ly5 : 1 ≤ y5.toInt ∧ y5.toInt ≤ 3 := ly5
              have iy5 : TI y5 y5.toInt := rfl
              exact rl_some ⟨rfl, (ti_bd iy5 (by omega) (by omega))⟩
          · have dc4 := tl_nle tn_2 (rfl : TI y2 y2.toInt) c4
            exact rl_some ⟨rfl, (ti_bd tn_0 (by omega) (by omega))⟩
        · rintro y3 y3r ⟨ey3, ly3⟩
          obtain rfl : y3 = y3r := ey3
          have ly3 : 0 ≤ y3.toInt ∧ y3.toInt ≤ 3 := ly3
          have iy3 : TI y3 y3.toInt := rfl
          exact rl_some ⟨rfl, rfl, rfl⟩
  · refine rl_bnd (Q := fun (y z : Int32 × Int32 × DD) => y.1 = z.1 ∧ y.2.1 = z.2.1 ∧ M = y.2.2 ∧ N = z.2.2) ?_ ?_
    · refine rl_if (fun c1 => ?_) (fun c1 => ?_)
      · have dc1 := tl_le tn_16 i1 c1
        exfalso
        omega
      · have dc1 := tl_nle tn_16 i1 c1
        refine rl_bnd (b_pieceX t i1 (by omega) (by omega)) ?_
        rintro ⟨y28_1, y28_2⟩ ⟨y28_1r, y28_2r⟩ ⟨my28_11, my28_12, ey28_2, iy28_2⟩
        obtain rfl : M = y28_1 := my28_11
        obtain rfl : N = y28_1r := my28_12
        obtain rfl : y28_2 = y28_2r := ey28_2
        refine rl_ltI (av_sub iy28_2 tn_1 (by omega) (by omega)) (fun x29 ix29 => ?_)
        refine rl_bnd (b_pieceY t i1 (by omega) (by omega)) ?_
        rintro ⟨y30_1, y30_2⟩ ⟨y30_1r, y30_2r⟩ ⟨my30_11, my30_12, ey30_2, iy30_2⟩
        obtain rfl : M = y30_1 := my30_11
        obtain rfl : N = y30_1r := my30_12
        obtain rfl : y30_2 = y30_2r := ey30_2
        refine rl_bnd (b_pieceAt t i0 ix29 iy30_2 tn_16 (by omega) (by omega) (by omega) (by omega) (by omega) (by omega) (by omega) (by omega) hw hI) ?_
        rintro ⟨y31_1, y31_2⟩ ⟨y31_1r, y31_2r⟩ ⟨my31_11, my31_12, ey31_2, ly31_2⟩
        obtain rfl : M = y31_1 := my31_11
        obtain rfl : N = y31_1r := my31_12
        obtain rfl : y31_2 = y31_2r := ey31_2
        dsimp only at ly31_2
        have iy31_2 : TI y31_2 y31_2.toInt := rfl
        refine rl_bnd (b_totalAt t iy31_2 tn_m1 (by omega) (by omega) (by omega) (by omega) (by omega) hT) ?_
        rintro ⟨y32_1, y32_2⟩ ⟨y32_1r, y32_2r⟩ ⟨my32_11, my32_12, ey32_2⟩
        obtain rfl : M = y32_1 := my32_11
        obtain rfl : N = y32_1r := my32_12
        obtain rfl : y32_2 = y32_2r := ey32_2
        refine rl_bnd (b_pieceX t i1 (by omega) (by omega)) ?_
        rintro ⟨y33_1, y33_2⟩ ⟨y33_1r, y33_2r⟩ ⟨my33_11, my33_12, ey33_2, iy33_2⟩
        obtain rfl : M = y33_1 := my33_11
        obtain rfl : N = y33_1r := my33_12
        obtain rfl : y33_2 = y33_2r := ey33_2
        refine rl_bnd (b_pieceY t i1 (by omega) (by omega)) ?_
        rintro ⟨y34_1, y34_2⟩ ⟨y34_1r, y34_2r⟩ ⟨my34_11, my34_12, ey34_2, iy34_2⟩
        obtain rfl : M = y34_1 := my34_11
        obtain rfl : N = y34_1r := my34_12
        obtain rfl : y34_2 = y34_2r := ey34_2
        refine rl_ltI (av_sub iy34_2 tn_1 (by omega) (by omega)) (fun x35 ix35 => ?_)
        refine rl_bnd (b_pieceAt t i0 iy33_2 ix35 tn_16 (by omega) (by omega) (by omega) (by omega) (by omega) (by omega) (by omega) (by omega) hw hI) ?_
        rintro ⟨y36_1, y36_2⟩ ⟨y36_1r, y36_2r⟩ ⟨my36_11, my36_12, ey36_2, ly36_2⟩
        obtain rfl : M = y36_1 := my36_11
        obtain rfl : N = y36_1r := my36_12
        obtain rfl : y36_2 = y36_2r := ey36_2
        dsimp only at ly36_2
        have iy36_2 : TI y36_2 y36_2.toInt := rfl
        refine rl_bnd (b_totalAt t iy36_2 tn_m1 (by omega) (by omega) (by omega) (by omega) (by omega) hT) ?_
        rintro ⟨y37_1, y37_2⟩ ⟨y37_1r, y37_2r⟩ ⟨my37_11, my37_12, ey37_2⟩
        obtain rfl : M = y37_1 := my37_11
        obtain rfl : N = y37_1r := my37_12
        obtain rfl : y37_2 = y37_2r := ey37_2
        exact rl_some ⟨rfl, rfl, rfl, rfl⟩
    · rintro ⟨y1_1, y1_2_1, y1_2_2⟩ ⟨y1_1r, y1_2_1r, y1_2_2r⟩ ⟨ey1_1, ey1_2_1, my1_2_21, my1_2_22⟩
      obtain rfl : y1_1 = y1_1r := ey1_1
      obtain rfl : y1_2_1 = y1_2_1r := ey1_2_1
      obtain rfl : M = y1_2_2 := my1_2_21
      obtain rfl : N = y1_2_2r := my1_2_22
      refine rl_bnd (Q := fun (y z : Int32) => y = z) ?_ ?_
      · refine rl_if (fun c2 => ?_) (fun c2 => ?_)
        · have dc2 := tl_le tn_0 (rfl : TI y1_1 y1_1.toInt) c2
          refine rl_bnd (Q := fun (y z : Int32) => y = z) ?_ ?_
          · refine rl_if (fun c3 => ?_) (fun c3 => ?_)
            · have dc3 := tl_le tn_0 (rfl : TI y1_2_1 y1_2_1.toInt) c3
              refine rl_ltA (fun x12 => ?_)
              refine rl_ltA (fun x13 => ?_)
              refine rl_ltA (fun x14 => ?_)
              exact rl_some rfl
            · have dc3 := tl_nle tn_0 (rfl : TI y1_2_1 y1_2_1.toInt) c3
              exact rl_some rfl
          · rintro y10 y10r ey10
            obtain rfl : y10 = y10r := ey10
            exact rl_some rfl
        · have dc2 := tl_nle tn_0 (rfl : TI y1_1 y1_1.toInt) c2
          exact rl_some rfl
      · rintro y2 y2r ey2
        obtain rfl : y2 = y2r := ey2
        refine rl_bnd (Q := fun (y z : Int32) => y = z ∧ (0 ≤ y.toInt ∧ y.toInt ≤ 3)) ?_ ?_
        · refine rl_if (fun c4 => ?_) (fun c4 => ?_)
          · have dc4 := tl_le tn_2 (rfl : TI y2 y2.toInt) c4
            refine rl_bnd (Q := fun (y z : Int32) => y = z ∧ (1 ≤ y.toInt ∧ y.toInt ≤ 3)) ?_ ?_
            · refine rl_if (fun c5 => ?_) (fun c5 => ?_)
              · have dc5 := tl_le tn_4 (rfl : TI y2 y2.toInt) c5
                refine rl_bnd (Q := fun (y z : Int32) => y = z ∧ (2 ≤ y.toInt ∧ y.toInt ≤ 3)) ?_ ?_
                · refine rl_if (fun c6 => ?_) (fun c6 => ?_)
                  · have dc6 := tl_le tn_8 (rfl : TI y2 y2.toInt) c6
                    exact rl_some ⟨rfl, (ti_bd tn_3 (by omega) (by omega))⟩
                  · have dc6 := tl_nle tn_8 (rfl : TI y2 y2.toInt) c6
                    exact rl_some ⟨rfl, (ti_bd tn_2 (by omega) (by omega))⟩
                · rintro y7 y7r ⟨ey7, ly7⟩
                  obtain rfl : y7 = y7r := ey7
                  have ly7 : 2 ≤ y7.toInt ∧ y7.toInt ≤ 3 := ly7
                  have iy7 : TI y7 y7.toInt := rfl
                  exact rl_some ⟨rfl, (ti_bd iy7 (by omega) (by omega))⟩
              · have dc5 := tl_nle tn_4 (rfl : TI y2 y2.toInt) c5
                exact rl_some ⟨rfl, (ti_bd tn_1 (by omega) (by omega))⟩
            · rintro y5 y5r ⟨ey5, ly5⟩
              obtain rfl : y5 = y5r := ey5
              have ly5 : 1 ≤ y5.toInt ∧ y5.toInt ≤ 3 := ly5
              have iy5 : TI y5 y5.toInt := rfl
              exact rl_some ⟨rfl, (ti_bd iy5 (by omega) (by omega))⟩
          · have dc4 := tl_nle tn_2 (rfl : TI y2 y2.toInt) c4
            exact rl_some ⟨rfl, (ti_bd tn_0 (by omega) (by omega))⟩
        · rintro y3 y3r ⟨ey3, ly3⟩
          obtain rfl : y3 = y3r := ey3
          have ly3 : 0 ≤ y3.toInt ∧ y3.toInt ≤ 3 := ly3
          have iy3 : TI y3 y3.toInt := rfl
          exact rl_some ⟨rfl, rfl, rfl⟩
  · refine rl_bnd (Q := fun (y z : Int32 × Int32 × DD) => y.1 = z.1 ∧ y.2.1 = z.2.1 ∧ M = y.2.2 ∧ N = z.2.2) ?_ ?_
    · refine rl_if (fun c1 => ?_) (fun c1 => ?_)
      · have dc1 := tl_le tn_16 i1 c1
        exfalso
        omega
      · have dc1 := tl_nle tn_16 i1 c1
        refine rl_bnd (b_pieceX t i1 (by omega) (by omega)) ?_
        rintro ⟨y28_1, y28_2⟩ ⟨y28_1r, y28_2r⟩ ⟨my28_11, my28_12, ey28_2, iy28_2⟩
        obtain rfl : M = y28_1 := my28_11
        obtain rfl : N = y28_1r := my28_12
        obtain rfl : y28_2 = y28_2r := ey28_2
        refine rl_ltI (av_sub iy28_2 tn_1 (by omega) (by omega)) (fun x29 ix29 => ?_)
        refine rl_bnd (b_pieceY t i1 (by omega) (by omega)) ?_
        rintro ⟨y30_1, y30_2⟩ ⟨y30_1r, y30_2r⟩ ⟨my30_11, my30_12, ey30_2, iy30_2⟩
        obtain rfl : M = y30_1 := my30_11
        obtain rfl : N = y30_1r := my30_12
        obtain rfl : y30_2 = y30_2r := ey30_2
        refine rl_bnd (b_pieceAt t i0 ix29 iy30_2 tn_16 (by omega) (by omega) (by omega) (by omega) (by omega) (by omega) (by omega) (by omega) hw hI) ?_
        rintro ⟨y31_1, y31_2⟩ ⟨y31_1r, y31_2r⟩ ⟨my31_11, my31_12, ey31_2, ly31_2⟩
        obtain rfl : M = y31_1 := my31_11
        obtain rfl : N = y31_1r := my31_12
        obtain rfl : y31_2 = y31_2r := ey31_2
        dsimp only at ly31_2
        have iy31_2 : TI y31_2 y31_2.toInt := rfl
        refine rl_bnd (b_totalAt t iy31_2 tn_m1 (by omega) (by omega) (by omega) (by omega) (by omega) hT) ?_
        rintro ⟨y32_1, y32_2⟩ ⟨y32_1r, y32_2r⟩ ⟨my32_11, my32_12, ey32_2⟩
        obtain rfl : M = y32_1 := my32_11
        obtain rfl : N = y32_1r := my32_12
        obtain rfl : y32_2 = y32_2r := ey32_2
        refine rl_bnd (b_pieceX t i1 (by omega) (by omega)) ?_
        rintro ⟨y33_1, y33_2⟩ ⟨y33_1r, y33_2r⟩ ⟨my33_11, my33_12, ey33_2, iy33_2⟩
        obtain rfl : M = y33_1 := my33_11
        obtain rfl : N = y33_1r := my33_12
        obtain rfl : y33_2 = y33_2r := ey33_2
        refine rl_bnd (b_pieceY t i1 (by omega) (by omega)) ?_
        rintro ⟨y34_1, y34_2⟩ ⟨y34_1r, y34_2r⟩ ⟨my34_11, my34_12, ey34_2, iy34_2⟩
        obtain rfl : M = y34_1 := my34_11
        obtain rfl : N = y34_1r := my34_12
        obtain rfl : y34_2 = y34_2r := ey34_2
        refine rl_ltI (av_sub iy34_2 tn_1 (by omega) (by omega)) (fun x35 ix35 => ?_)
        refine rl_bnd (b_pieceAt t i0 iy33_2 ix35 tn_16 (by omega) (by omega) (by omega) (by omega) (by omega) (by omega) (by omega) (by omega) hw hI) ?_
        rintro ⟨y36_1, y36_2⟩ ⟨y36_1r, y36_2r⟩ ⟨my36_11, my36_12, ey36_2, ly36_2⟩
        obtain rfl : M = y36_1 := my36_11
        obtain rfl : N = y36_1r := my36_12
        obtain rfl : y36_2 = y36_2r := ey36_2
        dsimp only at ly36_2
        have iy36_2 : TI y36_2 y36_2.toInt := rfl
        refine rl_bnd (b_totalAt t iy36_2 tn_m1 (by omega) (by omega) (by omega) (by omega) (by omega) hT) ?_
        rintro ⟨y37_1, y37_2⟩ ⟨y37_1r, y37_2r⟩ ⟨my37_11, my37_12, ey37_2⟩
        obtain rfl : M = y37_1 := my37_11
        obtain rfl : N = y37_1r := my37_12
        obtain rfl : y37_2 = y37_2r := ey37_2
        exact rl_some ⟨rfl, rfl, rfl, rfl⟩
    · rintro ⟨y1_1, y1_2_1, y1_2_2⟩ ⟨y1_1r, y1_2_1r, y1_2_2r⟩ ⟨ey1_1, ey1_2_1, my1_2_21, my1_2_22⟩
      obtain rfl : y1_1 = y1_1r := ey1_1
      obtain rfl : y1_2_1 = y1_2_1r := ey1_2_1
      obtain rfl : M = y1_2_2 := my1_2_21
      obtain rfl : N = y1_2_2r := my1_2_22
      refine rl_bnd (Q := fun (y z : Int32) => y = z) ?_ ?_
      · refine rl_if (fun c2 => ?_) (fun c2 => ?_)
        · have dc2 := tl_le tn_0 (rfl : TI y1_1 y1_1.toInt) c2
          refine rl_bnd (Q := fun (y z : Int32) => y = z) ?_ ?_
          · refine rl_if (fun c3 => ?_) (fun c3 => ?_)
            · have dc3 := tl_le tn_0 (rfl : TI y1_2_1 y1_2_1.toInt) c3
              refine rl_ltA (fun x12 => ?_)
              refine rl_ltA (fun x13 => ?_)
              refine rl_ltA (fun x14 => ?_)
              exact rl_some rfl
            · have dc3 := tl_nle tn_0 (rfl : TI y1_2_1 y1_2_1.toInt) c3
              exact rl_some rfl
          · rintro y10 y10r ey10
            obtain rfl : y10 = y10r := ey10
            exact rl_some rfl
        · have dc2 := tl_nle tn_0 (rfl : TI y1_1 y1_1.toInt) c2
          exact rl_some rfl
      · rintro y2 y2r ey2
        obtain rfl : y2 = y2r := ey2
        refine rl_bnd (Q := fun (y z : Int32) => y = z ∧ (0 ≤ y.toInt ∧ y.toInt ≤ 3)) ?_ ?_
        · refine rl_if (fun c4 => ?_) (fun c4 => ?_)
          · have dc4 := tl_le tn_2 (rfl : TI y2 y2.toInt) c4
            refine rl_bnd (Q := fun (y z : Int32) => y = z ∧ (1 ≤ y.toInt ∧ y.toInt ≤ 3)) ?_ ?_
            · refine rl_if (fun c5 => ?_) (fun c5 => ?_)
              · have dc5 := tl_le tn_4 (rfl : TI y2 y2.toInt) c5
                refine rl_bnd (Q := fun (y z : Int32) => y = z ∧ (2 ≤ y.toInt ∧ y.toInt ≤ 3)) ?_ ?_
                · refine rl_if (fun c6 => ?_) (fun c6 => ?_)
                  · have dc6 := tl_le tn_8 (rfl : TI y2 y2.toInt) c6
                    exact rl_some ⟨rfl, (ti_bd tn_3 (by omega) (by omega))⟩
                  · have dc6 := tl_nle tn_8 (rfl : TI y2 y2.toInt) c6
                    exact rl_some ⟨rfl, (ti_bd tn_2 (by omega) (by omega))⟩
                · rintro y7 y7r ⟨ey7, ly7⟩
                  obtain rfl : y7 = y7r := ey7
                  have ly7 : 2 ≤ y7.toInt ∧ y7.toInt ≤ 3 := ly7
                  have iy7 : TI y7 y7.toInt := rfl
                  exact rl_some ⟨rfl, (ti_bd iy7 (by omega) (by omega))⟩
              · have dc5 := tl_nle tn_4 (rfl : TI y2 y2.toInt) c5
                exact rl_some ⟨rfl, (ti_bd tn_1 (by omega) (by omega))⟩
            · rintro y5 y5r ⟨ey5, ly5⟩
              obtain rfl : y5 = y5r := ey5
              have ly5 : 1 ≤ y5.toInt ∧ y5.toInt ≤ 3 := ly5
              have iy5 : TI y5 y5.toInt := rfl
              exact rl_some ⟨rfl, (ti_bd iy5 (by omega) (by omega))⟩
          · have dc4 := tl_nle tn_2 (rfl : TI y2 y2.toInt) c4
            exact rl_some ⟨rfl, (ti_bd tn_0 (by omega) (by omega))⟩
        · rintro y3 y3r ⟨ey3, ly3⟩
          obtain rfl : y3 = y3r := ey3
          have ly3 : 0 ≤ y3.toInt ∧ y3.toInt ≤ 3 := ly3
          have iy3 : TI y3 y3.toInt := rfl
          exact rl_some ⟨rfl, rfl, rfl⟩
  · refine rl_bnd (Q := fun (y z : Int32 × Int32 × DD) => y.1 = z.1 ∧ y.2.1 = z.2.1 ∧ M = y.2.2 ∧ N = z.2.2) ?_ ?_
    · refine rl_if (fun c1 => ?_) (fun c1 => ?_)
      · have dc1 := tl_le tn_16 i1 c1
        exfalso
        omega
      · have dc1 := tl_nle tn_16 i1 c1
        refine rl_bnd (b_pieceX t i1 (by omega) (by omega)) ?_
        rintro ⟨y28_1, y28_2⟩ ⟨y28_1r, y28_2r⟩ ⟨my28_11, my28_12, ey28_2, iy28_2⟩
        obtain rfl : M = y28_1 := my28_11
        obtain rfl : N = y28_1r := my28_12
        obtain rfl : y28_2 = y28_2r := ey28_2
        refine rl_ltI (av_sub iy28_2 tn_1 (by omega) (by omega)) (fun x29 ix29 => ?_)
        refine rl_bnd (b_pieceY t i1 (by omega) (by omega)) ?_
        rintro ⟨y30_1, y30_2⟩ ⟨y30_1r, y30_2r⟩ ⟨my30_11, my30_12, ey30_2, iy30_2⟩
        obtain rfl : M = y30_1 := my30_11
        obtain rfl : N = y30_1r := my30_12
        obtain rfl : y30_2 = y30_2r := ey30_2
        refine rl_bnd (b_pieceAt t i0 ix29 iy30_2 tn_16 (by omega) (by omega) (by omega) (by omega) (by omega) (by omega) (by omega) (by omega) hw hI) ?_
        rintro ⟨y31_1, y31_2⟩ ⟨y31_1r, y31_2r⟩ ⟨my31_11, my31_12, ey31_2, ly31_2⟩
        obtain rfl : M = y31_1 := my31_11
        obtain rfl : N = y31_1r := my31_12
        obtain rfl : y31_2 = y31_2r := ey31_2
        dsimp only at ly31_2
        have iy31_2 : TI y31_2 y31_2.toInt := rfl
        refine rl_bnd (b_totalAt t iy31_2 tn_m1 (by omega) (by omega) (by omega) (by omega) (by omega) hT) ?_
        rintro ⟨y32_1, y32_2⟩ ⟨y32_1r, y32_2r⟩ ⟨my32_11, my32_12, ey32_2⟩
        obtain rfl : M = y32_1 := my32_11
        obtain rfl : N = y32_1r := my32_12
        obtain rfl : y32_2 = y32_2r := ey32_2
        refine rl_bnd (b_pieceX t i1 (by omega) (by omega)) ?_
        rintro ⟨y33_1, y33_2⟩ ⟨y33_1r, y33_2r⟩ ⟨my33_11, my33_12, ey33_2, iy33_2⟩
        obtain rfl : M = y33_1 := my33_11
        obtain rfl : N = y33_1r := my33_12
        obtain rfl : y33_2 = y33_2r := ey33_2
        refine rl_bnd (b_pieceY t i1 (by omega) (by omega)) ?_
        rintro ⟨y34_1, y34_2⟩ ⟨y34_1r, y34_2r⟩ ⟨my34_11, my34_12, ey34_2, iy34_2⟩
        obtain rfl : M = y34_1 := my34_11
        obtain rfl : N = y34_1r := my34_12
        obtain rfl : y34_2 = y34_2r := ey34_2
        refine rl_ltI (av_sub iy34_2 tn_1 (by omega) (by omega)) (fun x35 ix35 => ?_)
        refine rl_bnd (b_pieceAt t i0 iy33_2 ix35 tn_16 (by omega) (by omega) (by omega) (by omega) (by omega) (by omega) (by omega) (by omega) hw hI) ?_
        rintro ⟨y36_1, y36_2⟩ ⟨y36_1r, y36_2r⟩ ⟨my36_11, my36_12, ey36_2, ly36_2⟩
        obtain rfl : M = y36_1 := my36_11
        obtain rfl : N = y36_1r := my36_12
        obtain rfl : y36_2 = y36_2r := ey36_2
        dsimp only at ly36_2
        have iy36_2 : TI y36_2 y36_2.toInt := rfl
        refine rl_bnd (b_totalAt t iy36_2 tn_m1 (by omega) (by omega) (by omega) (by omega) (by omega) hT) ?_
        rintro ⟨y37_1, y37_2⟩ ⟨y37_1r, y37_2r⟩ ⟨my37_11, my37_12, ey37_2⟩
        obtain rfl : M = y37_1 := my37_11
        obtain rfl : N = y37_1r := my37_12
        obtain rfl : y37_2 = y37_2r := ey37_2
        exact rl_some ⟨rfl, rfl, rfl, rfl⟩
    · rintro ⟨y1_1, y1_2_1, y1_2_2⟩ ⟨y1_1r, y1_2_1r, y1_2_2r⟩ ⟨ey1_1, ey1_2_1, my1_2_21, my1_2_22⟩
      obtain rfl : y1_1 = y1_1r := ey1_1
      obtain rfl : y1_2_1 = y1_2_1r := ey1_2_1
      obtain rfl : M = y1_2_2 := my1_2_21
      obtain rfl : N = y1_2_2r := my1_2_22
      refine rl_bnd (Q := fun (y z : Int32) => y = z) ?_ ?_
      · refine rl_if (fun c2 => ?_) (fun c2 => ?_)
        · have dc2 := tl_le tn_0 (rfl : TI y1_1 y1_1.toInt) c2
          refine rl_bnd (Q := fun (y z : Int32) => y = z) ?_ ?_
          · refine rl_if (fun c3 => ?_) (fun c3 => ?_)
            · have dc3 := tl_le tn_0 (rfl : TI y1_2_1 y1_2_1.toInt) c3
              refine rl_ltA (fun x12 => ?_)
              refine rl_ltA (fun x13 => ?_)
              refine rl_ltA (fun x14 => ?_)
              exact rl_some rfl
            · have dc3 := tl_nle tn_0 (rfl : TI y1_2_1 y1_2_1.toInt) c3
              exact rl_some rfl
          · rintro y10 y10r ey10
            obtain rfl : y10 = y10r := ey10
            exact rl_some rfl
        · have dc2 := tl_nle tn_0 (rfl : TI y1_1 y1_1.toInt) c2
          exact rl_some rfl
      · rintro y2 y2r ey2
        obtain rfl : y2 = y2r := ey2
        refine rl_bnd (Q := fun (y z : Int32) => y = z ∧ (0 ≤ y.toInt ∧ y.toInt ≤ 3)) ?_ ?_
        · refine rl_if (fun c4 => ?_) (fun c4 => ?_)
          · have dc4 := tl_le tn_2 (rfl : TI y2 y2.toInt) c4
            refine rl_bnd (Q := fun (y z : Int32) => y = z ∧ (1 ≤ y.toInt ∧ y.toInt ≤ 3)) ?_ ?_
            · refine rl_if (fun c5 => ?_) (fun c5 => ?_)
              · have dc5 := tl_le tn_4 (rfl : TI y2 y2.toInt) c5
                refine rl_bnd (Q := fun (y z : Int32) => y = z ∧ (2 ≤ y.toInt ∧ y.toInt ≤ 3)) ?_ ?_
                · refine rl_if (fun c6 => ?_) (fun c6 => ?_)
                  · have dc6 := tl_le tn_8 (rfl : TI y2 y2.toInt) c6
                    exact rl_some ⟨rfl, (ti_bd tn_3 (by omega) (by omega))⟩
                  · have dc6 := tl_nle tn_8 (rfl : TI y2 y2.toInt) c6
                    exact rl_some ⟨rfl, (ti_bd tn_2 (by omega) (by omega))⟩
                · rintro y7 y7r ⟨ey7, ly7⟩
                  obtain rfl : y7 = y7r := ey7
                  have ly7 : 2 ≤ y7.toInt ∧ y7.toInt ≤ 3 := ly7
                  have iy7 : TI y7 y7.toInt := rfl
                  exact rl_some ⟨rfl, (ti_bd iy7 (by omega) (by omega))⟩
              · have dc5 := tl_nle tn_4 (rfl : TI y2 y2.toInt) c5
                exact rl_some ⟨rfl, (ti_bd tn_1 (by omega) (by omega))⟩
            · rintro y5 y5r ⟨ey5, ly5⟩
              obtain rfl : y5 = y5r := ey5
              have ly5 : 1 ≤ y5.toInt ∧ y5.toInt ≤ 3 := ly5
              have iy5 : TI y5 y5.toInt := rfl
              exact rl_some ⟨rfl, (ti_bd iy5 (by omega) (by omega))⟩
          · have dc4 := tl_nle tn_2 (rfl : TI y2 y2.toInt) c4
            exact rl_some ⟨rfl, (ti_bd tn_0 (by omega) (by omega))⟩
        · rintro y3 y3r ⟨ey3, ly3⟩
          obtain rfl : y3 = y3r := ey3
          have ly3 : 0 ≤ y3.toInt ∧ y3.toInt ≤ 3 := ly3
          have iy3 : TI y3 y3.toInt := rfl
          exact rl_some ⟨rfl, rfl, rfl⟩
  · refine rl_bnd (Q := fun (y z : Int32 × Int32 × DD) => y.1 = z.1 ∧ y.2.1 = z.2.1 ∧ M = y.2.2 ∧ N = z.2.2) ?_ ?_
    · refine rl_if (fun c1 => ?_) (fun c1 => ?_)
      · have dc1 := tl_le tn_16 i1 c1
        exfalso
        omega
      · have dc1 := tl_nle tn_16 i1 c1
        refine rl_bnd (b_pieceX t i1 (by omega) (by omega)) ?_
        rintro ⟨y28_1, y28_2⟩ ⟨y28_1r, y28_2r⟩ ⟨my28_11, my28_12, ey28_2, iy28_2⟩
        obtain rfl : M = y28_1 := my28_11
        obtain rfl : N = y28_1r := my28_12
        obtain rfl : y28_2 = y28_2r := ey28_2
        refine rl_ltI (av_sub iy28_2 tn_1 (by omega) (by omega)) (fun x29 ix29 => ?_)
        refine rl_bnd (b_pieceY t i1 (by omega) (by omega)) ?_
        rintro ⟨y30_1, y30_2⟩ ⟨y30_1r, y30_2r⟩ ⟨my30_11, my30_12, ey30_2, iy30_2⟩
        obtain rfl : M = y30_1 := my30_11
        obtain rfl : N = y30_1r := my30_12
        obtain rfl : y30_2 = y30_2r := ey30_2
        refine rl_bnd (b_pieceAt t i0 ix29 iy30_2 tn_16 (by omega) (by omega) (by omega) (by omega) (by omega) (by omega) (by omega) (by omega) hw hI) ?_
        rintro ⟨y31_1, y31_2⟩ ⟨y31_1r, y31_2r⟩ ⟨my31_11, my31_12, ey31_2, ly31_2⟩
        obtain rfl : M = y31_1 := my31_11
        obtain rfl : N = y31_1r := my31_12
        obtain rfl : y31_2 = y31_2r := ey31_2
        dsimp only at ly31_2
        have iy31_2 : TI y31_2 y31_2.toInt := rfl
        refine rl_bnd (b_totalAt t iy31_2 tn_m1 (by omega) (by omega) (by omega) (by omega) (by omega) hT) ?_
        rintro ⟨y32_1, y32_2⟩ ⟨y32_1r, y32_2r⟩ ⟨my32_11, my32_12, ey32_2⟩
        obtain rfl : M = y32_1 := my32_11
        obtain rfl : N = y32_1r := my32_12
        obtain rfl : y32_2 = y32_2r := ey32_2
        refine rl_bnd (b_pieceX t i1 (by omega) (by omega)) ?_
        rintro ⟨y33_1, y33_2⟩ ⟨y33_1r, y33_2r⟩ ⟨my33_11, my33_12, ey33_2, iy33_2⟩
        obtain rfl : M = y33_1 := my33_11
        obtain rfl : N = y33_1r := my33_12
        obtain rfl : y33_2 = y33_2r := ey33_2
        refine rl_bnd (b_pieceY t i1 (by omega) (by omega)) ?_
        rintro ⟨y34_1, y34_2⟩ ⟨y34_1r, y34_2r⟩ ⟨my34_11, my34_12, ey34_2, iy34_2⟩
        obtain rfl : M = y34_1 := my34_11
        obtain rfl : N = y34_1r := my34_12
        obtain rfl : y34_2 = y34_2r := ey34_2
        refine rl_ltI (av_sub iy34_2 tn_1 (by omega) (by omega)) (fun x35 ix35 => ?_)
        refine rl_bnd (b_pieceAt t i0 iy33_2 ix35 tn_16 (by omega) (by omega) (by omega) (by omega) (by omega) (by omega) (by omega) (by omega) hw hI) ?_
        rintro ⟨y36_1, y36_2⟩ ⟨y36_1r, y36_2r⟩ ⟨my36_11, my36_12, ey36_2, ly36_2⟩
        obtain rfl : M = y36_1 := my36_11
        obtain rfl : N = y36_1r := my36_12
        obtain rfl : y36_2 = y36_2r := ey36_2
        dsimp only at ly36_2
        have iy36_2 : TI y36_2 y36_2.toInt := rfl
        refine rl_bnd (b_totalAt t iy36_2 tn_m1 (by omega) (by omega) (by omega) (by omega) (by omega) hT) ?_
        rintro ⟨y37_1, y37_2⟩ ⟨y37_1r, y37_2r⟩ ⟨my37_11, my37_12, ey37_2⟩
        obtain rfl : M = y37_1 := my37_11
        obtain rfl : N = y37_1r := my37_12
        obtain rfl : y37_2 = y37_2r := ey37_2
        exact rl_some ⟨rfl, rfl, rfl, rfl⟩
    · rintro ⟨y1_1, y1_2_1, y1_2_2⟩ ⟨y1_1r, y1_2_1r, y1_2_2r⟩ ⟨ey1_1, ey1_2_1, my1_2_21, my1_2_22⟩
      obtain rfl : y1_1 = y1_1r := ey1_1
      obtain rfl : y1_2_1 = y1_2_1r := ey1_2_1
      obtain rfl : M = y1_2_2 := my1_2_21
      obtain rfl : N = y1_2_2r := my1_2_22
      refine rl_bnd (Q := fun (y z : Int32) => y = z) ?_ ?_
      · refine rl_if (fun c2 => ?_) (fun c2 => ?_)
        · have dc2 := tl_le tn_0 (rfl : TI y1_1 y1_1.toInt) c2
          refine rl_bnd (Q := fun (y z : Int32) => y = z) ?_ ?_
          · refine rl_if (fun c3 => ?_) (fun c3 => ?_)
            · have dc3 := tl_le tn_0 (rfl : TI y1_2_1 y1_2_1.toInt) c3
              refine rl_ltA (fun x12 => ?_)
              refine rl_ltA (fun x13 => ?_)
              refine rl_ltA (fun x14 => ?_)
              exact rl_some rfl
            · have dc3 := tl_nle tn_0 (rfl : TI y1_2_1 y1_2_1.toInt) c3
              exact rl_some rfl
          · rintro y10 y10r ey10
            obtain rfl : y10 = y10r := ey10
            exact rl_some rfl
        · have dc2 := tl_nle tn_0 (rfl : TI y1_1 y1_1.toInt) c2
          exact rl_some rfl
      · rintro y2 y2r ey2
        obtain rfl : y2 = y2r := ey2
        refine rl_bnd (Q := fun (y z : Int32) => y = z ∧ (0 ≤ y.toInt ∧ y.toInt ≤ 3)) ?_ ?_
        · refine rl_if (fun c4 => ?_) (fun c4 => ?_)
          · have dc4 := tl_le tn_2 (rfl : TI y2 y2.toInt) c4
            refine rl_bnd (Q := fun (y z : Int32) => y = z ∧ (1 ≤ y.toInt ∧ y.toInt ≤ 3)) ?_ ?_
            · refine rl_if (fun c5 => ?_) (fun c5 => ?_)
              · have dc5 := tl_le tn_4 (rfl : TI y2 y2.toInt) c5
                refine rl_bnd (Q := fun (y z : Int32) => y = z ∧ (2 ≤ y.toInt ∧ y.toInt ≤ 3)) ?_ ?_
                · refine rl_if (fun c6 => ?_) (fun c6 => ?_)
                  · have dc6 := tl_le tn_8 (rfl : TI y2 y2.toInt) c6
                    exact rl_some ⟨rfl, (ti_bd tn_3 (by omega) (by omega))⟩
                  · have dc6 := tl_nle tn_8 (rfl : TI y2 y2.toInt) c6
                    exact rl_some ⟨rfl, (ti_bd tn_2 (by omega) (by omega))⟩
                · rintro y7 y7r ⟨ey7, ly7⟩
                  obtain rfl : y7 = y7r := ey7
                  have ly7 : 2 ≤ y7.toInt ∧ y7.toInt ≤ 3 := ly7
                  have iy7 : TI y7 y7.toInt := rfl
                  exact rl_some ⟨rfl, (ti_bd iy7 (by omega) (by omega))⟩
              · have dc5 := tl_nle tn_4 (rfl : TI y2 y2.toInt) c5
                exact rl_some ⟨rfl, (ti_bd tn_1 (by omega) (by omega))⟩
            · rintro y5 y5r ⟨ey5, ly5⟩
              obtain rfl : y5 = y5r := ey5
              have ly5 : 1 ≤ y5.toInt ∧ y5.toInt ≤ 3 := ly5
              have iy5 : TI y5 y5.toInt := rfl
              exact rl_some ⟨rfl, (ti_bd iy5 (by omega) (by omega))⟩
          · have dc4 := tl_nle tn_2 (rfl : TI y2 y2.toInt) c4
            exact rl_some ⟨rfl, (ti_bd tn_0 (by omega) (by omega))⟩
        · rintro y3 y3r ⟨ey3, ly3⟩
          obtain rfl : y3 = y3r := ey3
          have ly3 : 0 ≤ y3.toInt ∧ y3.toInt ≤ 3 := ly3
          have iy3 : TI y3 y3.toInt := rfl
          exact rl_some ⟨rfl, rfl, rfl⟩
  · refine rl_bnd (Q := fun (y z : Int32 × Int32 × DD) => y.1 = z.1 ∧ y.2.1 = z.2.1 ∧ M = y.2.2 ∧ N = z.2.2) ?_ ?_
    · refine rl_if (fun c1 => ?_) (fun c1 => ?_)
      · have dc1 := tl_le tn_16 i1 c1
        exfalso
        omega
      · have dc1 := tl_nle tn_16 i1 c1
        refine rl_bnd (b_pieceX t i1 (by omega) (by omega)) ?_
        rintro ⟨y28_1, y28_2⟩ ⟨y28_1r, y28_2r⟩ ⟨my28_11, my28_12, ey28_2, iy28_2⟩
        obtain rfl : M = y28_1 := my28_11
        obtain rfl : N = y28_1r := my28_12
        obtain rfl : y28_2 = y28_2r := ey28_2
        refine rl_ltI (av_sub iy28_2 tn_1 (by omega) (by omega)) (fun x29 ix29 => ?_)
        refine rl_bnd (b_pieceY t i1 (by omega) (by omega)) ?_
        rintro ⟨y30_1, y30_2⟩ ⟨y30_1r, y30_2r⟩ ⟨my30_11, my30_12, ey30_2, iy30_2⟩
        obtain rfl : M = y30_1 := my30_11
        obtain rfl : N = y30_1r := my30_12
        obtain rfl : y30_2 = y30_2r := ey30_2
        refine rl_bnd (b_pieceAt t i0 ix29 iy30_2 tn_16 (by omega) (by omega) (by omega) (by omega) (by omega) (by omega) (by omega) (by omega) hw hI) ?_
        rintro ⟨y31_1, y31_2⟩ ⟨y31_1r, y31_2r⟩ ⟨my31_11, my31_12, ey31_2, ly31_2⟩
        obtain rfl : M = y31_1 := my31_11
        obtain rfl : N = y31_1r := my31_12
        obtain rfl : y31_2 = y31_2r := ey31_2
        dsimp only at ly31_2
        have iy31_2 : TI y31_2 y31_2.toInt := rfl
        refine rl_bnd (b_totalAt t iy31_2 tn_m1 (by omega) (by omega) (by omega) (by omega) (by omega) hT) ?_
        rintro ⟨y32_1, y32_2⟩ ⟨y32_1r, y32_2r⟩ ⟨my32_11, my32_12, ey32_2⟩
        obtain rfl : M = y32_1 := my32_11
        obtain rfl : N = y32_1r := my32_12
        obtain rfl : y32_2 = y32_2r := ey32_2
        refine rl_bnd (b_pieceX t i1 (by omega) (by omega)) ?_
        rintro ⟨y33_1, y33_2⟩ ⟨y33_1r, y33_2r⟩ ⟨my33_11, my33_12, ey33_2, iy33_2⟩
        obtain rfl : M = y33_1 := my33_11
        obtain rfl : N = y33_1r := my33_12
        obtain rfl : y33_2 = y33_2r := ey33_2
        refine rl_bnd (b_pieceY t i1 (by omega) (by omega)) ?_
        rintro ⟨y34_1, y34_2⟩ ⟨y34_1r, y34_2r⟩ ⟨my34_11, my34_12, ey34_2, iy34_2⟩
        obtain rfl : M = y34_1 := my34_11
        obtain rfl : N = y34_1r := my34_12
        obtain rfl : y34_2 = y34_2r := ey34_2
        refine rl_ltI (av_sub iy34_2 tn_1 (by omega) (by omega)) (fun x35 ix35 => ?_)
        refine rl_bnd (b_pieceAt t i0 iy33_2 ix35 tn_16 (by omega) (by omega) (by omega) (by omega) (by omega) (by omega) (by omega) (by omega) hw hI) ?_
        rintro ⟨y36_1, y36_2⟩ ⟨y36_1r, y36_2r⟩ ⟨my36_11, my36_12, ey36_2, ly36_2⟩
        obtain rfl : M = y36_1 := my36_11
        obtain rfl : N = y36_1r := my36_12
        obtain rfl : y36_2 = y36_2r := ey36_2
        dsimp only at ly36_2
        have iy36_2 : TI y36_2 y36_2.toInt := rfl
        refine rl_bnd (b_totalAt t iy36_2 tn_m1 (by omega) (by omega) (by omega) (by omega) (by omega) hT) ?_
        rintro ⟨y37_1, y37_2⟩ ⟨y37_1r, y37_2r⟩ ⟨my37_11, my37_12, ey37_2⟩
        obtain rfl : M = y37_1 := my37_11
        obtain rfl : N = y37_1r := my37_12
        obtain rfl : y37_2 = y37_2r := ey37_2
        exact rl_some ⟨rfl, rfl, rfl, rfl⟩
    · rintro ⟨y1_1, y1_2_1, y1_2_2⟩ ⟨y1_1r, y1_2_1r, y1_2_2r⟩ ⟨ey1_1, ey1_2_1, my1_2_21, my1_2_22⟩
      obtain rfl : y1_1 = y1_1r := ey1_1
      obtain rfl : y1_2_1 = y1_2_1r := ey1_2_1
      obtain rfl : M = y1_2_2 := my1_2_21
      obtain rfl : N = y1_2_2r := my1_2_22
      refine rl_bnd (Q := fun (y z : Int32) => y = z) ?_ ?_
      · refine rl_if (fun c2 => ?_) (fun c2 => ?_)
        · have dc2 := tl_le tn_0 (rfl : TI y1_1 y1_1.toInt) c2
          refine rl_bnd (Q := fun (y z : Int32) => y = z) ?_ ?_
          · refine rl_if (fun c3 => ?_) (fun c3 => ?_)
            · have dc3 := tl_le tn_0 (rfl : TI y1_2_1 y1_2_1.toInt) c3
              refine rl_ltA (fun x12 => ?_)
              refine rl_ltA (fun x13 => ?_)
              refine rl_ltA (fun x14 => ?_)
              exact rl_some rfl
            · have dc3 := tl_nle tn_0 (rfl : TI y1_2_1 y1_2_1.toInt) c3
              exact rl_some rfl
          · rintro y10 y10r ey10
            obtain rfl : y10 = y10r := ey10
            exact rl_some rfl
        · have dc2 := tl_nle tn_0 (rfl : TI y1_1 y1_1.toInt) c2
          exact rl_some rfl
      · rintro y2 y2r ey2
        obtain rfl : y2 = y2r := ey2
        refine rl_bnd (Q := fun (y z : Int32) => y = z ∧ (0 ≤ y.toInt ∧ y.toInt ≤ 3)) ?_ ?_
        · refine rl_if (fun c4 => ?_) (fun c4 => ?_)
          · have dc4 := tl_le tn_2 (rfl : TI y2 y2.toInt) c4
            refine rl_bnd (Q := fun (y z : Int32) => y = z ∧ (1 ≤ y.toInt ∧ y.toInt ≤ 3)) ?_ ?_
            · refine rl_if (fun c5 => ?_) (fun c5 => ?_)
              · have dc5 := tl_le tn_4 (rfl : TI y2 y2.toInt) c5
                refine rl_bnd (Q := fun (y z : Int32) => y = z ∧ (2 ≤ y.toInt ∧ y.toInt ≤ 3)) ?_ ?_
                · refine rl_if (fun c6 => ?_) (fun c6 => ?_)
                  · have dc6 := tl_le tn_8 (rfl : TI y2 y2.toInt) c6
                    exact rl_some ⟨rfl, (ti_bd tn_3 (by omega) (by omega))⟩
                  · have dc6 := tl_nle tn_8 (rfl : TI y2 y2.toInt) c6
                    exact rl_some ⟨rfl, (ti_bd tn_2 (by omega) (by omega))⟩
                · rintro y7 y7r ⟨ey7, ly7⟩
                  obtain rfl : y7 = y7r := ey7
                  have ly7 : 2 ≤ y7.toInt ∧ y7.toInt ≤ 3 := ly7
                  have iy7 : TI y7 y7.toInt := rfl
                  exact rl_some ⟨rfl, (ti_bd iy7 (by omega) (by omega))⟩
              · have dc5 := tl_nle tn_4 (rfl : TI y2 y2.toInt) c5
                exact rl_some ⟨rfl, (ti_bd tn_1 (by omega) (by omega))⟩
            · rintro y5 y5r ⟨ey5, ly5⟩
              obtain rfl : y5 = y5r := ey5
              have ly5 : 1 ≤ y5.toInt ∧ y5.toInt ≤ 3 := ly5
              have iy5 : TI y5 y5.toInt := rfl
              exact rl_some ⟨rfl, (ti_bd iy5 (by omega) (by omega))⟩
          · have dc4 := tl_nle tn_2 (rfl : TI y2 y2.toInt) c4
            exact rl_some ⟨rfl, (ti_bd tn_0 (by omega) (by omega))⟩
        · rintro y3 y3r ⟨ey3, ly3⟩
          obtain rfl : y3 = y3r := ey3
          have ly3 : 0 ≤ y3.toInt ∧ y3.toInt ≤ 3 := ly3
          have iy3 : TI y3 y3.toInt := rfl
          exact rl_some ⟨rfl, rfl, rfl⟩
  · refine rl_bnd (Q := fun (y z : Int32 × Int32 × DD) => y.1 = z.1 ∧ y.2.1 = z.2.1 ∧ M = y.2.2 ∧ N = z.2.2) ?_ ?_
    · refine rl_if (fun c1 => ?_) (fun c1 => ?_)
      · have dc1 := tl_le tn_16 i1 c1
        exfalso
        omega
      · have dc1 := tl_nle tn_16 i1 c1
        refine rl_bnd (b_pieceX t i1 (by omega) (by omega)) ?_
        rintro ⟨y28_1, y28_2⟩ ⟨y28_1r, y28_2r⟩ ⟨my28_11, my28_12, ey28_2, iy28_2⟩
        obtain rfl : M = y28_1 := my28_11
        obtain rfl : N = y28_1r := my28_12
        obtain rfl : y28_2 = y28_2r := ey28_2
        refine rl_ltI (av_sub iy28_2 tn_1 (by omega) (by omega)) (fun x29 ix29 => ?_)
        refine rl_bnd (b_pieceY t i1 (by omega) (by omega)) ?_
        rintro ⟨y30_1, y30_2⟩ ⟨y30_1r, y30_2r⟩ ⟨my30_11, my30_12, ey30_2, iy30_2⟩
        obtain rfl : M = y30_1 := my30_11
        obtain rfl : N = y30_1r := my30_12
        obtain rfl : y30_2 = y30_2r := ey30_2
        refine rl_bnd (b_pieceAt t i0 ix29 iy30_2 tn_16 (by omega) (by omega) (by omega) (by omega) (by omega) (by omega) (by omega) (by omega) hw hI) ?_
        rintro ⟨y31_1, y31_2⟩ ⟨y31_1r, y31_2r⟩ ⟨my31_11, my31_12, ey31_2, ly31_2⟩
        obtain rfl : M = y31_1 := my31_11
        obtain rfl : N = y31_1r := my31_12
        obtain rfl : y31_2 = y31_2r := ey31_2
        dsimp only at ly31_2
        have iy31_2 : TI y31_2 y31_2.toInt := rfl
        refine rl_bnd (b_totalAt t iy31_2 tn_m1 (by omega) (by omega) (by omega) (by omega) (by omega) hT) ?_
        rintro ⟨y32_1, y32_2⟩ ⟨y32_1r, y32_2r⟩ ⟨my32_11, my32_12, ey32_2⟩
        obtain rfl : M = y32_1 := my32_11
        obtain rfl : N = y32_1r := my32_12
        obtain rfl : y32_2 = y32_2r := ey32_2
        refine rl_bnd (b_pieceX t i1 (by omega) (by omega)) ?_
        rintro ⟨y33_1, y33_2⟩ ⟨y33_1r, y33_2r⟩ ⟨my33_11, my33_12, ey33_2, iy33_2⟩
        obtain rfl : M = y33_1 := my33_11
        obtain rfl : N = y33_1r := my33_12
        obtain rfl : y33_2 = y33_2r := ey33_2
        refine rl_bnd (b_pieceY t i1 (by omega) (by omega)) ?_
        rintro ⟨y34_1, y34_2⟩ ⟨y34_1r, y34_2r⟩ ⟨my34_11, my34_12, ey34_2, iy34_2⟩
        obtain rfl : M = y34_1 := my34_11
        obtain rfl : N = y34_1r := my34_12
        obtain rfl : y34_2 = y34_2r := ey34_2
        refine rl_ltI (av_sub iy34_2 tn_1 (by omega) (by omega)) (fun x35 ix35 => ?_)
        refine rl_bnd (b_pieceAt t i0 iy33_2 ix35 tn_16 (by omega) (by omega) (by omega) (by omega) (by omega) (by omega) (by omega) (by omega) hw hI) ?_
        rintro ⟨y36_1, y36_2⟩ ⟨y36_1r, y36_2r⟩ ⟨my36_11, my36_12, ey36_2, ly36_2⟩
        obtain rfl : M = y36_1 := my36_11
        obtain rfl : N = y36_1r := my36_12
        obtain rfl : y36_2 = y36_2r := ey36_2
        dsimp only at ly36_2
        have iy36_2 : TI y36_2 y36_2.toInt := rfl
        refine rl_bnd (b_totalAt t iy36_2 tn_m1 (by omega) (by omega) (by omega) (by omega) (by omega) hT) ?_
        rintro ⟨y37_1, y37_2⟩ ⟨y37_1r, y37_2r⟩ ⟨my37_11, my37_12, ey37_2⟩
        obtain rfl : M = y37_1 := my37_11
        obtain rfl : N = y37_1r := my37_12
        obtain rfl : y37_2 = y37_2r := ey37_2
        exact rl_some ⟨rfl, rfl, rfl, rfl⟩
    · rintro ⟨y1_1, y1_2_1, y1_2_2⟩ ⟨y1_1r, y1_2_1r, y1_2_2r⟩ ⟨ey1_1, ey1_2_1, my1_2_21, my1_2_22⟩
      obtain rfl : y1_1 = y1_1r := ey1_1
      obtain rfl : y1_2_1 = y1_2_1r := ey1_2_1
      obtain rfl : M = y1_2_2 := my1_2_21
      obtain rfl : N = y1_2_2r := my1_2_22
      refine rl_bnd (Q := fun (y z : Int32) => y = z) ?_ ?_
      · refine rl_if (fun c2 => ?_) (fun c2 => ?_)
        · have dc2 := tl_le tn_0 (rfl : TI y1_1 y1_1.toInt) c2
          refine rl_bnd (Q := fun (y z : Int32) => y = z) ?_ ?_
          · refine rl_if (fun c3 => ?_) (fun c3 => ?_)
            · have dc3 := tl_le tn_0 (rfl : TI y1_2_1 y1_2_1.toInt) c3
              refine rl_ltA (fun x12 => ?_)
              refine rl_ltA (fun x13 => ?_)
              refine rl_ltA (fun x14 => ?_)
              exact rl_some rfl
            · have dc3 := tl_nle tn_0 (rfl : TI y1_2_1 y1_2_1.toInt) c3
              exact rl_some rfl
          · rintro y10 y10r ey10
            obtain rfl : y10 = y10r := ey10
            exact rl_some rfl
        · have dc2 := tl_nle tn_0 (rfl : TI y1_1 y1_1.toInt) c2
          exact rl_some rfl
      · rintro y2 y2r ey2
        obtain rfl : y2 = y2r := ey2
        refine rl_bnd (Q := fun (y z : Int32) => y = z ∧ (0 ≤ y.toInt ∧ y.toInt ≤ 3)) ?_ ?_
        · refine rl_if (fun c4 => ?_) (fun c4 => ?_)
          · have dc4 := tl_le tn_2 (rfl : TI y2 y2.toInt) c4
            refine rl_bnd (Q := fun (y z : Int32) => y = z ∧ (1 ≤ y.toInt ∧ y.toInt ≤ 3)) ?_ ?_
            · refine rl_if (fun c5 => ?_) (fun c5 => ?_)
              · have dc5 := tl_le tn_4 (rfl : TI y2 y2.toInt) c5
                refine rl_bnd (Q := fun (y z : Int32) => y = z ∧ (2 ≤ y.toInt ∧ y.toInt ≤ 3)) ?_ ?_
                · refine rl_if (fun c6 => ?_) (fun c6 => ?_)
                  · have dc6 := tl_le tn_8 (rfl : TI y2 y2.toInt) c6
                    exact rl_some ⟨rfl, (ti_bd tn_3 (by omega) (by omega))⟩
                  · have dc6 := tl_nle tn_8 (rfl : TI y2 y2.toInt) c6
                    exact rl_some ⟨rfl, (ti_bd tn_2 (by omega) (by omega))⟩
                · rintro y7 y7r ⟨ey7, ly7⟩
                  obtain rfl : y7 = y7r := ey7
                  have ly7 : 2 ≤ y7.toInt ∧ y7.toInt ≤ 3 := ly7
                  have iy7 : TI y7 y7.toInt := rfl
                  exact rl_some ⟨rfl, (ti_bd iy7 (by omega) (by omega))⟩
              · have dc5 := tl_nle tn_4 (rfl : TI y2 y2.toInt) c5
                exact rl_some ⟨rfl, (ti_bd tn_1 (by omega) (by omega))⟩
            · rintro y5 y5r ⟨ey5, ly5⟩
              obtain rfl : y5 = y5r := ey5
              have ly5 : 1 ≤ y5.toInt ∧ y5.toInt ≤ 3 := ly5
              have iy5 : TI y5 y5.toInt := rfl
              exact rl_some ⟨rfl, (ti_bd iy5 (by omega) (by omega))⟩
          · have dc4 := tl_nle tn_2 (rfl : TI y2 y2.toInt) c4
            exact rl_some ⟨rfl, (ti_bd tn_0 (by omega) (by omega))⟩
        · rintro y3 y3r ⟨ey3, ly3⟩
          obtain rfl : y3 = y3r := ey3
          have ly3 : 0 ≤ y3.toInt ∧ y3.toInt ≤ 3 := ly3
          have iy3 : TI y3 y3.toInt := rfl
          exact rl_some ⟨rfl, rfl, rfl⟩
  · refine rl_bnd (Q := fun (y z : Int32 × Int32 × DD) => y.1 = z.1 ∧ y.2.1 = z.2.1 ∧ M = y.2.2 ∧ N = z.2.2) ?_ ?_
    · refine rl_if (fun c1 => ?_) (fun c1 => ?_)
      · have dc1 := tl_le tn_16 i1 c1
        exfalso
        omega
      · have dc1 := tl_nle tn_16 i1 c1
        refine rl_bnd (b_pieceX t i1 (by omega) (by omega)) ?_
        rintro ⟨y28_1, y28_2⟩ ⟨y28_1r, y28_2r⟩ ⟨my28_11, my28_12, ey28_2, iy28_2⟩
        obtain rfl : M = y28_1 := my28_11
        obtain rfl : N = y28_1r := my28_12
        obtain rfl : y28_2 = y28_2r := ey28_2
        refine rl_ltI (av_sub iy28_2 tn_1 (by omega) (by omega)) (fun x29 ix29 => ?_)
        refine rl_bnd (b_pieceY t i1 (by omega) (by omega)) ?_
        rintro ⟨y30_1, y30_2⟩ ⟨y30_1r, y30_2r⟩ ⟨my30_11, my30_12, ey30_2, iy30_2⟩
        obtain rfl : M = y30_1 := my30_11
        obtain rfl : N = y30_1r := my30_12
        obtain rfl : y30_2 = y30_2r := ey30_2
        refine rl_bnd (b_pieceAt t i0 ix29 iy30_2 tn_16 (by omega) (by omega) (by omega) (by omega) (by omega) (by omega) (by omega) (by omega) hw hI) ?_
        rintro ⟨y31_1, y31_2⟩ ⟨y31_1r, y31_2r⟩ ⟨my31_11, my31_12, ey31_2, ly31_2⟩
        obtain rfl : M = y31_1 := my31_11
        obtain rfl : N = y31_1r := my31_12
        obtain rfl : y31_2 = y31_2r := ey31_2
        dsimp only at ly31_2
        have iy31_2 : TI y31_2 y31_2.toInt := rfl
        refine rl_bnd (b_totalAt t iy31_2 tn_m1 (by omega) (by omega) (by omega) (by omega) (by omega) hT) ?_
        rintro ⟨y32_1, y32_2⟩ ⟨y32_1r, y32_2r⟩ ⟨my32_11, my32_12, ey32_2⟩
        obtain rfl : M = y32_1 := my32_11
        obtain rfl : N = y32_1r := my32_12
        obtain rfl : y32_2 = y32_2r := ey32_2
        refine rl_bnd (b_pieceX t i1 (by omega) (by omega)) ?_
        rintro ⟨y33_1, y33_2⟩ ⟨y33_1r, y33_2r⟩ ⟨my33_11, my33_12, ey33_2, iy33_2⟩
        obtain rfl : M = y33_1 := my33_11
        obtain rfl : N = y33_1r := my33_12
        obtain rfl : y33_2 = y33_2r := ey33_2
        refine rl_bnd (b_pieceY t i1 (by omega) (by omega)) ?_
        rintro ⟨y34_1, y34_2⟩ ⟨y34_1r, y34_2r⟩ ⟨my34_11, my34_12, ey34_2, iy34_2⟩
        obtain rfl : M = y34_1 := my34_11
        obtain rfl : N = y34_1r := my34_12
        obtain rfl : y34_2 = y34_2r := ey34_2
        refine rl_ltI (av_sub iy34_2 tn_1 (by omega) (by omega)) (fun x35 ix35 => ?_)
        refine rl_bnd (b_pieceAt t i0 iy33_2 ix35 tn_16 (by omega) (by omega) (by omega) (by omega) (by omega) (by omega) (by omega) (by omega) hw hI) ?_
        rintro ⟨y36_1, y36_2⟩ ⟨y36_1r, y36_2r⟩ ⟨my36_11, my36_12, ey36_2, ly36_2⟩
        obtain rfl : M = y36_1 := my36_11
        obtain rfl : N = y36_1r := my36_12
        obtain rfl : y36_2 = y36_2r := ey36_2
        dsimp only at ly36_2
        have iy36_2 : TI y36_2 y36_2.toInt := rfl
        refine rl_bnd (b_totalAt t iy36_2 tn_m1 (by omega) (by omega) (by omega) (by omega) (by omega) hT) ?_
        rintro ⟨y37_1, y37_2⟩ ⟨y37_1r, y37_2r⟩ ⟨my37_11, my37_12, ey37_2⟩
        obtain rfl : M = y37_1 := my37_11
        obtain rfl : N = y37_1r := my37_12
        obtain rfl : y37_2 = y37_2r := ey37_2
        exact rl_some ⟨rfl, rfl, rfl, rfl⟩
    · rintro ⟨y1_1, y1_2_1, y1_2_2⟩ ⟨y1_1r, y1_2_1r, y1_2_2r⟩ ⟨ey1_1, ey1_2_1, my1_2_21, my1_2_22⟩
      obtain rfl : y1_1 = y1_1r := ey1_1
      obtain rfl : y1_2_1 = y1_2_1r := ey1_2_1
      obtain rfl : M = y1_2_2 := my1_2_21
      obtain rfl : N = y1_2_2r := my1_2_22
      refine rl_bnd (Q := fun (y z : Int32) => y = z) ?_ ?_
      · refine rl_if (fun c2 => ?_) (fun c2 => ?_)
        · have dc2 := tl_le tn_0 (rfl : TI y1_1 y1_1.toInt) c2
          refine rl_bnd (Q := fun (y z : Int32) => y = z) ?_ ?_
          · refine rl_if (fun c3 => ?_) (fun c3 => ?_)
            · have dc3 := tl_le tn_0 (rfl : TI y1_2_1 y1_2_1.toInt) c3
              refine rl_ltA (fun x12 => ?_)
              refine rl_ltA (fun x13 => ?_)
              refine rl_ltA (fun x14 => ?_)
              exact rl_some rfl
            · have dc3 := tl_nle tn_0 (rfl : TI y1_2_1 y1_2_1.toInt) c3
              exact rl_some rfl
          · rintro y10 y10r ey10
            obtain rfl : y10 = y10r := ey10
            exact rl_some rfl
        · have dc2 := tl_nle tn_0 (rfl : TI y1_1 y1_1.toInt) c2
          exact rl_some rfl
      · rintro y2 y2r ey2
        obtain rfl : y2 = y2r := ey2
        refine rl_bnd (Q := fun (y z : Int32) => y = z ∧ (0 ≤ y.toInt ∧ y.toInt ≤ 3)) ?_ ?_
        · refine rl_if (fun c4 => ?_) (fun c4 => ?_)
          · have dc4 := tl_le tn_2 (rfl : TI y2 y2.toInt) c4
            refine rl_bnd (Q := fun (y z : Int32) => y = z ∧ (1 ≤ y.toInt ∧ y.toInt ≤ 3)) ?_ ?_
            · refine rl_if (fun c5 => ?_) (fun c5 => ?_)
              · have dc5 := tl_le tn_4 (rfl : TI y2 y2.toInt) c5
                refine rl_bnd (Q := fun (y z : Int32) => y = z ∧ (2 ≤ y.toInt ∧ y.toInt ≤ 3)) ?_ ?_
                · refine rl_if (fun c6 => ?_) (fun c6 => ?_)
                  · have dc6 := tl_le tn_8 (rfl : TI y2 y2.toInt) c6
                    exact rl_some ⟨rfl, (ti_bd tn_3 (by omega) (by omega))⟩
                  · have dc6 := tl_nle tn_8 (rfl : TI y2 y2.toInt) c6
                    exact rl_some ⟨rfl, (ti_bd tn_2 (by omega) (by omega))⟩
                · rintro y7 y7r ⟨ey7, ly7⟩
                  obtain rfl : y7 = y7r := ey7
                  have ly7 : 2 ≤ y7.toInt ∧ y7.toInt ≤ 3 := ly7
                  have iy7 : TI y7 y7.toInt := rfl
                  exact rl_some ⟨rfl, (ti_bd iy7 (by omega) (by omega))⟩
              · have dc5 := tl_nle tn_4 (rfl : TI y2 y2.toInt) c5
                exact rl_some ⟨rfl, (ti_bd tn_1 (by omega) (by omega))⟩
            · rintro y5 y5r ⟨ey5, ly5⟩
              obtain rfl : y5 = y5r := ey5
              have ly5 : 1 ≤ y5.toInt ∧ y5.toInt ≤ 3 := ly5
              have iy5 : TI y5 y5.toInt := rfl
              exact rl_some ⟨rfl, (ti_bd iy5 (by omega) (by omega))⟩
          · have dc4 := tl_nle tn_2 (rfl : TI y2 y2.toInt) c4
            exact rl_some ⟨rfl, (ti_bd tn_0 (by omega) (by omega))⟩
        · rintro y3 y3r ⟨ey3, ly3⟩
          obtain rfl : y3 = y3r := ey3
          have ly3 : 0 ≤ y3.toInt ∧ y3.toInt ≤ 3 := ly3
          have iy3 : TI y3 y3.toInt := rfl
          exact rl_some ⟨rfl, rfl, rfl⟩
  · refine rl_bnd (Q := fun (y z : Int32 × Int32 × DD) => y.1 = z.1 ∧ y.2.1 = z.2.1 ∧ M = y.2.2 ∧ N = z.2.2) ?_ ?_
    · refine rl_if (fun c1 => ?_) (fun c1 => ?_)
      · have dc1 := tl_le tn_16 i1 c1
        exfalso
        omega
      · have dc1 := tl_nle tn_16 i1 c1
        refine rl_bnd (b_pieceX t i1 (by omega) (by omega)) ?_
        rintro ⟨y28_1, y28_2⟩ ⟨y28_1r, y28_2r⟩ ⟨my28_11, my28_12, ey28_2, iy28_2⟩
        obtain rfl : M = y28_1 := my28_11
        obtain rfl : N = y28_1r := my28_12
        obtain rfl : y28_2 = y28_2r := ey28_2
        refine rl_ltI (av_sub iy28_2 tn_1 (by omega) (by omega)) (fun x29 ix29 => ?_)
        refine rl_bnd (b_pieceY t i1 (by omega) (by omega)) ?_
        rintro ⟨y30_1, y30_2⟩ ⟨y30_1r, y30_2r⟩ ⟨my30_11, my30_12, ey30_2, iy30_2⟩
        obtain rfl : M = y30_1 := my30_11
        obtain rfl : N = y30_1r := my30_12
        obtain rfl : y30_2 = y30_2r := ey30_2
        refine rl_bnd (b_pieceAt t i0 ix29 iy30_2 tn_16 (by omega) (by omega) (by omega) (by omega) (by omega) (by omega) (by omega) (by omega) hw hI) ?_
        rintro ⟨y31_1, y31_2⟩ ⟨y31_1r, y31_2r⟩ ⟨my31_11, my31_12, ey31_2, ly31_2⟩
        obtain rfl : M = y31_1 := my31_11
        obtain rfl : N = y31_1r := my31_12
        obtain rfl : y31_2 = y31_2r := ey31_2
        dsimp only at ly31_2
        have iy31_2 : TI y31_2 y31_2.toInt := rfl
        refine rl_bnd (b_totalAt t iy31_2 tn_m1 (by omega) (by omega) (by omega) (by omega) (by omega) hT) ?_
        rintro ⟨y32_1, y32_2⟩ ⟨y32_1r, y32_2r⟩ ⟨my32_11, my32_12, ey32_2⟩
        obtain rfl : M = y32_1 := my32_11
        obtain rfl : N = y32_1r := my32_12
        obtain rfl : y32_2 = y32_2r := ey32_2
        refine rl_bnd (b_pieceX t i1 (by omega) (by omega)) ?_
        rintro ⟨y33_1, y33_2⟩ ⟨y33_1r, y33_2r⟩ ⟨my33_11, my33_12, ey33_2, iy33_2⟩
        obtain rfl : M = y33_1 := my33_11
        obtain rfl : N = y33_1r := my33_12
        obtain rfl : y33_2 = y33_2r := ey33_2
        refine rl_bnd (b_pieceY t i1 (by omega) (by omega)) ?_
        rintro ⟨y34_1, y34_2⟩ ⟨y34_1r, y34_2r⟩ ⟨my34_11, my34_12, ey34_2, iy34_2⟩
        obtain rfl : M = y34_1 := my34_11
        obtain rfl : N = y34_1r := my34_12
        obtain rfl : y34_2 = y34_2r := ey34_2
        refine rl_ltI (av_sub iy34_2 tn_1 (by omega) (by omega)) (fun x35 ix35 => ?_)
        refine rl_bnd (b_pieceAt t i0 iy33_2 ix35 tn_16 (by omega) (by omega) (by omega) (by omega) (by omega) (by omega) (by omega) (by omega) hw hI) ?_
        rintro ⟨y36_1, y36_2⟩ ⟨y36_1r, y36_2r⟩ ⟨my36_11, my36_12, ey36_2, ly36_2⟩
        obtain rfl : M = y36_1 := my36_11
        obtain rfl : N = y36_1r := my36_12
        obtain rfl : y36_2 = y36_2r := ey36_2
        dsimp only at ly36_2
        have iy36_2 : TI y36_2 y36_2.toInt := rfl
        refine rl_bnd (b_totalAt t iy36_2 tn_m1 (by omega) (by omega) (by omega) (by omega) (by omega) hT) ?_
        rintro ⟨y37_1, y37_2⟩ ⟨y37_1r, y37_2r⟩ ⟨my37_11, my37_12, ey37_2⟩
        obtain rfl : M = y37_1 := my37_11
        obtain rfl : N = y37_1r := my37_12
        obtain rfl : y37_2 = y37_2r := ey37_2
        exact rl_some ⟨rfl, rfl, rfl, rfl⟩
    · rintro ⟨y1_1, y1_2_1, y1_2_2⟩ ⟨y1_1r, y1_2_1r, y1_2_2r⟩ ⟨ey1_1, ey1_2_1, my1_2_21, my1_2_22⟩
      obtain rfl : y1_1 = y1_1r := ey1_1
      obtain rfl : y1_2_1 = y1_2_1r := ey1_2_1
      obtain rfl : M = y1_2_2 := my1_2_21
      obtain rfl : N = y1_2_2r := my1_2_22
      refine rl_bnd (Q := fun (y z : Int32) => y = z) ?_ ?_
      · refine rl_if (fun c2 => ?_) (fun c2 => ?_)
        · have dc2 := tl_le tn_0 (rfl : TI y1_1 y1_1.toInt) c2
          refine rl_bnd (Q := fun (y z : Int32) => y = z) ?_ ?_
          · refine rl_if (fun c3 => ?_) (fun c3 => ?_)
            · have dc3 := tl_le tn_0 (rfl : TI y1_2_1 y1_2_1.toInt) c3
              refine rl_ltA (fun x12 => ?_)
              refine rl_ltA (fun x13 => ?_)
              refine rl_ltA (fun x14 => ?_)
              exact rl_some rfl
            · have dc3 := tl_nle tn_0 (rfl : TI y1_2_1 y1_2_1.toInt) c3
              exact rl_some rfl
          · rintro y10 y10r ey10
            obtain rfl : y10 = y10r := ey10
            exact rl_some rfl
        · have dc2 := tl_nle tn_0 (rfl : TI y1_1 y1_1.toInt) c2
          exact rl_some rfl
      · rintro y2 y2r ey2
        obtain rfl : y2 = y2r := ey2
        refine rl_bnd (Q := fun (y z : Int32) => y = z ∧ (0 ≤ y.toInt ∧ y.toInt ≤ 3)) ?_ ?_
        · refine rl_if (fun c4 => ?_) (fun c4 => ?_)
          · have dc4 := tl_le tn_2 (rfl : TI y2 y2.toInt) c4
            refine rl_bnd (Q := fun (y z : Int32) => y = z ∧ (1 ≤ y.toInt ∧ y.toInt ≤ 3)) ?_ ?_
            · refine rl_if (fun c5 => ?_) (fun c5 => ?_)
              · have dc5 := tl_le tn_4 (rfl : TI y2 y2.toInt) c5
                refine rl_bnd (Q := fun (y z : Int32) => y = z ∧ (2 ≤ y.toInt ∧ y.toInt ≤ 3)) ?_ ?_
                · refine rl_if (fun c6 => ?_) (fun c6 => ?_)
                  · have dc6 := tl_le tn_8 (rfl : TI y2 y2.toInt) c6
                    exact rl_some ⟨rfl, (ti_bd tn_3 (by omega) (by omega))⟩
                  · have dc6 := tl_nle tn_8 (rfl : TI y2 y2.toInt) c6
                    exact rl_some ⟨rfl, (ti_bd tn_2 (by omega) (by omega))⟩
                · rintro y7 y7r ⟨ey7, ly7⟩
                  obtain rfl : y7 = y7r := ey7
                  have ly7 : 2 ≤ y7.toInt ∧ y7.toInt ≤ 3 := ly7
                  have iy7 : TI y7 y7.toInt := rfl
                  exact rl_some ⟨rfl, (ti_bd iy7 (by omega) (by omega))⟩
              · have dc5 := tl_nle tn_4 (rfl : TI y2 y2.toInt) c5
                exact rl_some ⟨rfl, (ti_bd tn_1 (by omega) (by omega))⟩
            · rintro y5 y5r ⟨ey5, ly5⟩
              obtain rfl : y5 = y5r := ey5
              have ly5 : 1 ≤ y5.toInt ∧ y5.toInt ≤ 3 := ly5
              have iy5 : TI y5 y5.toInt := rfl
              exact rl_some ⟨rfl, (ti_bd iy5 (by omega) (by omega))⟩
          · have dc4 := tl_nle tn_2 (rfl : TI y2 y2.toInt) c4
            exact rl_some ⟨rfl, (ti_bd tn_0 (by omega) (by omega))⟩
        · rintro y3 y3r ⟨ey3, ly3⟩
          obtain rfl : y3 = y3r := ey3
          have ly3 : 0 ≤ y3.toInt ∧ y3.toInt ≤ 3 := ly3
          have iy3 : TI y3 y3.toInt := rfl
          exact rl_some ⟨rfl, rfl, rfl⟩
  · refine rl_bnd (Q := fun (y z : Int32 × Int32 × DD) => y.1 = z.1 ∧ y.2.1 = z.2.1 ∧ M = y.2.2 ∧ N = z.2.2) ?_ ?_
    · refine rl_if (fun c1 => ?_) (fun c1 => ?_)
      · have dc1 := tl_le tn_16 i1 c1
        refine rl_ltI (av_mod i1 tn_2 (by omega) (by omega)) (fun x16 ix16 => ?_)
        refine rl_bnd (Q := fun (y z : Int32) => y = z ∧ (-1 ≤ y.toInt ∧ y.toInt ≤ -1)) ?_ ?_
        · refine rl_if (fun c2 => ?_) (fun c2 => ?_)
          · have dc2 := tl_eq ix16 tn_0 c2
            exact rl_some ⟨rfl, (ti_bd tn_m1 (by omega) (by omega))⟩
          · have dc2 := tl_ne ix16 tn_0 c2
            exfalso
            omega
        · rintro y17 y17r ⟨ey17, ly17⟩
          obtain rfl : y17 = y17r := ey17
          have ly17 : -1 ≤ y17.toInt ∧ y17.toInt ≤ -1 := ly17
          have iy17 : TI y17 (-1) := ti_c ly17
          refine rl_bnd (b_pieceAt t i0 iy17 tn_0 tn_16 (by omega) (by omega) (by omega) (by omega) (by omega) (by omega) (by omega) (by omega) hw hI) ?_
          rintro ⟨y18_1, y18_2⟩ ⟨y18_1r, y18_2r⟩ ⟨my18_11, my18_12, ey18_2, ly18_2⟩
          obtain rfl : M = y18_1 := my18_11
          obtain rfl : N = y18_1r := my18_12
          obtain rfl : y18_2 = y18_2r := ey18_2
          dsimp only at ly18_2
          have iy18_2 : TI y18_2 y18_2.toInt := rfl
          refine rl_ltI (show TI (p1 ^^^ ((1 : Int32))) 17 from by rw [ti_inj tn_16 i1]; rfl) (fun x19 ix19 => ?_)
          refine rl_bnd (b_totalAt t iy18_2 ix19 (by omega) (by omega) (by omega) (by omega) (by omega) hT) ?_
          rintro ⟨y20_1, y20_2⟩ ⟨y20_1r, y20_2r⟩ ⟨my20_11, my20_12, ey20_2⟩
          obtain rfl : M = y20_1 := my20_11
          obtain rfl : N = y20_1r := my20_12
          obtain rfl : y20_2 = y20_2r := ey20_2
          refine rl_ltI (av_mod i1 tn_4 (by omega) (by omega)) (fun x21 ix21 => ?_)
          refine rl_bnd (Q := fun (y z : Int32) => y = z ∧ (-1 ≤ y.toInt ∧ y.toInt ≤ -1)) ?_ ?_
          · refine rl_if (fun c3 => ?_) (fun c3 => ?_)
            · have dc3 := tl_le tn_2 ix21 c3
              exfalso
              omega
            · have dc3 := tl_nle tn_2 ix21 c3
              exact rl_some ⟨rfl, (ti_bd tn_m1 (by omega) (by omega))⟩
          · rintro y22 y22r ⟨ey22, ly22⟩
            obtain rfl : y22 = y22r := ey22
            have ly22 : -1 ≤ y22.toInt ∧ y22.toInt ≤ -1 := ly22
            have iy22 : TI y22 (-1) := ti_c ly22
            refine rl_bnd (b_pieceAt t i0 tn_0 iy22 tn_16 (by omega) (by omega) (by omega) (by omega) (by omega) (by omega) (by omega) (by omega) hw hI) ?_
            rintro ⟨y23_1, y23_2⟩ ⟨y23_1r, y23_2r⟩ ⟨my23_11, my23_12, ey23_2, ly23_2⟩
            obtain rfl : M = y23_1 := my23_11
            obtain rfl : N = y23_1r := my23_12
            obtain rfl : y23_2 = y23_2r := ey23_2
            dsimp only at ly23_2
            have iy23_2 : TI y23_2 y23_2.toInt := rfl
            refine rl_ltI (show TI (p1 ^^^ ((2 : Int32))) 18 from by rw [ti_inj tn_16 i1]; rfl) (fun x24 ix24 => ?_)
            refine rl_bnd (b_totalAt t iy23_2 ix24 (by omega) (by omega) (by omega) (by omega) (by omega) hT) ?_
            rintro ⟨y25_1, y25_2⟩ ⟨y25_1r, y25_2r⟩ ⟨my25_11, my25_12, ey25_2⟩
            obtain rfl : M = y25_1 := my25_11
            obtain rfl : N = y25_1r := my25_12
            obtain rfl : y25_2 = y25_2r := ey25_2
            exact rl_some ⟨rfl, rfl, rfl, rfl⟩
      · have dc1 := tl_nle tn_16 i1 c1
        exfalso
        omega
    · rintro ⟨y1_1, y1_2_1, y1_2_2⟩ ⟨y1_1r, y1_2_1r, y1_2_2r⟩ ⟨ey1_1, ey1_2_1, my1_2_21, my1_2_22⟩
      obtain rfl : y1_1 = y1_1r := ey1_1
      obtain rfl : y1_2_1 = y1_2_1r := ey1_2_1
      obtain rfl : M = y1_2_2 := my1_2_21
      obtain rfl : N = y1_2_2r := my1_2_22
      refine rl_bnd (Q := fun (y z : Int32) => y = z) ?_ ?_
      · refine rl_if (fun c4 => ?_) (fun c4 => ?_)
        · have dc4 := tl_le tn_0 (rfl : TI y1_1 y1_1.toInt) c4
          refine rl_bnd (Q := fun (y z : Int32) => y = z) ?_ ?_
          · refine rl_if (fun c5 => ?_) (fun c5 => ?_)
            · have dc5 := tl_le tn_0 (rfl : TI y1_2_1 y1_2_1.toInt) c5
              refine rl_ltA (fun x12 => ?_)
              refine rl_ltA (fun x13 => ?_)
              refine rl_ltA (fun x14 => ?_)
              exact rl_some rfl
            · have dc5 := tl_nle tn_0 (rfl : TI y1_2_1 y1_2_1.toInt) c5
              exact rl_some rfl
          · rintro y10 y10r ey10
            obtain rfl : y10 = y10r := ey10
            exact rl_some rfl
        · have dc4 := tl_nle tn_0 (rfl : TI y1_1 y1_1.toInt) c4
          exact rl_some rfl
      · rintro y2 y2r ey2
        obtain rfl : y2 = y2r := ey2
        refine rl_bnd (Q := fun (y z : Int32) => y = z ∧ (0 ≤ y.toInt ∧ y.toInt ≤ 3)) ?_ ?_
        · refine rl_if (fun c6 => ?_) (fun c6 => ?_)
          · have dc6 := tl_le tn_2 (rfl : TI y2 y2.toInt) c6
            refine rl_bnd (Q := fun (y z : Int32) => y = z ∧ (1 ≤ y.toInt ∧ y.toInt ≤ 3)) ?_ ?_
            · refine rl_if (fun c7 => ?_) (fun c7 => ?_)
              · have dc7 := tl_le tn_4 (rfl : TI y2 y2.toInt) c7
                refine rl_bnd (Q := fun (y z : Int32) => y = z ∧ (2 ≤ y.toInt ∧ y.toInt ≤ 3)) ?_ ?_
                · refine rl_if (fun c8 => ?_) (fun c8 => ?_)
                  · have dc8 := tl_le tn_8 (rfl : TI y2 y2.toInt) c8
                    exact rl_some ⟨rfl, (ti_bd tn_3 (by omega) (by omega))⟩
                  · have dc8 := tl_nle tn_8 (rfl : TI y2 y2.toInt) c8
                    exact rl_some ⟨rfl, (ti_bd tn_2 (by omega) (by omega))⟩
                · rintro y7 y7r ⟨ey7, ly7⟩
                  obtain rfl : y7 = y7r := ey7
                  have ly7 : 2 ≤ y7.toInt ∧ y7.toInt ≤ 3 := ly7
                  have iy7 : TI y7 y7.toInt := rfl
                  exact rl_some ⟨rfl, (ti_bd iy7 (by omega) (by omega))⟩
              · have dc7 := tl_nle tn_4 (rfl : TI y2 y2.toInt) c7
                exact rl_some ⟨rfl, (ti_bd tn_1 (by omega) (by omega))⟩
            · rintro y5 y5r ⟨ey5, ly5⟩
              obtain rfl : y5 = y5r := ey5
              have ly5 : 1 ≤ y5.toInt ∧ y5.toInt ≤ 3 := ly5
              have iy5 : TI y5 y5.toInt := rfl
              exact rl_some ⟨rfl, (ti_bd iy5 (by omega) (by omega))⟩
          · have dc6 := tl_nle tn_2 (rfl : TI y2 y2.toInt) c6
            exact rl_some ⟨rfl, (ti_bd tn_0 (by omega) (by omega))⟩
        · rintro y3 y3r ⟨ey3, ly3⟩
          obtain rfl : y3 = y3r := ey3
          have ly3 : 0 ≤ y3.toInt ∧ y3.toInt ≤ 3 := ly3
          have iy3 : TI y3 y3.toInt := rfl
          exact rl_some ⟨rfl, rfl, rfl⟩
  · refine rl_bnd (Q := fun (y z : Int32 × Int32 × DD) => y.1 = z.1 ∧ y.2.1 = z.2.1 ∧ M = y.2.2 ∧ N = z.2.2) ?_ ?_
    · refine rl_if (fun c1 => ?_) (fun c1 => ?_)
      · have dc1 := tl_le tn_16 i1 c1
        refine rl_ltI (av_mod i1 tn_2 (by omega) (by omega)) (fun x16 ix16 => ?_)
        refine rl_bnd (Q := fun (y z : Int32) => y = z ∧ (0 ≤ y.toInt ∧ y.toInt ≤ 0)) ?_ ?_
        · refine rl_if (fun c2 => ?_) (fun c2 => ?_)
          · have dc2 := tl_eq ix16 tn_0 c2
            exfalso
            omega
          · exact rl_some ⟨rfl, (ti_bd tn_0 (by omega) (by omega))⟩
        · rintro y17 y17r ⟨ey17, ly17⟩
          obtain rfl : y17 = y17r := ey17
          have ly17 : 0 ≤ y17.toInt ∧ y17.toInt ≤ 0 := ly17
          have iy17 : TI y17 (0) := ti_c ly17
          refine rl_bnd (b_pieceAt t i0 iy17 tn_0 tn_16 (by omega) (by omega) (by omega) (by omega) (by omega) (by omega) (by omega) (by omega) hw hI) ?_
          rintro ⟨y18_1, y18_2⟩ ⟨y18_1r, y18_2r⟩ ⟨my18_11, my18_12, ey18_2, ly18_2⟩
          obtain rfl : M = y18_1 := my18_11
          obtain rfl : N = y18_1r := my18_12
          obtain rfl : y18_2 = y18_2r := ey18_2
          dsimp only at ly18_2
          have iy18_2 : TI y18_2 y18_2.toInt := rfl
          refine rl_ltI (show TI (p1 ^^^ ((1 : Int32))) 16 from by rw [ti_inj tn_17 i1]; rfl) (fun x19 ix19 => ?_)
          refine rl_bnd (b_totalAt t iy18_2 ix19 (by omega) (by omega) (by omega) (by omega) (by omega) hT) ?_
          rintro ⟨y20_1, y20_2⟩ ⟨y20_1r, y20_2r⟩ ⟨my20_11, my20_12, ey20_2⟩
          obtain rfl : M = y20_1 := my20_11
          obtain rfl : N = y20_1r := my20_12
          obtain rfl : y20_2 = y20_2r := ey20_2
          refine rl_ltI (av_mod i1 tn_4 (by omega) (by omega)) (fun x21 ix21 => ?_)
          refine rl_bnd (Q := fun (y z : Int32) => y = z ∧ (-1 ≤ y.toInt ∧ y.toInt ≤ -1)) ?_ ?_
          · refine rl_if (fun c3 => ?_) (fun c3 => ?_)
            · have dc3 := tl_le tn_2 ix21 c3
              exfalso
              omega
            · have dc3 := tl_nle tn_2 ix21 c3
              exact rl_some ⟨rfl, (ti_bd tn_m1 (by omega) (by omega))⟩
          · rintro y22 y22r ⟨ey22, ly22⟩
            obtain rfl : y22 = y22r := ey22
            have ly22 : -1 ≤ y22.toInt ∧ y22.toInt ≤ -1 := ly22
            have iy22 : TI y22 (-1) := ti_c ly22
            refine rl_bnd (b_pieceAt t i0 tn_0 iy22 tn_16 (by omega) (by omega) (by omega) (by omega) (by omega) (by omega) (by omega) (by omega) hw hI) ?_
            rintro ⟨y23_1, y23_2⟩ ⟨y23_1r, y23_2r⟩ ⟨my23_11, my23_12, ey23_2, ly23_2⟩
            obtain rfl : M = y23_1 := my23_11
            obtain rfl : N = y23_1r := my23_12
            obtain rfl : y23_2 = y23_2r := ey23_2
            dsimp only at ly23_2
            have iy23_2 : TI y23_2 y23_2.toInt := rfl
            refine rl_ltI (show TI (p1 ^^^ ((2 : Int32))) 19 from by rw [ti_inj tn_17 i1]; rfl) (fun x24 ix24 => ?_)
            refine rl_bnd (b_totalAt t iy23_2 ix24 (by omega) (by omega) (by omega) (by omega) (by omega) hT) ?_
            rintro ⟨y25_1, y25_2⟩ ⟨y25_1r, y25_2r⟩ ⟨my25_11, my25_12, ey25_2⟩
            obtain rfl : M = y25_1 := my25_11
            obtain rfl : N = y25_1r := my25_12
            obtain rfl : y25_2 = y25_2r := ey25_2
            exact rl_some ⟨rfl, rfl, rfl, rfl⟩
      · have dc1 := tl_nle tn_16 i1 c1
        exfalso
        omega
    · rintro ⟨y1_1, y1_2_1, y1_2_2⟩ ⟨y1_1r, y1_2_1r, y1_2_2r⟩ ⟨ey1_1, ey1_2_1, my1_2_21, my1_2_22⟩
      obtain rfl : y1_1 = y1_1r := ey1_1
      obtain rfl : y1_2_1 = y1_2_1r := ey1_2_1
      obtain rfl : M = y1_2_2 := my1_2_21
      obtain rfl : N = y1_2_2r := my1_2_22
      refine rl_bnd (Q := fun (y z : Int32) => y = z) ?_ ?_
      · refine rl_if (fun c4 => ?_) (fun c4 => ?_)
        · have dc4 := tl_le tn_0 (rfl : TI y1_1 y1_1.toInt) c4
          refine rl_bnd (Q := fun (y z : Int32) => y = z) ?_ ?_
          · refine rl_if (fun c5 => ?_) (fun c5 => ?_)
            · have dc5 := tl_le tn_0 (rfl : TI y1_2_1 y1_2_1.toInt) c5
              refine rl_ltA (fun x12 => ?_)
              refine rl_ltA (fun x13 => ?_)
              refine rl_ltA (fun x14 => ?_)
              exact rl_some rfl
            · have dc5 := tl_nle tn_0 (rfl : TI y1_2_1 y1_2_1.toInt) c5
              exact rl_some rfl
          · rintro y10 y10r ey10
            obtain rfl : y10 = y10r := ey10
            exact rl_some rfl
        · have dc4 := tl_nle tn_0 (rfl : TI y1_1 y1_1.toInt) c4
          exact rl_some rfl
      · rintro y2 y2r ey2
        obtain rfl : y2 = y2r := ey2
        refine rl_bnd (Q := fun (y z : Int32) => y = z ∧ (0 ≤ y.toInt ∧ y.toInt ≤ 3)) ?_ ?_
        · refine rl_if (fun c6 => ?_) (fun c6 => ?_)
          · have dc6 := tl_le tn_2 (rfl : TI y2 y2.toInt) c6
            refine rl_bnd (Q := fun (y z : Int32) => y = z ∧ (1 ≤ y.toInt ∧ y.toInt ≤ 3)) ?_ ?_
            · refine rl_if (fun c7 => ?_) (fun c7 => ?_)
              · have dc7 := tl_le tn_4 (rfl : TI y2 y2.toInt) c7
                refine rl_bnd (Q := fun (y z : Int32) => y = z ∧ (2 ≤ y.toInt ∧ y.toInt ≤ 3)) ?_ ?_
                · refine rl_if (fun c8 => ?_) (fun c8 => ?_)
                  · have dc8 := tl_le tn_8 (rfl : TI y2 y2.toInt) c8
                    exact rl_some ⟨rfl, (ti_bd tn_3 (by omega) (by omega))⟩
                  · have dc8 := tl_nle tn_8 (rfl : TI y2 y2.toInt) c8
                    exact rl_some ⟨rfl, (ti_bd tn_2 (by omega) (by omega))⟩
                · rintro y7 y7r ⟨ey7, ly7⟩
                  obtain rfl : y7 = y7r := ey7
                  have ly7 : 2 ≤ y7.toInt ∧ y7.toInt ≤ 3 := ly7
                  have iy7 : TI y7 y7.toInt := rfl
                  exact rl_some ⟨rfl, (ti_bd iy7 (by omega) (by omega))⟩
              · have dc7 := tl_nle tn_4 (rfl : TI y2 y2.toInt) c7
                exact rl_some ⟨rfl, (ti_bd tn_1 (by omega) (by omega))⟩
            · rintro y5 y5r ⟨ey5, ly5⟩
              obtain rfl : y5 = y5r := ey5
              have ly5 : 1 ≤ y5.toInt ∧ y5.toInt ≤ 3 := ly5
              have iy5 : TI y5 y5.toInt := rfl
              exact rl_some ⟨rfl, (ti_bd iy5 (by omega) (by omega))⟩
          · have dc6 := tl_nle tn_2 (rfl : TI y2 y2.toInt) c6
            exact rl_some ⟨rfl, (ti_bd tn_0 (by omega) (by omega))⟩
        · rintro y3 y3r ⟨ey3, ly3⟩
          obtain rfl : y3 = y3r := ey3
          have ly3 : 0 ≤ y3.toInt ∧ y3.toInt ≤ 3 := ly3
          have iy3 : TI y3 y3.toInt := rfl
          exact rl_some ⟨rfl, rfl, rfl⟩
  · refine rl_bnd (Q := fun (y z : Int32 × Int32 × DD) => y.1 = z.1 ∧ y.2.1 = z.2.1 ∧ M = y.2.2 ∧ N = z.2.2) ?_ ?_
    · refine rl_if (fun c1 => ?_) (fun c1 => ?_)
      · have dc1 := tl_le tn_16 i1 c1
        refine rl_ltI (av_mod i1 tn_2 (by omega) (by omega)) (fun x16 ix16 => ?_)
        refine rl_bnd (Q := fun (y z : Int32) => y = z ∧ (-1 ≤ y.toInt ∧ y.toInt ≤ -1)) ?_ ?_
        · refine rl_if (fun c2 => ?_) (fun c2 => ?_)
          · have dc2 := tl_eq ix16 tn_0 c2
            exact rl_some ⟨rfl, (ti_bd tn_m1 (by omega) (by omega))⟩
          · have dc2 := tl_ne ix16 tn_0 c2
            exfalso
            omega
        · rintro y17 y17r ⟨ey17, ly17⟩
          obtain rfl : y17 = y17r := ey17
          have ly17 : -1 ≤ y17.toInt ∧ y17.toInt ≤ -1 := ly17
          have iy17 : TI y17 (-1) := ti_c ly17
          refine rl_bnd (b_pieceAt t i0 iy17 tn_0 tn_16 (by omega) (by omega) (by omega) (by omega) (by omega) (by omega) (by omega) (by omega) hw hI) ?_
          rintro ⟨y18_1, y18_2⟩ ⟨y18_1r, y18_2r⟩ ⟨my18_11, my18_12, ey18_2, ly18_2⟩
          obtain rfl : M = y18_1 := my18_11
          obtain rfl : N = y18_1r := my18_12
          obtain rfl : y18_2 = y18_2r := ey18_2
          dsimp only at ly18_2
          have iy18_2 : TI y18_2 y18_2.toInt := rfl
          refine rl_ltI (show TI (p1 ^^^ ((1 : Int32))) 19 from by rw [ti_inj tn_18 i1]; rfl) (fun x19 ix19 => ?_)
          refine rl_bnd (b_totalAt t iy18_2 ix19 (by omega) (by omega) (by omega) (by omega) (by omega) hT) ?_
          rintro ⟨y20_1, y20_2⟩ ⟨y20_1r, y20_2r⟩ ⟨my20_11, my20_12, ey20_2⟩
          obtain rfl : M = y20_1 := my20_11
          obtain rfl : N = y20_1r := my20_12
          obtain rfl : y20_2 = y20_2r := ey20_2
          refine rl_ltI (av_mod i1 tn_4 (by omega) (by omega)) (fun x21 ix21 => ?_)
          refine rl_bnd (Q := fun (y z : Int32) => y = z ∧ (0 ≤ y.toInt ∧ y.toInt ≤ 0)) ?_ ?_
          · refine rl_if (fun c3 => ?_) (fun c3 => ?_)
            · have dc3 := tl_le tn_2 ix21 c3
              exact rl_some ⟨rfl, (ti_bd tn_0 (by omega) (by omega))⟩
            · have dc3 := tl_nle tn_2 ix21 c3
              exfalso
              omega
          · rintro y22 y22r ⟨ey22, ly22⟩
            obtain rfl : y22 = y22r := ey22
            have ly22 : 0 ≤ y22.toInt ∧ y22.toInt ≤ 0 := ly22
            have iy22 : TI y22 (0) := ti_c ly22
            refine rl_bnd (b_pieceAt t i0 tn_0 iy22 tn_16 (by omega) (by omega) (by omega) (by omega) (by omega) (by omega) (by omega) (by omega) hw hI) ?_
            rintro ⟨y23_1, y23_2⟩ ⟨y23_1r, y23_2r⟩ ⟨my23_11, my23_12, ey23_2, ly23_2⟩
            obtain rfl : M = y23_1 := my23_11
            obtain rfl : N = y23_1r := my23_12
            obtain rfl : y23_2 = y23_2r := ey23_2
            dsimp only at ly23_2
            have iy23_2 : TI y23_2 y23_2.toInt := rfl
            refine rl_ltI (show TI (p1 ^^^ ((2 : Int32))) 16 from by rw [ti_inj tn_18 i1]; rfl) (fun x24 ix24 => ?_)
            refine rl_bnd (b_totalAt t iy23_2 ix24 (by omega) (by omega) (by omega) (by omega) (by omega) hT) ?_
            rintro ⟨y25_1, y25_2⟩ ⟨y25_1r, y25_2r⟩ ⟨my25_11, my25_12, ey25_2⟩
            obtain rfl : M = y25_1 := my25_11
            obtain rfl : N = y25_1r := my25_12
            obtain rfl : y25_2 = y25_2r := ey25_2
            exact rl_some ⟨rfl, rfl, rfl, rfl⟩
      · have dc1 := tl_nle tn_16 i1 c1
        exfalso
        omega
    · rintro ⟨y1_1, y1_2_1, y1_2_2⟩ ⟨y1_1r, y1_2_1r, y1_2_2r⟩ ⟨ey1_1, ey1_2_1, my1_2_21, my1_2_22⟩
      obtain rfl : y1_1 = y1_1r := ey1_1
      obtain rfl : y1_2_1 = y1_2_1r := ey1_2_1
      obtain rfl : M = y1_2_2 := my1_2_21
      obtain rfl : N = y1_2_2r := my1_2_22
      refine rl_bnd (Q := fun (y z : Int32) => y = z) ?_ ?_
      · refine rl_if (fun c4 => ?_) (fun c4 => ?_)
        · have dc4 := tl_le tn_0 (rfl : TI y1_1 y1_1.toInt) c4
          refine rl_bnd (Q := fun (y z : Int32) => y = z) ?_ ?_
          · refine rl_if (fun c5 => ?_) (fun c5 => ?_)
            · have dc5 := tl_le tn_0 (rfl : TI y1_2_1 y1_2_1.toInt) c5
              refine rl_ltA (fun x12 => ?_)
              refine rl_ltA (fun x13 => ?_)
              refine rl_ltA (fun x14 => ?_)
              exact rl_some rfl
            · have dc5 := tl_nle tn_0 (rfl : TI y1_2_1 y1_2_1.toInt) c5
              exact rl_some rfl
          · rintro y10 y10r ey10
            obtain rfl : y10 = y10r := ey10
            exact rl_some rfl
        · have dc4 := tl_nle tn_0 (rfl : TI y1_1 y1_1.toInt) c4
          exact rl_some rfl
      · rintro y2 y2r ey2
        obtain rfl : y2 = y2r := ey2
        refine rl_bnd (Q := fun (y z : Int32) => y = z ∧ (0 ≤ y.toInt ∧ y.toInt ≤ 3)) ?_ ?_
        · refine rl_if (fun c6 => ?_) (fun c6 => ?_)
          · have dc6 := tl_le tn_2 (rfl : TI y2 y2.toInt) c6
            refine rl_bnd (Q := fun (y z : Int32) => y = z ∧ (1 ≤ y.toInt ∧ y.toInt ≤ 3)) ?_ ?_
            · refine rl_if (fun c7 => ?_) (fun c7 => ?_)
              · have dc7 := tl_le tn_4 (rfl : TI y2 y2.toInt) c7
                refine rl_bnd (Q := fun (y z : Int32) => y = z ∧ (2 ≤ y.toInt ∧ y.toInt ≤ 3)) ?_ ?_
                · refine rl_if (fun c8 => ?_) (fun c8 => ?_)
                  · have dc8 := tl_le tn_8 (rfl : TI y2 y2.toInt) c8
                    exact rl_some ⟨rfl, (ti_bd tn_3 (by omega) (by omega))⟩
                  · have dc8 := tl_nle tn_8 (rfl : TI y2 y2.toInt) c8
                    exact rl_some ⟨rfl, (ti_bd tn_2 (by omega) (by omega))⟩
                · rintro y7 y7r ⟨ey7, ly7⟩
                  obtain rfl : y7 = y7r := ey7
                  have ly7 : 2 ≤ y7.toInt ∧ y7.toInt ≤ 3 := ly7
                  have iy7 : TI y7 y7.toInt := rfl
                  exact rl_some ⟨rfl, (ti_bd iy7 (by omega) (by omega))⟩
              · have dc7 := tl_nle tn_4 (rfl : TI y2 y2.toInt) c7
                exact rl_some ⟨rfl, (ti_bd tn_1 (by omega) (by omega))⟩
            · rintro y5 y5r ⟨ey5, ly5⟩
              obtain rfl : y5 = y5r := ey5
              have ly5 : 1 ≤ y5.toInt ∧ y5.toInt ≤ 3 := ly5
              have iy5 : TI y5 y5.toInt := rfl
              exact rl_some ⟨rfl, (ti_bd iy5 (by omega) (by omega))⟩
          · have dc6 := tl_nle tn_2 (rfl : TI y2 y2.toInt) c6
            exact rl_some ⟨rfl, (ti_bd tn_0 (by omega) (by omega))⟩
        · rintro y3 y3r ⟨ey3, ly3⟩
          obtain rfl : y3 = y3r := ey3
          have ly3 : 0 ≤ y3.toInt ∧ y3.toInt ≤ 3 := ly3
          have iy3 : TI y3 y3.toInt := rfl
          exact rl_some ⟨rfl, rfl, rfl⟩
  · refine rl_bnd (Q := fun (y z : Int32 × Int32 × DD) => y.1 = z.1 ∧ y.2.1 = z.2.1 ∧ M = y.2.2 ∧ N = z.2.2) ?_ ?_
    · refine rl_if (fun c1 => ?_) (fun c1 => ?_)
      · have dc1 := tl_le tn_16 i1 c1
        refine rl_ltI (av_mod i1 tn_2 (by omega) (by omega)) (fun x16 ix16 => ?_)
        refine rl_bnd (Q := fun (y z : Int32) => y = z ∧ (0 ≤ y.toInt ∧ y.toInt ≤ 0)) ?_ ?_
        · refine rl_if (fun c2 => ?_) (fun c2 => ?_)
          · have dc2 := tl_eq ix16 tn_0 c2
            exfalso
            omega
          · exact rl_some ⟨rfl, (ti_bd tn_0 (by omega) (by omega))⟩
        · rintro y17 y17r ⟨ey17, ly17⟩
          obtain rfl : y17 = y17r := ey17
          have ly17 : 0 ≤ y17.toInt ∧ y17.toInt ≤ 0 := ly17
          have iy17 : TI y17 (0) := ti_c ly17
          refine rl_bnd (b_pieceAt t i0 iy17 tn_0 tn_16 (by omega) (by omega) (by omega) (by omega) (by omega) (by omega) (by omega) (by omega) hw hI) ?_
          rintro ⟨y18_1, y18_2⟩ ⟨y18_1r, y18_2r⟩ ⟨my18_11, my18_12, ey18_2, ly18_2⟩
          obtain rfl : M = y18_1 := my18_11
          obtain rfl : N = y18_1r := my18_12
          obtain rfl : y18_2 = y18_2r := ey18_2
          dsimp only at ly18_2
          have iy18_2 : TI y18_2 y18_2.toInt := rfl
          refine rl_ltI (show TI (p1 ^^^ ((1 : Int32))) 18 from by rw [ti_inj tn_19 i1]; rfl) (fun x19 ix19 => ?_)
          refine rl_bnd (b_totalAt t iy18_2 ix19 (by omega) (by omega) (by omega) (by omega) (by omega) hT) ?_
          rintro ⟨y20_1, y20_2⟩ ⟨y20_1r, y20_2r⟩ ⟨my20_11, my20_12, ey20_2⟩
          obtain rfl : M = y20_1 := my20_11
          obtain rfl : N = y20_1r := my20_12
          obtain rfl : y20_2 = y20_2r := ey20_2
          refine rl_ltI (av_mod i1 tn_4 (by omega) (by omega)) (fun x21 ix21 => ?_)
          refine rl_bnd (Q := fun (y z : Int32) => y = z ∧ (0 ≤ y.toInt ∧ y.toInt ≤ 0)) ?_ ?_
          · refine rl_if (fun c3 => ?_) (fun c3 => ?_)
            · have dc3 := tl_le tn_2 ix21 c3
              exact rl_some ⟨rfl, (ti_bd tn_0 (by omega) (by omega))⟩
            · have dc3 := tl_nle tn_2 ix21 c3
              exfalso
              omega
          · rintro y22 y22r ⟨ey22, ly22⟩
            obtain rfl : y22 = y22r := ey22
            have ly22 : 0 ≤ y22.toInt ∧ y22.toInt ≤ 0 := ly22
            have iy22 : TI y22 (0) := ti_c ly22
            refine rl_bnd (b_pieceAt t i0 tn_0 iy22 tn_16 (by omega) (by omega) (by omega) (by omega) (by omega) (by omega) (by omega) (by omega) hw hI) ?_
            rintro ⟨y23_1, y23_2⟩ ⟨y23_1r, y23_2r⟩ ⟨my23_11, my23_12, ey23_2, ly23_2⟩
            obtain rfl : M = y23_1 := my23_11
            obtain rfl : N = y23_1r := my23_12
            obtain rfl : y23_2 = y23_2r := ey23_2
            dsimp only at ly23_2
            have iy23_2 : TI y23_2 y23_2.toInt := rfl
            refine rl_ltI (show TI (p1 ^^^ ((2 : Int32))) 17 from by rw [ti_inj tn_19 i1]; rfl) (fun x24 ix24 => ?_)
            refine rl_bnd (b_totalAt t iy23_2 ix24 (by omega) (by omega) (by omega) (by omega) (by omega) hT) ?_
            rintro ⟨y25_1, y25_2⟩ ⟨y25_1r, y25_2r⟩ ⟨my25_11, my25_12, ey25_2⟩
            obtain rfl : M = y25_1 := my25_11
            obtain rfl : N = y25_1r := my25_12
            obtain rfl : y25_2 = y25_2r := ey25_2
            exact rl_some ⟨rfl, rfl, rfl, rfl⟩
      · have dc1 := tl_nle tn_16 i1 c1
        exfalso
        omega
    · rintro ⟨y1_1, y1_2_1, y1_2_2⟩ ⟨y1_1r, y1_2_1r, y1_2_2r⟩ ⟨ey1_1, ey1_2_1, my1_2_21, my1_2_22⟩
      obtain rfl : y1_1 = y1_1r := ey1_1
      obtain rfl : y1_2_1 = y1_2_1r := ey1_2_1
      obtain rfl : M = y1_2_2 := my1_2_21
      obtain rfl : N = y1_2_2r := my1_2_22
      refine rl_bnd (Q := fun (y z : Int32) => y = z) ?_ ?_
      · refine rl_if (fun c4 => ?_) (fun c4 => ?_)
        · have dc4 := tl_le tn_0 (rfl : TI y1_1 y1_1.toInt) c4
          refine rl_bnd (Q := fun (y z : Int32) => y = z) ?_ ?_
          · refine rl_if (fun c5 => ?_) (fun c5 => ?_)
            · have dc5 := tl_le tn_0 (rfl : TI y1_2_1 y1_2_1.toInt) c5
              refine rl_ltA (fun x12 => ?_)
              refine rl_ltA (fun x13 => ?_)
              refine rl_ltA (fun x14 => ?_)
              exact rl_some rfl
            · have dc5 := tl_nle tn_0 (rfl : TI y1_2_1 y1_2_1.toInt) c5
              exact rl_some rfl
          · rintro y10 y10r ey10
            obtain rfl : y10 = y10r := ey10
            exact rl_some rfl
        · have dc4 := tl_nle tn_0 (rfl : TI y1_1 y1_1.toInt) c4
          exact rl_some rfl
      · rintro y2 y2r ey2
        obtain rfl : y2 = y2r := ey2
        refine rl_bnd (Q := fun (y z : Int32) => y = z ∧ (0 ≤ y.toInt ∧ y.toInt ≤ 3)) ?_ ?_
        · refine rl_if (fun c6 => ?_) (fun c6 => ?_)
          · have dc6 := tl_le tn_2 (rfl : TI y2 y2.toInt) c6
            refine rl_bnd (Q := fun (y z : Int32) => y = z ∧ (1 ≤ y.toInt ∧ y.toInt ≤ 3)) ?_ ?_
            · refine rl_if (fun c7 => ?_) (fun c7 => ?_)
              · have dc7 := tl_le tn_4 (rfl : TI y2 y2.toInt) c7
                refine rl_bnd (Q := fun (y z : Int32) => y = z ∧ (2 ≤ y.toInt ∧ y.toInt ≤ 3)) ?_ ?_
                · refine rl_if (fun c8 => ?_) (fun c8 => ?_)
                  · have dc8 := tl_le tn_8 (rfl : TI y2 y2.toInt) c8
                    exact rl_some ⟨rfl, (ti_bd tn_3 (by omega) (by omega))⟩
                  · have dc8 := tl_nle tn_8 (rfl : TI y2 y2.toInt) c8
                    exact rl_some ⟨rfl, (ti_bd tn_2 (by omega) (by omega))⟩
                · rintro y7 y7r ⟨ey7, ly7⟩
                  obtain rfl : y7 = y7r := ey7
                  have ly7 : 2 ≤ y7.toInt ∧ y7.toInt ≤ 3 := ly7
                  have iy7 : TI y7 y7.toInt := rfl
                  exact rl_some ⟨rfl, (ti_bd iy7 (by omega) (by omega))⟩
              · have dc7 := tl_nle tn_4 (rfl : TI y2 y2.toInt) c7
                exact rl_some ⟨rfl, (ti_bd tn_1 (by omega) (by omega))⟩
            · rintro y5 y5r ⟨ey5, ly5⟩
              obtain rfl : y5 = y5r := ey5
              have ly5 : 1 ≤ y5.toInt ∧ y5.toInt ≤ 3 := ly5
              have iy5 : TI y5 y5.toInt := rfl
              exact rl_some ⟨rfl, (ti_bd iy5 (by omega) (by omega))⟩
          · have dc6 := tl_nle tn_2 (rfl : TI y2 y2.toInt) c6
            exact rl_some ⟨rfl, (ti_bd tn_0 (by omega) (by omega))⟩
        · rintro y3 y3r ⟨ey3, ly3⟩
          obtain rfl : y3 = y3r := ey3
          have ly3 : 0 ≤ y3.toInt ∧ y3.toInt ≤ 3 := ly3
          have iy3 : TI y3 y3.toInt := rfl
          exact rl_some ⟨rfl, rfl, rfl⟩
  · refine rl_bnd (Q := fun (y z : Int32 × Int32 × DD) => y.1 = z.1 ∧ y.2.1 = z.2.1 ∧ M = y.2.2 ∧ N = z.2.2) ?_ ?_
    · refine rl_if (fun c1 => ?_) (fun c1 => ?_)
      · have dc1 := tl_le tn_16 i1 c1
        refine rl_ltI (av_mod i1 tn_2 (by omega) (by omega)) (fun x16 ix16 => ?_)
        refine rl_bnd (Q := fun (y z : Int32) => y = z ∧ (-1 ≤ y.toInt ∧ y.toInt ≤ -1)) ?_ ?_
        · refine rl_if (fun c2 => ?_) (fun c2 => ?_)
          · have dc2 := tl_eq ix16 tn_0 c2
            exact rl_some ⟨rfl, (ti_bd tn_m1 (by omega) (by omega))⟩
          · have dc2 := tl_ne ix16 tn_0 c2
            exfalso
            omega
        · rintro y17 y17r ⟨ey17, ly17⟩
          obtain rfl : y17 = y17r := ey17
          have ly17 : -1 ≤ y17.toInt ∧ y17.toInt ≤ -1 := ly17
          have iy17 : TI y17 (-1) := ti_c ly17
          refine rl_bnd (b_pieceAt t i0 iy17 tn_0 tn_16 (by omega) (by omega) (by omega) (by omega) (by omega) (by omega) (by omega) (by omega) hw hI) ?_
          rintro ⟨y18_1, y18_2⟩ ⟨y18_1r, y18_2r⟩ ⟨my18_11, my18_12, ey18_2, ly18_2⟩
          obtain rfl : M = y18_1 := my18_11
          obtain rfl : N = y18_1r := my18_12
          obtain rfl : y18_2 = y18_2r := ey18_2
          dsimp only at ly18_2
          have iy18_2 : TI y18_2 y18_2.toInt := rfl
          refine rl_ltI (show TI (p1 ^^^ ((1 : Int32))) 21 from by rw [ti_inj tn_20 i1]; rfl) (fun x19 ix19 => ?_)
          refine rl_bnd (b_totalAt t iy18_2 ix19 (by omega) (by omega) (by omega) (by omega) (by omega) hT) ?_
          rintro ⟨y20_1, y20_2⟩ ⟨y20_1r, y20_2r⟩ ⟨my20_11, my20_12, ey20_2⟩
          obtain rfl : M = y20_1 := my20_11
          obtain rfl : N = y20_1r := my20_12
          obtain rfl : y20_2 = y20_2r := ey20_2
          refine rl_ltI (av_mod i1 tn_4 (by omega) (by omega)) (fun x21 ix21 => ?_)
          refine rl_bnd (Q := fun (y z : Int32) => y = z ∧ (-1 ≤ y.toInt ∧ y.toInt ≤ -1)) ?_ ?_
          · refine rl_if (fun c3 => ?_) (fun c3 => ?_)
            · have dc3 := tl_le tn_2 ix21 c3
              exfalso
              omega
            · have dc3 := tl_nle tn_2 ix21 c3
              exact rl_some ⟨rfl, (ti_bd tn_m1 (by omega) (by omega))⟩
          · rintro y22 y22r ⟨ey22, ly22⟩
            obtain rfl : y22 = y22r := ey22
            have ly22 : -1 ≤ y22.toInt ∧ y22.toInt ≤ -1 := ly22
            have iy22 : TI y22 (-1) := ti_c ly22
            refine rl_bnd (b_pieceAt t i0 tn_0 iy22 tn_16 (by omega) (by omega) (by omega) (by omega) (by omega) (by omega) (by omega) (by omega) hw hI) ?_
            rintro ⟨y23_1, y23_2⟩ ⟨y23_1r, y23_2r⟩ ⟨my23_11, my23_12, ey23_2, ly23_2⟩
            obtain rfl : M = y23_1 := my23_11
            obtain rfl : N = y23_1r := my23_12
            obtain rfl : y23_2 = y23_2r := ey23_2
            dsimp only at ly23_2
            have iy23_2 : TI y23_2 y23_2.toInt := rfl
            refine rl_ltI (show TI (p1 ^^^ ((2 : Int32))) 22 from by rw [ti_inj tn_20 i1]; rfl) (fun x24 ix24 => ?_)
            refine rl_bnd (b_totalAt t iy23_2 ix24 (by omega) (by omega) (by omega) (by omega) (by omega) hT) ?_
            rintro ⟨y25_1, y25_2⟩ ⟨y25_1r, y25_2r⟩ ⟨my25_11, my25_12, ey25_2⟩
            obtain rfl : M = y25_1 := my25_11
            obtain rfl : N = y25_1r := my25_12
            obtain rfl : y25_2 = y25_2r := ey25_2
            exact rl_some ⟨rfl, rfl, rfl, rfl⟩
      · have dc1 := tl_nle tn_16 i1 c1
        exfalso
        omega
    · rintro ⟨y1_1, y1_2_1, y1_2_2⟩ ⟨y1_1r, y1_2_1r, y1_2_2r⟩ ⟨ey1_1, ey1_2_1, my1_2_21, my1_2_22⟩
      obtain rfl : y1_1 = y1_1r := ey1_1
      obtain rfl : y1_2_1 = y1_2_1r := ey1_2_1
      obtain rfl : M = y1_2_2 := my1_2_21
      obtain rfl : N = y1_2_2r := my1_2_22
      refine rl_bnd (Q := fun (y z : Int32) => y = z) ?_ ?_
      · refine rl_if (fun c4 => ?_) (fun c4 => ?_)
        · have dc4 := tl_le tn_0 (rfl : TI y1_1 y1_1.toInt) c4
          refine rl_bnd (Q := fun (y z : Int32) => y = z) ?_ ?_
          · refine rl_if (fun c5 => ?_) (fun c5 => ?_)
            · have dc5 := tl_le tn_0 (rfl : TI y1_2_1 y1_2_1.toInt) c5
              refine rl_ltA (fun x12 => ?_)
              refine rl_ltA (fun x13 => ?_)
              refine rl_ltA (fun x14 => ?_)
              exact rl_some rfl
            · have dc5 := tl_nle tn_0 (rfl : TI y1_2_1 y1_2_1.toInt) c5
              exact rl_some rfl
          · rintro y10 y10r ey10
            obtain rfl : y10 = y10r := ey10
            exact rl_some rfl
        · have dc4 := tl_nle tn_0 (rfl : TI y1_1 y1_1.toInt) c4
          exact rl_some rfl
      · rintro y2 y2r ey2
        obtain rfl : y2 = y2r := ey2
        refine rl_bnd (Q := fun (y z : Int32) => y = z ∧ (0 ≤ y.toInt ∧ y.toInt ≤ 3)) ?_ ?_
        · refine rl_if (fun c6 => ?_) (fun c6 => ?_)
          · have dc6 := tl_le tn_2 (rfl : TI y2 y2.toInt) c6
            refine rl_bnd (Q := fun (y z : Int32) => y = z ∧ (1 ≤ y.toInt ∧ y.toInt ≤ 3)) ?_ ?_
            · refine rl_if (fun c7 => ?_) (fun c7 => ?_)
              · have dc7 := tl_le tn_4 (rfl : TI y2 y2.toInt) c7
                refine rl_bnd (Q := fun (y z : Int32) => y = z ∧ (2 ≤ y.toInt ∧ y.toInt ≤ 3)) ?_ ?_
                · refine rl_if (fun c8 => ?_) (fun c8 => ?_)
                  · have dc8 := tl_le tn_8 (rfl : TI y2 y2.toInt) c8
                    exact rl_some ⟨rfl, (ti_bd tn_3 (by omega) (by omega))⟩
                  · have dc8 := tl_nle tn_8 (rfl : TI y2 y2.toInt) c8
                    exact rl_some ⟨rfl, (ti_bd tn_2 (by omega) (by omega))⟩
                · rintro y7 y7r ⟨ey7, ly7⟩
                  obtain rfl : y7 = y7r := ey7
                  have ly7 : 2 ≤ y7.toInt ∧ y7.toInt ≤ 3 := ly7
                  have iy7 : TI y7 y7.toInt := rfl
                  exact rl_some ⟨rfl, (ti_bd iy7 (by omega) (by omega))⟩
              · have dc7 := tl_nle tn_4 (rfl : TI y2 y2.toInt) c7
                exact rl_some ⟨rfl, (ti_bd tn_1 (by omega) (by omega))⟩
            · rintro y5 y5r ⟨ey5, ly5⟩
              obtain rfl : y5 = y5r := ey5
              have ly5 : 1 ≤ y5.toInt ∧ y5.toInt ≤ 3 := ly5
              have iy5 : TI y5 y5.toInt := rfl
              exact rl_some ⟨rfl, (ti_bd iy5 (by omega) (by omega))⟩
          · have dc6 := tl_nle tn_2 (rfl : TI y2 y2.toInt) c6
            exact rl_some ⟨rfl, (ti_bd tn_0 (by omega) (by omega))⟩
        · rintro y3 y3r ⟨ey3, ly3⟩
          obtain rfl : y3 = y3r := ey3
          have ly3 : 0 ≤ y3.toInt ∧ y3.toInt ≤ 3 := ly3
          have iy3 : TI y3 y3.toInt := rfl
          exact rl_some ⟨rfl, rfl, rfl⟩
  · refine rl_bnd (Q := fun (y z : Int32 × Int32 × DD) => y.1 = z.1 ∧ y.2.1 = z.2.1 ∧ M = y.2.2 ∧ N = z.2.2) ?_ ?_
    · refine rl_if (fun c1 => ?_) (fun c1 => ?_)
      · have dc1 := tl_le tn_16 i1 c1
        refine rl_ltI (av_mod i1 tn_2 (by omega) (by omega)) (fun x16 ix16 => ?_)
        refine rl_bnd (Q := fun (y z : Int32) => y = z ∧ (0 ≤ y.toInt ∧ y.toInt ≤ 0)) ?_ ?_
        · refine rl_if (fun c2 => ?_) (fun c2 => ?_)
          · have dc2 := tl_eq ix16 tn_0 c2
            exfalso
            omega
          · exact rl_some ⟨rfl, (ti_bd tn_0 (by omega) (by omega))⟩
        · rintro y17 y17r ⟨ey17, ly17⟩
          obtain rfl : y17 = y17r := ey17
          have ly17 : 0 ≤ y17.toInt ∧ y17.toInt ≤ 0 := ly17
          have iy17 : TI y17 (0) := ti_c ly17
          refine rl_bnd (b_pieceAt t i0 iy17 tn_0 tn_16 (by omega) (by omega) (by omega) (by omega) (by omega) (by omega) (by omega) (by omega) hw hI) ?_
          rintro ⟨y18_1, y18_2⟩ ⟨y18_1r, y18_2r⟩ ⟨my18_11, my18_12, ey18_2, ly18_2⟩
          obtain rfl : M = y18_1 := my18_11
          obtain rfl : N = y18_1r := my18_12
          obtain rfl : y18_2 = y18_2r := ey18_2
          dsimp only at ly18_2
          have iy18_2 : TI y18_2 y18_2.toInt := rfl
          refine rl_ltI (show TI (p1 ^^^ ((1 : Int32))) 20 from by rw [ti_inj tn_21 i1]; rfl) (fun x19 ix19 => ?_)
          refine rl_bnd (b_totalAt t iy18_2 ix19 (by omega) (by omega) (by omega) (by omega) (by omega) hT) ?_
          rintro ⟨y20_1, y20_2⟩ ⟨y20_1r, y20_2r⟩ ⟨my20_11, my20_12, ey20_2⟩
          obtain rfl : M = y20_1 := my20_11
          obtain rfl : N = y20_1r := my20_12
          obtain rfl : y20_2 = y20_2r := ey20_2
          refine rl_ltI (av_mod i1 tn_4 (by omega) (by omega)) (fun x21 ix21 => ?_)
          refine rl_bnd (Q := fun (y z : Int32) => y = z ∧ (-1 ≤ y.toInt ∧ y.toInt ≤ -1)) ?_ ?_
          · refine rl_if (fun c3 => ?_) (fun c3 => ?_)
            · have dc3 := tl_le tn_2 ix21 c3
              exfalso
              omega
            · have dc3 := tl_nle tn_2 ix21 c3
              exact rl_some ⟨rfl, (ti_bd tn_m1 (by omega) (by omega))⟩
          · rintro y22 y22r ⟨ey22, ly22⟩
            obtain rfl : y22 = y22r := ey22
            have ly22 : -1 ≤ y22.toInt ∧ y22.toInt ≤ -1 := ly22
            have iy22 : TI y22 (-1) := ti_c ly22
            refine rl_bnd (b_pieceAt t i0 tn_0 iy22 tn_16 (by omega) (by omega) (by omega) (by omega) (by omega) (by omega) (by omega) (by omega) hw hI) ?_
            rintro ⟨y23_1, y23_2⟩ ⟨y23_1r, y23_2r⟩ ⟨my23_11, my23_12, ey23_2, ly23_2⟩
            obtain rfl : M = y23_1 := my23_11
            obtain rfl : N = y23_1r := my23_12
            obtain rfl : y23_2 = y23_2r := ey23_2
            dsimp only at ly23_2
            have iy23_2 : TI y23_2 y23_2.toInt := rfl
            refine rl_ltI (show TI (p1 ^^^ ((2 : Int32))) 23 from by rw [ti_inj tn_21 i1]; rfl) (fun x24 ix24 => ?_)
            refine rl_bnd (b_totalAt t iy23_2 ix24 (by omega) (by omega) (by omega) (by omega) (by omega) hT) ?_
            rintro ⟨y25_1, y25_2⟩ ⟨y25_1r, y25_2r⟩ ⟨my25_11, my25_12, ey25_2⟩
            obtain rfl : M = y25_1 := my25_11
            obtain rfl : N = y25_1r := my25_12
            obtain rfl : y25_2 = y25_2r := ey25_2
            exact rl_some ⟨rfl, rfl, rfl, rfl⟩
      · have dc1 := tl_nle tn_16 i1 c1
        exfalso
        omega
    · rintro ⟨y1_1, y1_2_1, y1_2_2⟩ ⟨y1_1r, y1_2_1r, y1_2_2r⟩ ⟨ey1_1, ey1_2_1, my1_2_21, my1_2_22⟩
      obtain rfl : y1_1 = y1_1r := ey1_1
      obtain rfl : y1_2_1 = y1_2_1r := ey1_2_1
      obtain rfl : M = y1_2_2 := my1_2_21
      obtain rfl : N = y1_2_2r := my1_2_22
      refine rl_bnd (Q := fun (y z : Int32) => y = z) ?_ ?_
      · refine rl_if (fun c4 => ?_) (fun c4 => ?_)
        · have dc4 := tl_le tn_0 (rfl : TI y1_1 y1_1.toInt) c4
          refine rl_bnd (Q := fun (y z : Int32) => y = z) ?_ ?_
          · refine rl_if (fun c5 => ?_) (fun c5 => ?_)
            · have dc5 := tl_le tn_0 (rfl : TI y1_2_1 y1_2_1.toInt) c5
              refine rl_ltA (fun x12 => ?_)
              refine rl_ltA (fun x13 => ?_)
              refine rl_ltA (fun x14 => ?_)
              exact rl_some rfl
            · have dc5 := tl_nle tn_0 (rfl : TI y1_2_1 y1_2_1.toInt) c5
              exact rl_some rfl
          · rintro y10 y10r ey10
            obtain rfl : y10 = y10r := ey10
            exact rl_some rfl
        · have dc4 := tl_nle tn_0 (rfl : TI y1_1 y1_1.toInt) c4
          exact rl_some rfl
      · rintro y2 y2r ey2
        obtain rfl : y2 = y2r := ey2
        refine rl_bnd (Q := fun (y z : Int32) => y = z ∧ (0 ≤ y.toInt ∧ y.toInt ≤ 3)) ?_ ?_
        · refine rl_if (fun c6 => ?_) (fun c6 => ?_)
          · have dc6 := tl_le tn_2 (rfl : TI y2 y2.toInt) c6
            refine rl_bnd (Q := fun (y z : Int32) => y = z ∧ (1 ≤ y.toInt ∧ y.toInt ≤ 3)) ?_ ?_
            · refine rl_if (fun c7 => ?_) (fun c7 => ?_)
              · have dc7 := tl_le tn_4 (rfl : TI y2 y2.toInt) c7
                refine rl_bnd (Q := fun (y z : Int32) => y = z ∧ (2 ≤ y.toInt ∧ y.toInt ≤ 3)) ?_ ?_
                · refine rl_if (fun c8 => ?_) (fun c8 => ?_)
                  · have dc8 := tl_le tn_8 (rfl : TI y2 y2.toInt) c8
                    exact rl_some ⟨rfl, (ti_bd tn_3 (by omega) (by omega))⟩
                  · have dc8 := tl_nle tn_8 (rfl : TI y2 y2.toInt) c8
                    exact rl_some ⟨rfl, (ti_bd tn_2 (by omega) (by omega))⟩
                · rintro y7 y7r ⟨ey7, ly7⟩
                  obtain rfl : y7 = y7r := ey7
                  have ly7 : 2 ≤ y7.toInt ∧ y7.toInt ≤ 3 := ly7
                  have iy7 : TI y7 y7.toInt := rfl
                  exact rl_some ⟨rfl, (ti_bd iy7 (by omega) (by omega))⟩
              · have dc7 := tl_nle tn_4 (rfl : TI y2 y2.toInt) c7
                exact rl_some ⟨rfl, (ti_bd tn_1 (by omega) (by omega))⟩
            · rintro y5 y5r ⟨ey5, ly5⟩
              obtain rfl : y5 = y5r := ey5
              have ly5 : 1 ≤ y5.toInt ∧ y5.toInt ≤ 3 := ly5
              have iy5 : TI y5 y5.toInt := rfl
              exact rl_some ⟨rfl, (ti_bd iy5 (by omega) (by omega))⟩
          · have dc6 := tl_nle tn_2 (rfl : TI y2 y2.toInt) c6
            exact rl_some ⟨rfl, (ti_bd tn_0 (by omega) (by omega))⟩
        · rintro y3 y3r ⟨ey3, ly3⟩
          obtain rfl : y3 = y3r := ey3
          have ly3 : 0 ≤ y3.toInt ∧ y3.toInt ≤ 3 := ly3
          have iy3 : TI y3 y3.toInt := rfl
          exact rl_some ⟨rfl, rfl, rfl⟩
  · refine rl_bnd (Q := fun (y z : Int32 × Int32 × DD) => y.1 = z.1 ∧ y.2.1 = z.2.1 ∧ M = y.2.2 ∧ N = z.2.2) ?_ ?_
    · refine rl_if (fun c1 => ?_) (fun c1 => ?_)
      · have dc1 := tl_le tn_16 i1 c1
        refine rl_ltI (av_mod i1 tn_2 (by omega) (by omega)) (fun x16 ix16 => ?_)
        refine rl_bnd (Q := fun (y z : Int32) => y = z ∧ (-1 ≤ y.toInt ∧ y.toInt ≤ -1)) ?_ ?_
        · refine rl_if (fun c2 => ?_) (fun c2 => ?_)
          · have dc2 := tl_eq ix16 tn_0 c2
            exact rl_some ⟨rfl, (ti_bd tn_m1 (by omega) (by omega))⟩
          · have dc2 := tl_ne ix16 tn_0 c2
            exfalso
            omega
        · rintro y17 y17r ⟨ey17, ly17⟩
          obtain rfl : y17 = y17r := ey17
          have ly17 : -1 ≤ y17.toInt ∧ y17.toInt ≤ -1 := ly17
          have iy17 : TI y17 (-1) := ti_c ly17
          refine rl_bnd (b_pieceAt t i0 iy17 tn_0 tn_16 (by omega) (by omega) (by omega) (by omega) (by omega) (by omega) (by omega) (by omega) hw hI) ?_
          rintro ⟨y18_1, y18_2⟩ ⟨y18_1r, y18_2r⟩ ⟨my18_11, my18_12, ey18_2, ly18_2⟩
          obtain rfl : M = y18_1 := my18_11
          obtain rfl : N = y18_1r := my18_12
          obtain rfl : y18_2 = y18_2r := ey18_2
          dsimp only at ly18_2
          have iy18_2 : TI y18_2 y18_2.toInt := rfl
          refine rl_ltI (show TI (p1 ^^^ ((1 : Int32))) 23 from by rw [ti_inj tn_22 i1]; rfl) (fun x19 ix19 => ?_)
          refine rl_bnd (b_totalAt t iy18_2 ix19 (by omega) (by omega) (by omega) (by omega) (by omega) hT) ?_
          rintro ⟨y20_1, y20_2⟩ ⟨y20_1r, y20_2r⟩ ⟨my20_11, my20_12, ey20_2⟩
          obtain rfl : M = y20_1 := my20_11
          obtain rfl : N = y20_1r := my20_12
          obtain rfl : y20_2 = y20_2r := ey20_2
          refine rl_ltI (av_mod i1 tn_4 (by omega) (by omega)) (fun x21 ix21 => ?_)
          refine rl_bnd (Q := fun (y z : Int32) => y = z ∧ (0 ≤ y.toInt ∧ y.toInt ≤ 0)) ?_ ?_
          · refine rl_if (fun c3 => ?_) (fun c3 => ?_)
            · have dc3 := tl_le tn_2 ix21 c3
              exact rl_some ⟨rfl, (ti_bd tn_0 (by omega) (by omega))⟩
            · have dc3 := tl_nle tn_2 ix21 c3
              exfalso
              omega
          · rintro y22 y22r ⟨ey22, ly22⟩
            obtain rfl : y22 = y22r := ey22
            have ly22 : 0 ≤ y22.toInt ∧ y22.toInt ≤ 0 := ly22
            have iy22 : TI y22 (0) := ti_c ly22
            refine rl_bnd (b_pieceAt t i0 tn_0 iy22 tn_16 (by omega) (by omega) (by omega) (by omega) (by omega) (by omega) (by omega) (by omega) hw hI) ?_
            rintro ⟨y23_1, y23_2⟩ ⟨y23_1r, y23_2r⟩ ⟨my23_11, my23_12, ey23_2, ly23_2⟩
            obtain rfl : M = y23_1 := my23_11
            obtain rfl : N = y23_1r := my23_12
            obtain rfl : y23_2 = y23_2r := ey23_2
            dsimp only at ly23_2
            have iy23_2 : TI y23_2 y23_2.toInt := rfl
            refine rl_ltI (show TI (p1 ^^^ ((2 : Int32))) 20 from by rw [ti_inj tn_22 i1]; rfl) (fun x24 ix24 => ?_)
            refine rl_bnd (b_totalAt t iy23_2 ix24 (by omega) (by omega) (by omega) (by omega) (by omega) hT) ?_
            rintro ⟨y25_1, y25_2⟩ ⟨y25_1r, y25_2r⟩ ⟨my25_11, my25_12, ey25_2⟩
            obtain rfl : M = y25_1 := my25_11
            obtain rfl : N = y25_1r := my25_12
            obtain rfl : y25_2 = y25_2r := ey25_2
            exact rl_some ⟨rfl, rfl, rfl, rfl⟩
      · have dc1 := tl_nle tn_16 i1 c1
        exfalso
        omega
    · rintro ⟨y1_1, y1_2_1, y1_2_2⟩ ⟨y1_1r, y1_2_1r, y1_2_2r⟩ ⟨ey1_1, ey1_2_1, my1_2_21, my1_2_22⟩
      obtain rfl : y1_1 = y1_1r := ey1_1
      obtain rfl : y1_2_1 = y1_2_1r := ey1_2_1
      obtain rfl : M = y1_2_2 := my1_2_21
      obtain rfl : N = y1_2_2r := my1_2_22
      refine rl_bnd (Q := fun (y z : Int32) => y = z) ?_ ?_
      · refine rl_if (fun c4 => ?_) (fun c4 => ?_)
        · have dc4 := tl_le tn_0 (rfl : TI y1_1 y1_1.toInt) c4
          refine rl_bnd (Q := fun (y z : Int32) => y = z) ?_ ?_
          · refine rl_if (fun c5 => ?_) (fun c5 => ?_)
            · have dc5 := tl_le tn_0 (rfl : TI y1_2_1 y1_2_1.toInt) c5
              refine rl_ltA (fun x12 => ?_)
              refine rl_ltA (fun x13 => ?_)
              refine rl_ltA (fun x14 => ?_)
              exact rl_some rfl
            · have dc5 := tl_nle tn_0 (rfl : TI y1_2_1 y1_2_1.toInt) c5
              exact rl_some rfl
          · rintro y10 y10r ey10
            obtain rfl : y10 = y10r := ey10
            exact rl_some rfl
        · have dc4 := tl_nle tn_0 (rfl : TI y1_1 y1_1.toInt) c4
          exact rl_some rfl
      · rintro y2 y2r ey2
        obtain rfl : y2 = y2r := ey2
        refine rl_bnd (Q := fun (y z : Int32) => y = z ∧ (0 ≤ y.toInt ∧ y.toInt ≤ 3)) ?_ ?_
        · refine rl_if (fun c6 => ?_) (fun c6 => ?_)
          · have dc6 := tl_le tn_2 (rfl : TI y2 y2.toInt) c6
            refine rl_bnd (Q := fun (y z : Int32) => y = z ∧ (1 ≤ y.toInt ∧ y.toInt ≤ 3)) ?_ ?_
            · refine rl_if (fun c7 => ?_) (fun c7 => ?_)
              · have dc7 := tl_le tn_4 (rfl : TI y2 y2.toInt) c7
                refine rl_bnd (Q := fun (y z : Int32) => y = z ∧ (2 ≤ y.toInt ∧ y.toInt ≤ 3)) ?_ ?_
                · refine rl_if (fun c8 => ?_) (fun c8 => ?_)
                  · have dc8 := tl_le tn_8 (rfl : TI y2 y2.toInt) c8
                    exact rl_some ⟨rfl, (ti_bd tn_3 (by omega) (by omega))⟩
                  · have dc8 := tl_nle tn_8 (rfl : TI y2 y2.toInt) c8
                    exact rl_some ⟨rfl, (ti_bd tn_2 (by omega) (by omega))⟩
                · rintro y7 y7r ⟨ey7, ly7⟩
                  obtain rfl : y7 = y7r := ey7
                  have ly7 : 2 ≤ y7.toInt ∧ y7.toInt ≤ 3 := ly7
                  have iy7 : TI y7 y7.toInt := rfl
                  exact rl_some ⟨rfl, (ti_bd iy7 (by omega) (by omega))⟩
              · have dc7 := tl_nle tn_4 (rfl : TI y2 y2.toInt) c7
                exact rl_some ⟨rfl, (ti_bd tn_1 (by omega) (by omega))⟩
            · rintro y5 y5r ⟨ey5, ly5⟩
              obtain rfl : y5 = y5r := ey5
              have ly5 : 1 ≤ y5.toInt ∧ y5.toInt ≤ 3 := ly5
              have iy5 : TI y5 y5.toInt := rfl
              exact rl_some ⟨rfl, (ti_bd iy5 (by omega) (by omega))⟩
          · have dc6 := tl_nle tn_2 (rfl : TI y2 y2.toInt) c6
            exact rl_some ⟨rfl, (ti_bd tn_0 (by omega) (by omega))⟩
        · rintro y3 y3r ⟨ey3, ly3⟩
          obtain rfl : y3 = y3r := ey3
          have ly3 : 0 ≤ y3.toInt ∧ y3.toInt ≤ 3 := ly3
          have iy3 : TI y3 y3.toInt := rfl
          exact rl_some ⟨rfl, rfl, rfl⟩
  · refine rl_bnd (Q := fun (y z : Int32 × Int32 × DD) => y.1 = z.1 ∧ y.2.1 = z.2.1 ∧ M = y.2.2 ∧ N = z.2.2) ?_ ?_
    · refine rl_if (fun c1 => ?_) (fun c1 => ?_)
      · have dc1 := tl_le tn_16 i1 c1
        refine rl_ltI (av_mod i1 tn_2 (by omega) (by omega)) (fun x16 ix16 => ?_)
        refine rl_bnd (Q := fun (y z : Int32) => y = z ∧ (0 ≤ y.toInt ∧ y.toInt ≤ 0)) ?_ ?_
        · refine rl_if (fun c2 => ?_) (fun c2 => ?_)
          · have dc2 := tl_eq ix16 tn_0 c2
            exfalso
            omega
          · exact rl_some ⟨rfl, (ti_bd tn_0 (by omega) (by omega))⟩
        · rintro y17 y17r ⟨ey17, ly17⟩
          obtain rfl : y17 = y17r := ey17
          have ly17 : 0 ≤ y17.toInt ∧ y17.toInt ≤ 0 := ly17
          have iy17 : TI y17 (0) := ti_c ly17
          refine rl_bnd (b_pieceAt t i0 iy17 tn_0 tn_16 (by omega) (by omega) (by omega) (by omega) (by omega) (by omega) (by omega) (by omega) hw hI) ?_
          rintro ⟨y18_1, y18_2⟩ ⟨y18_1r, y18_2r⟩ ⟨my18_11, my18_12, ey18_2, ly18_2⟩
          obtain rfl : M = y18_1 := my18_11
          obtain rfl : N = y18_1r := my18_12
          obtain rfl : y18_2 = y18_2r := ey18_2
          dsimp only at ly18_2
          have iy18_2 : TI y18_2 y18_2.toInt := rfl
          refine rl_ltI (show TI (p1 ^^^ ((1 : Int32))) 22 from by rw [ti_inj tn_23 i1]; rfl) (fun x19 ix19 => ?_)
          refine rl_bnd (b_totalAt t iy18_2 ix19 (by omega) (by omega) (by omega) (by omega) (by omega) hT) ?_
          rintro ⟨y20_1, y20_2⟩ ⟨y20_1r, y20_2r⟩ ⟨my20_11, my20_12, ey20_2⟩
          obtain rfl : M = y20_1 := my20_11
          obtain rfl : N = y20_1r := my20_12
          obtain rfl : y20_2 = y20_2r := ey20_2
          refine rl_ltI (av_mod i1 tn_4 (by omega) (by omega)) (fun x21 ix21 => ?_)
          refine rl_bnd (Q := fun (y z : Int32) => y = z ∧ (0 ≤ y.toInt ∧ y.toInt ≤ 0)) ?_ ?_
          · refine rl_if (fun c3 => ?_) (fun c3 => ?_)
            · have dc3 := tl_le tn_2 ix21 c3
              exact rl_some ⟨rfl, (ti_bd tn_0 (by omega) (by omega))⟩
            · have dc3 := tl_nle tn_2 ix21 c3
              exfalso
              omega
          · rintro y22 y22r ⟨ey22, ly22⟩
            obtain rfl : y22 = y22r := ey22
            have ly22 : 0 ≤ y22.toInt ∧ y22.toInt ≤ 0 := ly22
            have iy22 : TI y22 (0) := ti_c ly22
            refine rl_bnd (b_pieceAt t i0 tn_0 iy22 tn_16 (by omega) (by omega) (by omega) (by omega) (by omega) (by omega) (by omega) (by omega) hw hI) ?_
            rintro ⟨y23_1, y23_2⟩ ⟨y23_1r, y23_2r⟩ ⟨my23_11, my23_12, ey23_2, ly23_2⟩
            obtain rfl : M = y23_1 := my23_11
            obtain rfl : N = y23_1r := my23_12
            obtain rfl : y23_2 = y23_2r := ey23_2
            dsimp only at ly23_2
            have iy23_2 : TI y23_2 y23_2.toInt := rfl
            refine rl_ltI (show TI (p1 ^^^ ((2 : Int32))) 21 from by rw [ti_inj tn_23 i1]; rfl) (fun x24 ix24 => ?_)
            refine rl_bnd (b_totalAt t iy23_2 ix24 (by omega) (by omega) (by omega) (by omega) (by omega) hT) ?_
            rintro ⟨y25_1, y25_2⟩ ⟨y25_1r, y25_2r⟩ ⟨my25_11, my25_12, ey25_2⟩
            obtain rfl : M = y25_1 := my25_11
            obtain rfl : N = y25_1r := my25_12
            obtain rfl : y25_2 = y25_2r := ey25_2
            exact rl_some ⟨rfl, rfl, rfl, rfl⟩
      · have dc1 := tl_nle tn_16 i1 c1
        exfalso
        omega
    · rintro ⟨y1_1, y1_2_1, y1_2_2⟩ ⟨y1_1r, y1_2_1r, y1_2_2r⟩ ⟨ey1_1, ey1_2_1, my1_2_21, my1_2_22⟩
      obtain rfl : y1_1 = y1_1r := ey1_1
      obtain rfl : y1_2_1 = y1_2_1r := ey1_2_1
      obtain rfl : M = y1_2_2 := my1_2_21
      obtain rfl : N = y1_2_2r := my1_2_22
      refine rl_bnd (Q := fun (y z : Int32) => y = z) ?_ ?_
      · refine rl_if (fun c4 => ?_) (fun c4 => ?_)
        · have dc4 := tl_le tn_0 (rfl : TI y1_1 y1_1.toInt) c4
          refine rl_bnd (Q := fun (y z : Int32) => y = z) ?_ ?_
          · refine rl_if (fun c5 => ?_) (fun c5 => ?_)
            · have dc5 := tl_le tn_0 (rfl : TI y1_2_1 y1_2_1.toInt) c5
              refine rl_ltA (fun x12 => ?_)
              refine rl_ltA (fun x13 => ?_)
              refine rl_ltA (fun x14 => ?_)
              exact rl_some rfl
            · have dc5 := tl_nle tn_0 (rfl : TI y1_2_1 y1_2_1.toInt) c5
              exact rl_some rfl
          · rintro y10 y10r ey10
            obtain rfl : y10 = y10r := ey10
            exact rl_some rfl
        · have dc4 := tl_nle tn_0 (rfl : TI y1_1 y1_1.toInt) c4
          exact rl_some rfl
      · rintro y2 y2r ey2
        obtain rfl : y2 = y2r := ey2
        refine rl_bnd (Q := fun (y z : Int32) => y = z ∧ (0 ≤ y.toInt ∧ y.toInt ≤ 3)) ?_ ?_
        · refine rl_if (fun c6 => ?_) (fun c6 => ?_)
          · have dc6 := tl_le tn_2 (rfl : TI y2 y2.toInt) c6
            refine rl_bnd (Q := fun (y z : Int32) => y = z ∧ (1 ≤ y.toInt ∧ y.toInt ≤ 3)) ?_ ?_
            · refine rl_if (fun c7 => ?_) (fun c7 => ?_)
              · have dc7 := tl_le tn_4 (rfl : TI y2 y2.toInt) c7
                refine rl_bnd (Q := fun (y z : Int32) => y = z ∧ (2 ≤ y.toInt ∧ y.toInt ≤ 3)) ?_ ?_
                · refine rl_if (fun c8 => ?_) (fun c8 => ?_)
                  · have dc8 := tl_le tn_8 (rfl : TI y2 y2.toInt) c8
                    exact rl_some ⟨rfl, (ti_bd tn_3 (by omega) (by omega))⟩
                  · have dc8 := tl_nle tn_8 (rfl : TI y2 y2.toInt) c8
                    exact rl_some ⟨rfl, (ti_bd tn_2 (by omega) (by omega))⟩
                · rintro y7 y7r ⟨ey7, ly7⟩
                  obtain rfl : y7 = y7r := ey7
                  have ly7 : 2 ≤ y7.toInt ∧ y7.toInt ≤ 3 := ly7
                  have iy7 : TI y7 y7.toInt := rfl
                  exact rl_some ⟨rfl, (ti_bd iy7 (by omega) (by omega))⟩
              · have dc7 := tl_nle tn_4 (rfl : TI y2 y2.toInt) c7
                exact rl_some ⟨rfl, (ti_bd tn_1 (by omega) (by omega))⟩
            · rintro y5 y5r ⟨ey5, ly5⟩
              obtain rfl : y5 = y5r := ey5
              have ly5 : 1 ≤ y5.toInt ∧ y5.toInt ≤ 3 := ly5
              have iy5 : TI y5 y5.toInt := rfl
              exact rl_some ⟨rfl, (ti_bd iy5 (by omega) (by omega))⟩
          · have dc6 := tl_nle tn_2 (rfl : TI y2 y2.toInt) c6
            exact rl_some ⟨rfl, (ti_bd tn_0 (by omega) (by omega))⟩
        · rintro y3 y3r ⟨ey3, ly3⟩
          obtain rfl : y3 = y3r := ey3
          have ly3 : 0 ≤ y3.toInt ∧ y3.toInt ≤ 3 := ly3
          have iy3 : TI y3 y3.toInt := rfl
          exact rl_some ⟨rfl, rfl, rfl⟩
theorem b_guess {mu : Nat → Nat} {G H : GG} {M N : DD} {p : Nat} {L : List Nat} (t : BX mu G H M N p L) {p0 : Int32} {a0 : Int} (i0 : TI p0 a0) {p1 : Int32} {a1 : Int} (i1 : TI p1 a1) {p2 : Int32} {p3 : Int32} {a3 : Int} (i3 : TI p3 a3) {p4 : Int32} {a4 : Int} (i4 : TI p4 a4) {p5 : Int32} (h0 : 0 ≤ a0) (h1 : a0 ≤ 3) (h2 : 0 ≤ a1) (h3 : a1 ≤ 1) (h4 : 0 ≤ a3) (h5 : a3 ≤ 15) (h6 : 0 ≤ a4) (h7 : a4 ≤ 16) (hw : (M.1 p 1).toInt = 1 ∨ (M.1 p 1).toInt = 2) (hI : FG mu M N 129 (CI a0)) (hR : FG mu M N (p + 6) (CRo a0 a3)) (hV : FG mu M N (p + 8) (CVo a0 a3)) : LKS (FX9_guess G M 125 p0 p1 p2 p3 p4 p5) (FX9_guess H N (mu 125) p0 p1 p2 p3 p4 p5) (fun y z => Up mu p M N y z ∧ Ag mu y z 125 18 ∧ Ag mu y z 125 19) := by
  unfold FX9_guess
  refine rl_bnd (b_pieceX t i3 (by omega) (by omega)) ?_
  rintro ⟨y1_1, y1_2⟩ ⟨y1_1r, y1_2r⟩ ⟨my1_11, my1_12, ey1_2, iy1_2⟩
  obtain rfl : M = y1_1 := my1_11
  obtain rfl : N = y1_1r := my1_12
  obtain rfl : y1_2 = y1_2r := ey1_2
  refine rl_bnd (b_pieceY t i3 (by omega) (by omega)) ?_
  rintro ⟨y2_1, y2_2⟩ ⟨y2_1r, y2_2r⟩ ⟨my2_11, my2_12, ey2_2, iy2_2⟩
  obtain rfl : M = y2_1 := my2_11
  obtain rfl : N = y2_1r := my2_12
  obtain rfl : y2_2 = y2_2r := ey2_2
  refine rl_ltI (av_sub iy1_2 tn_1 (by omega) (by omega)) (fun x3 ix3 => ?_)
  refine rl_bnd (b_pieceAt t i0 ix3 iy2_2 i3 (by omega) (by omega) (by omega) (by omega) (by omega) (by omega) (by omega) (by omega) hw hI) ?_
  rintro ⟨y4_1, y4_2⟩ ⟨y4_1r, y4_2r⟩ ⟨my4_11, my4_12, ey4_2, ly4_2⟩
  obtain rfl : M = y4_1 := my4_11
  obtain rfl : N = y4_1r := my4_12
  obtain rfl : y4_2 = y4_2r := ey4_2
  dsimp only at ly4_2
  have iy4_2 : TI y4_2 y4_2.toInt := rfl
  replace ly4_2 := pk_of ly4_2
  refine rl_ltI (av_sub iy2_2 tn_1 (by omega) (by omega)) (fun x5 ix5 => ?_)
  refine rl_bnd (b_pieceAt t i0 iy1_2 ix5 i3 (by omega) (by omega) (by omega) (by omega) (by omega) (by omega) (by omega) (by omega) hw hI) ?_
  rintro ⟨y6_1, y6_2⟩ ⟨y6_1r, y6_2r⟩ ⟨my6_11, my6_12, ey6_2, ly6_2⟩
  obtain rfl : M = y6_1 := my6_11
  obtain rfl : N = y6_1r := my6_12
  obtain rfl : y6_2 = y6_2r := ey6_2
  dsimp only at ly6_2
  have iy6_2 : TI y6_2 y6_2.toInt := rfl
  replace ly6_2 := pk_of ly6_2
  refine rl_ltI (av_add iy1_2 i4 (by omega) (by omega)) (fun x7 ix7 => ?_)
  refine rl_ltI (av_sub iy2_2 tn_1 (by omega) (by omega)) (fun x8 ix8 => ?_)
  refine rl_bnd (b_pieceAt t i0 ix7 ix8 i3 (by omega) (by omega) (by omega) (by omega) (by omega) (by omega) (by omega) (by omega) hw hI) ?_
  rintro ⟨y9_1, y9_2⟩ ⟨y9_1r, y9_2r⟩ ⟨my9_11, my9_12, ey9_2, ly9_2⟩
  obtain rfl : M = y9_1 := my9_11
  obtain rfl : N = y9_1r := my9_12
  obtain rfl : y9_2 = y9_2r := ey9_2
  dsimp only at ly9_2
  have iy9_2 : TI y9_2 y9_2.toInt := rfl
  replace ly9_2 := pk_of ly9_2
  refine rl_bnd (Q := fun (y z : Int32 × DD) => y.1 = z.1 ∧ (-1 ≤ y.1.toInt ∧ y.1.toInt ≤ 63) ∧ M = y.2 ∧ N = z.2 ∧ ((-1 ≤ y.1.toInt ∧ y.1.toInt ≤ 63) ∧ (0 ≤ y.1.toInt → y.1.toInt / 16 ≠ a0 ∨ y.1.toInt % 16 < a3))) ?_ ?_
  · refine rl_if (fun c1 => ?_) (fun c1 => ?_)
    · have dc1 := tl_le tn_0 iy9_2 c1
      exact rl_some ⟨rfl, (ti_bd iy9_2 (by omega) (by omega)), rfl, rfl, (by have q : _ = _ := iy9_2; (try dsimp only) <;> omega)⟩
    · have dc1 := tl_nle tn_0 iy9_2 c1
      refine rl_ltI (av_sub iy1_2 tn_1 (by omega) (by omega)) (fun x456 ix456 => ?_)
      refine rl_ltI (av_sub iy2_2 tn_1 (by omega) (by omega)) (fun x457 ix457 => ?_)
      refine rl_bnd (b_pieceAt t i0 ix456 ix457 i3 (by omega) (by omega) (by omega) (by omega) (by omega) (by omega) (by omega) (by omega) hw hI) ?_
      rintro ⟨y458_1, y458_2⟩ ⟨y458_1r, y458_2r⟩ ⟨my458_11, my458_12, ey458_2, ly458_2⟩
      obtain rfl : M = y458_1 := my458_11
      obtain rfl : N = y458_1r := my458_12
      obtain rfl : y458_2 = y458_2r := ey458_2
      dsimp only at ly458_2
      have iy458_2 : TI y458_2 y458_2.toInt := rfl
      replace ly458_2 := pk_of ly458_2
      exact rl_some ⟨rfl, (ti_bd iy458_2 (by omega) (by omega)), rfl, rfl, (by have q : _ = _ := iy458_2; (try dsimp only) <;> omega)⟩
  · rintro ⟨y10_1, y10_2⟩ ⟨y10_1r, y10_2r⟩ ⟨ey10_1, ly10_1, my10_21, my10_22, jy10⟩
    obtain rfl : y10_1 = y10_1r := ey10_1
    have ly10_1 : -1 ≤ y10_1.toInt ∧ y10_1.toInt ≤ 63 := ly10_1
    have iy10_1 : TI y10_1 y10_1.toInt := rfl
    obtain rfl : M = y10_2 := my10_21
    obtain rfl : N = y10_2r := my10_22
    have jy10 : (-1 ≤ y10_1.toInt ∧ y10_1.toInt ≤ 63) ∧ (0 ≤ y10_1.toInt → y10_1.toInt / 16 ≠ a0 ∨ y10_1.toInt % 16 < a3) := jy10
    refine rl_bnd (b_referenceAt t i1 iy4_2 (by omega) (by omega) (by omega) (by omega) (by omega) hR) ?_
    rintro ⟨y11_1, y11_2⟩ ⟨y11_1r, y11_2r⟩ ⟨my11_11, my11_12, ey11_2⟩
    obtain rfl : M = y11_1 := my11_11
    obtain rfl : N = y11_1r := my11_12
    obtain rfl : y11_2 = y11_2r := ey11_2
    refine rl_bnd (Q := fun (y z : Int32) => y = z ∧ (0 ≤ y.toInt ∧ y.toInt ≤ 1)) ?_ ?_
    · refine rl_if (fun c2 => ?_) (fun c2 => ?_)
      · have dc2 := tl_eq (rfl : TI y11_2 y11_2.toInt) (rfl : TI p2 p2.toInt) c2
        exact rl_some ⟨rfl, (ti_bd tn_1 (by omega) (by omega))⟩
      · exact rl_some ⟨rfl, (ti_bd tn_0 (by omega) (by omega))⟩
    · rintro y12 y12r ⟨ey12, ly12⟩
      obtain rfl : y12 = y12r := ey12
      have ly12 : 0 ≤ y12.toInt ∧ y12.toInt ≤ 1 := ly12
      have iy12 : TI y12 y12.toInt := rfl
      refine rl_bnd (b_referenceAt t i1 iy6_2 (by omega) (by omega) (by omega) (by omega) (by omega) hR) ?_
      rintro ⟨y13_1, y13_2⟩ ⟨y13_1r, y13_2r⟩ ⟨my13_11, my13_12, ey13_2⟩
      obtain rfl : M = y13_1 := my13_11
      obtain rfl : N = y13_1r := my13_12
      obtain rfl : y13_2 = y13_2r := ey13_2
      refine rl_bnd (Q := fun (y z : Int32) => y = z ∧ (0 ≤ y.toInt ∧ y.toInt ≤ 1)) ?_ ?_
      · refine rl_if (fun c3 => ?_) (fun c3 => ?_)
        · have dc3 := tl_eq (rfl : TI y13_2 y13_2.toInt) (rfl : TI p2 p2.toInt) c3
          exact rl_some ⟨rfl, (ti_bd tn_1 (by omega) (by omega))⟩
        · exact rl_some ⟨rfl, (ti_bd tn_0 (by omega) (by omega))⟩
      · rintro y14 y14r ⟨ey14, ly14⟩
        obtain rfl : y14 = y14r := ey14
        have ly14 : 0 ≤ y14.toInt ∧ y14.toInt ≤ 1 := ly14
        have iy14 : TI y14 y14.toInt := rfl
        refine rl_bnd (b_referenceAt t i1 iy10_1 (by omega) (by omega) (by omega) (by omega) (by omega) hR) ?_
        rintro ⟨y15_1, y15_2⟩ ⟨y15_1r, y15_2r⟩ ⟨my15_11, my15_12, ey15_2⟩
        obtain rfl : M = y15_1 := my15_11
        obtain rfl : N = y15_1r := my15_12
        obtain rfl : y15_2 = y15_2r := ey15_2
        refine rl_bnd (Q := fun (y z : Int32) => y = z ∧ (0 ≤ y.toInt ∧ y.toInt ≤ 1)) ?_ ?_
        · refine rl_if (fun c4 => ?_) (fun c4 => ?_)
          · have dc4 := tl_eq (rfl : TI y15_2 y15_2.toInt) (rfl : TI p2 p2.toInt) c4
            exact rl_some ⟨rfl, (ti_bd tn_1 (by omega) (by omega))⟩
          · exact rl_some ⟨rfl, (ti_bd tn_0 (by omega) (by omega))⟩
        · rintro y16 y16r ⟨ey16, ly16⟩
          obtain rfl : y16 = y16r := ey16
          have ly16 : 0 ≤ y16.toInt ∧ y16.toInt ≤ 1 := ly16
          have iy16 : TI y16 y16.toInt := rfl
          refine rl_bnd (Q := fun (y z : Int32) => y = z ∧ (0 ≤ y.toInt ∧ y.toInt ≤ 1)) ?_ ?_
          · refine rl_if (fun c5 => ?_) (fun c5 => ?_)
            · have dc5 := tl_eq iy12 tn_0 c5
              exact rl_some ⟨rfl, (ti_bd tn_0 (by omega) (by omega))⟩
            · exact rl_some ⟨rfl, (ti_bd tn_1 (by omega) (by omega))⟩
          · rintro y17 y17r ⟨ey17, ly17⟩
            obtain rfl : y17 = y17r := ey17
            have ly17 : 0 ≤ y17.toInt ∧ y17.toInt ≤ 1 := ly17
            have iy17 : TI y17 y17.toInt := rfl
            refine rl_bnd (Q := fun (y z : Int32) => y = z ∧ (0 ≤ y.toInt ∧ y.toInt ≤ 1)) ?_ ?_
            · refine rl_if (fun c6 => ?_) (fun c6 => ?_)
              · have dc6 := tl_eq iy14 tn_0 c6
                exact rl_some ⟨rfl, (ti_bd tn_0 (by omega) (by omega))⟩
              · exact rl_some ⟨rfl, (ti_bd tn_1 (by omega) (by omega))⟩
            · rintro y18 y18r ⟨ey18, ly18⟩
              obtain rfl : y18 = y18r := ey18
              have ly18 : 0 ≤ y18.toInt ∧ y18.toInt ≤ 1 := ly18
              have iy18 : TI y18 y18.toInt := rfl
              refine rl_ltI (av_add iy17 iy18 (by omega) (by omega)) (fun x19 ix19 => ?_)
              refine rl_bnd (Q := fun (y z : Int32) => y = z ∧ (0 ≤ y.toInt ∧ y.toInt ≤ 1)) ?_ ?_
              · refine rl_if (fun c7 => ?_) (fun c7 => ?_)
                · have dc7 := tl_eq iy16 tn_0 c7
                  exact rl_some ⟨rfl, (ti_bd tn_0 (by omega) (by omega))⟩
                · exact rl_some ⟨rfl, (ti_bd tn_1 (by omega) (by omega))⟩
              · rintro y20 y20r ⟨ey20, ly20⟩
                obtain rfl : y20 = y20r := ey20
                have ly20 : 0 ≤ y20.toInt ∧ y20.toInt ≤ 1 := ly20
                have iy20 : TI y20 y20.toInt := rfl
                refine rl_ltI (av_add ix19 iy20 (by omega) (by omega)) (fun x21 ix21 => ?_)
                refine rl_bnd (Q := fun (y z : DD) => Up mu p M N y z ∧ Ag mu y z 125 18 ∧ Ag mu y z 125 19) ?_ ?_
                · refine rl_if (fun c8 => ?_) (fun c8 => ?_)
                  · have dc8 := tl_eq (rfl : TI p5 p5.toInt) tn_1 c8
                    refine rl_bnd (Q := fun (y z : DD) => Up mu p M N y z ∧ Ag mu y z 125 18 ∧ Ag mu y z 125 19) ?_ ?_
                    · refine rl_if (fun c9 => ?_) (fun c9 => ?_)
                      · have dc9 := tl_eq iy14 tn_0 c9
                        refine rl_bnd (Q := fun (y z : DD) => Up mu p M N y z ∧ Ag mu y z 125 18 ∧ Ag mu y z 125 19) ?_ ?_
                        · refine rl_if (fun c10 => ?_) (fun c10 => ?_)
                          · have dc10 := tl_eq (rfl : TI p5 p5.toInt) tn_2 c10
                            exfalso
                            omega
                          · refine rl_bnd (Q := fun (y z : DD) => Up mu p M N y z ∧ Ag mu y z 125 18 ∧ Ag mu y z 125 19) ?_ ?_
                            · refine rl_if (fun c11 => ?_) (fun c11 => ?_)
                              · have dc11 := tl_eq (rfl : TI p5 p5.toInt) tn_3 c11
                                exfalso
                                omega
                              · refine rl_bnd (Q := fun (y z : DD) => Up mu p M N y z ∧ Ag mu y z 125 18 ∧ Ag mu y z 125 19) ?_ ?_
                                · refine rl_if (fun c12 => ?_) (fun c12 => ?_)
                                  · have dc12 := tl_eq (rfl : TI p5 p5.toInt) tn_4 c12
                                    exfalso
                                    omega
                                  · refine rl_bnd (Q := fun (y z : DD) => Up mu p M N y z ∧ Ag mu y z 125 18 ∧ Ag mu y z 125 19) ?_ ?_
                                    · refine rl_if (fun c13 => ?_) (fun c13 => ?_)
                                      · have dc13 := tl_le tn_0 iy6_2 c13
                                        refine rl_bnd (Q := fun (y z : DD) => Up mu p M N y z ∧ Ag mu y z 125 18 ∧ Ag mu y z 125 19) ?_ ?_
                                        · refine rl_if (fun c14 => ?_) (fun c14 => ?_)
                                          · have dc14 := tl_eq ix21 tn_1 c14
                                            refine rl_bnd (Q := fun (y z : Int32) => y = z ∧ (-1 ≤ y.toInt ∧ y.toInt ≤ 63) ∧ ((-1 ≤ y.toInt ∧ y.toInt ≤ 63) ∧ (0 ≤ y.toInt → y.toInt / 16 ≠ a0 ∨ y.toInt % 16 < a3))) ?_ ?_
                                            · refine rl_if (fun c15 => ?_) (fun c15 => ?_)
                                              · have dc15 := tl_eq iy12 tn_0 c15
                                                refine rl_bnd (Q := fun (y z : Int32) => y = z ∧ (-1 ≤ y.toInt ∧ y.toInt ≤ 63) ∧ ((-1 ≤ y.toInt ∧ y.toInt ≤ 63) ∧ (0 ≤ y.toInt → y.toInt / 16 ≠ a0 ∨ y.toInt % 16 < a3))) ?_ ?_
                                                · refine rl_if (fun c16 => ?_) (fun c16 => ?_)
                                                  · have dc16 := tl_eq iy14 tn_0 c16
                                                    exact rl_some ⟨rfl, (ti_bd iy10_1 (by omega) (by omega)), (by have q : _ = _ := iy10_1; (try dsimp only) <;> omega)⟩
                                                  · have dc16 := tl_ne iy14 tn_0 c16
                                                    exfalso
                                                    omega
                                                · rintro y321 y321r ⟨ey321, ly321, jy321⟩
                                                  obtain rfl : y321 = y321r := ey321
                                                  have ly321 : -1 ≤ y321.toInt ∧ y321.toInt ≤ 63 := ly321
                                                  have iy321 : TI y321 y321.toInt := rfl
                                                  have jy321 : (-1 ≤ y321.toInt ∧ y321.toInt ≤ 63) ∧ (0 ≤ y321.toInt → y321.toInt / 16 ≠ a0 ∨ y321.toInt % 16 < a3) := jy321
                                                  exact rl_some ⟨rfl, (ti_bd iy321 (by omega) (by omega)), (by have q : _ = _ := iy321; (try dsimp only) <;> omega)⟩
                                              · exact rl_some ⟨rfl, (ti_bd iy4_2 (by omega) (by omega)), (by have q : _ = _ := iy4_2; (try dsimp only) <;> omega)⟩
                                            · rintro y318 y318r ⟨ey318, ly318, jy318⟩
                                              obtain rfl : y318 = y318r := ey318
                                              have ly318 : -1 ≤ y318.toInt ∧ y318.toInt ≤ 63 := ly318
                                              have iy318 : TI y318 y318.toInt := rfl
                                              have jy318 : (-1 ≤ y318.toInt ∧ y318.toInt ≤ 63) ∧ (0 ≤ y318.toInt → y318.toInt / 16 ≠ a0 ∨ y318.toInt % 16 < a3) := jy318
                                              refine rl_bnd (b_adopt t i1 iy318 (by omega) (by omega) (by omega) (by omega) (by omega) (by omega) hV) ?_
                                              rintro y319 y319r ⟨uy319', vP125_18_y319, vP125_19_y319⟩
                                              have uy319 : Up mu p M N y319 y319r := uy319'
                                              have ty319 := by_up t uy319
                                              have wI_y319 := fg_up uy319 hI
                                              have wR_y319 := fg_up uy319 hR
                                              have wV_y319 := fg_up uy319 hV
                                              exact rl_some ⟨uy319, vP125_18_y319, vP125_19_y319⟩
                                          · refine rl_bnd (b_adoptMedian t i1 iy4_2 iy6_2 iy10_1 (by omega) (by omega) (by omega) (by omega) (by omega) (by omega) (by omega) (by omega) (by omega) (by omega) (by omega) hV) ?_
                                            rintro y317 y317r ⟨uy317', vP125_18_y317, vP125_19_y317⟩
                                            have uy317 : Up mu p M N y317 y317r := uy317'
                                            have ty317 := by_up t uy317
                                            have wI_y317 := fg_up uy317 hI
                                            have wR_y317 := fg_up uy317 hR
                                            have wV_y317 := fg_up uy317 hV
                                            exact rl_some ⟨uy317, vP125_18_y317, vP125_19_y317⟩
                                        · rintro y315 y315r ⟨uy315, wP125_18_y315, wP125_19_y315⟩
                                          have uy315 : Up mu p M N y315 y315r := uy315
                                          have ty315 := by_up t uy315
                                          have wI_y315 := fg_up uy315 hI
                                          have wR_y315 := fg_up uy315 hR
                                          have wV_y315 := fg_up uy315 hV
                                          have wP125_18_y315 : Ag mu y315 y315r 125 18 := wP125_18_y315
                                          have wP125_19_y315 : Ag mu y315 y315r 125 19 := wP125_19_y315
                                          exact rl_some ⟨uy315, wP125_18_y315, wP125_19_y315⟩
                                      · have dc13 := tl_nle tn_0 iy6_2 c13
                                        refine rl_bnd (Q := fun (y z : DD) => Up mu p M N y z ∧ Ag mu y z 125 18 ∧ Ag mu y z 125 19) ?_ ?_
                                        · refine rl_if (fun c17 => ?_) (fun c17 => ?_)
                                          · have dc17 := tl_le tn_0 iy10_1 c17
                                            refine rl_bnd (Q := fun (y z : DD) => Up mu p M N y z ∧ Ag mu y z 125 18 ∧ Ag mu y z 125 19) ?_ ?_
                                            · refine rl_if (fun c18 => ?_) (fun c18 => ?_)
                                              · have dc18 := tl_eq ix21 tn_1 c18
                                                refine rl_bnd (Q := fun (y z : Int32) => y = z ∧ (-1 ≤ y.toInt ∧ y.toInt ≤ 63) ∧ ((-1 ≤ y.toInt ∧ y.toInt ≤ 63) ∧ (0 ≤ y.toInt → y.toInt / 16 ≠ a0 ∨ y.toInt % 16 < a3))) ?_ ?_
                                                · refine rl_if (fun c19 => ?_) (fun c19 => ?_)
                                                  · have dc19 := tl_eq iy12 tn_0 c19
                                                    refine rl_bnd (Q := fun (y z : Int32) => y = z ∧ (0 ≤ y.toInt ∧ y.toInt ≤ 63) ∧ ((-1 ≤ y.toInt ∧ y.toInt ≤ 63) ∧ (0 ≤ y.toInt → y.toInt / 16 ≠ a0 ∨ y.toInt % 16 < a3))) ?_ ?_
                                                    · refine rl_if (fun c20 => ?_) (fun c20 => ?_)
                                                      · have dc20 := tl_eq iy14 tn_0 c20
                                                        exact rl_some ⟨rfl, (ti_bd iy10_1 (by omega) (by omega)), (by have q : _ = _ := iy10_1; (try dsimp only) <;> omega)⟩
                                                      · have dc20 := tl_ne iy14 tn_0 c20
                                                        exfalso
                                                        omega
                                                    · rintro y331 y331r ⟨ey331, ly331, jy331⟩
                                                      obtain rfl : y331 = y331r := ey331
                                                      have ly331 : 0 ≤ y331.toInt ∧ y331.toInt ≤ 63 := ly331
                                                      have iy331 : TI y331 y331.toInt := rfl
                                                      have jy331 : (-1 ≤ y331.toInt ∧ y331.toInt ≤ 63) ∧ (0 ≤ y331.toInt → y331.toInt / 16 ≠ a0 ∨ y331.toInt % 16 < a3) := jy331
                                                      exact rl_some ⟨rfl, (ti_bd iy331 (by omega) (by omega)), (by have q : _ = _ := iy331; (try dsimp only) <;> omega)⟩
                                                  · exact rl_some ⟨rfl, (ti_bd iy4_2 (by omega) (by omega)), (by have q : _ = _ := iy4_2; (try dsimp only) <;> omega)⟩
                                                · rintro y328 y328r ⟨ey328, ly328, jy328⟩
                                                  obtain rfl : y328 = y328r := ey328
                                                  have ly328 : -1 ≤ y328.toInt ∧ y328.toInt ≤ 63 := ly328
                                                  have iy328 : TI y328 y328.toInt := rfl
                                                  have jy328 : (-1 ≤ y328.toInt ∧ y328.toInt ≤ 63) ∧ (0 ≤ y328.toInt → y328.toInt / 16 ≠ a0 ∨ y328.toInt % 16 < a3) := jy328
                                                  refine rl_bnd (b_adopt t i1 iy328 (by omega) (by omega) (by omega) (by omega) (by omega) (by omega) hV) ?_
                                                  rintro y329 y329r ⟨uy329', vP125_18_y329, vP125_19_y329⟩
                                                  have uy329 : Up mu p M N y329 y329r := uy329'
                                                  have ty329 := by_up t uy329
                                                  have wI_y329 := fg_up uy329 hI
                                                  have wR_y329 := fg_up uy329 hR
                                                  have wV_y329 := fg_up uy329 hV
                                                  exact rl_some ⟨uy329, vP125_18_y329, vP125_19_y329⟩
                                              · refine rl_bnd (b_adoptMedian t i1 iy4_2 iy6_2 iy10_1 (by omega) (by omega) (by omega) (by omega) (by omega) (by omega) (by omega) (by omega) (by omega) (by omega) (by omega) hV) ?_
                                                rintro y327 y327r ⟨uy327', vP125_18_y327, vP125_19_y327⟩
                                                have uy327 : Up mu p M N y327 y327r := uy327'
                                                have ty327 := by_up t uy327
                                                have wI_y327 := fg_up uy327 hI
                                                have wR_y327 := fg_up uy327 hR
                                                have wV_y327 := fg_up uy327 hV
                                                exact rl_some ⟨uy327, vP125_18_y327, vP125_19_y327⟩
                                            · rintro y325 y325r ⟨uy325, wP125_18_y325, wP125_19_y325⟩
                                              have uy325 : Up mu p M N y325 y325r := uy325
                                              have ty325 := by_up t uy325
                                              have wI_y325 := fg_up uy325 hI
                                              have wR_y325 := fg_up uy325 hR
                                              have wV_y325 := fg_up uy325 hV
                                              have wP125_18_y325 : Ag mu y325 y325r 125 18 := wP125_18_y325
                                              have wP125_19_y325 : Ag mu y325 y325r 125 19 := wP125_19_y325
                                              exact rl_some ⟨uy325, wP125_18_y325, wP125_19_y325⟩
                                          · have dc17 := tl_nle tn_0 iy10_1 c17
                                            refine rl_bnd (Q := fun (y z : DD) => Up mu p M N y z ∧ Ag mu y z 125 18 ∧ Ag mu y z 125 19) ?_ ?_
                                            · refine rl_if (fun c21 => ?_) (fun c21 => ?_)
                                              · have dc21 := tl_lt iy4_2 tn_0 c21
                                                refine rl_bnd (Q := fun (y z : DD) => Up mu p M N y z ∧ Ag mu y z 125 18 ∧ Ag mu y z 125 19) ?_ ?_
                                                · refine rl_if (fun c22 => ?_) (fun c22 => ?_)
                                                  · have dc22 := tl_eq ix21 tn_1 c22
                                                    refine rl_bnd (Q := fun (y z : Int32) => y = z ∧ (-1 ≤ y.toInt ∧ y.toInt ≤ -1) ∧ ((-1 ≤ y.toInt ∧ y.toInt ≤ 63) ∧ (0 ≤ y.toInt → y.toInt / 16 ≠ a0 ∨ y.toInt % 16 < a3))) ?_ ?_
                                                    · refine rl_if (fun c23 => ?_) (fun c23 => ?_)
                                                      · have dc23 := tl_eq iy12 tn_0 c23
                                                        refine rl_bnd (Q := fun (y z : Int32) => y = z ∧ (-1 ≤ y.toInt ∧ y.toInt ≤ -1) ∧ ((-1 ≤ y.toInt ∧ y.toInt ≤ 63) ∧ (0 ≤ y.toInt → y.toInt / 16 ≠ a0 ∨ y.toInt % 16 < a3))) ?_ ?_
                                                        · refine rl_if (fun c24 => ?_) (fun c24 => ?_)
                                                          · have dc24 := tl_eq iy14 tn_0 c24
                                                            exact rl_some ⟨rfl, (ti_bd iy10_1 (by omega) (by omega)), (by have q : _ = _ := iy10_1; (try dsimp only) <;> omega)⟩
                                                          · have dc24 := tl_ne iy14 tn_0 c24
                                                            exfalso
                                                            omega
                                                        · rintro y341 y341r ⟨ey341, ly341, jy341⟩
                                                          obtain rfl : y341 = y341r := ey341
                                                          have ly341 : -1 ≤ y341.toInt ∧ y341.toInt ≤ -1 := ly341
                                                          have iy341 : TI y341 (-1) := ti_c ly341
                                                          have jy341 : (-1 ≤ y341.toInt ∧ y341.toInt ≤ 63) ∧ (0 ≤ y341.toInt → y341.toInt / 16 ≠ a0 ∨ y341.toInt % 16 < a3) := jy341
                                                          exact rl_some ⟨rfl, (ti_bd iy341 (by omega) (by omega)), (by have q : _ = _ := iy341; (try dsimp only) <;> omega)⟩
                                                      · exact rl_some ⟨rfl, (ti_bd iy4_2 (by omega) (by omega)), (by have q : _ = _ := iy4_2; (try dsimp only) <;> omega)⟩
                                                    · rintro y338 y338r ⟨ey338, ly338, jy338⟩
                                                      obtain rfl : y338 = y338r := ey338
                                                      have ly338 : -1 ≤ y338.toInt ∧ y338.toInt ≤ -1 := ly338
                                                      have iy338 : TI y338 (-1) := ti_c ly338
                                                      have jy338 : (-1 ≤ y338.toInt ∧ y338.toInt ≤ 63) ∧ (0 ≤ y338.toInt → y338.toInt / 16 ≠ a0 ∨ y338.toInt % 16 < a3) := jy338
                                                      refine rl_bnd (b_adopt t i1 iy338 (by omega) (by omega) (by omega) (by omega) (by omega) (by omega) hV) ?_
                                                      rintro y339 y339r ⟨uy339', vP125_18_y339, vP125_19_y339⟩
                                                      have uy339 : Up mu p M N y339 y339r := uy339'
                                                      have ty339 := by_up t uy339
                                                      have wI_y339 := fg_up uy339 hI
                                                      have wR_y339 := fg_up uy339 hR
                                                      have wV_y339 := fg_up uy339 hV
                                                      exact rl_some ⟨uy339, vP125_18_y339, vP125_19_y339⟩
                                                  · refine rl_bnd (b_adoptMedian t i1 iy4_2 iy6_2 iy10_1 (by omega) (by omega) (by omega) (by omega) (by omega) (by omega) (by omega) (by omega) (by omega) (by omega) (by omega) hV) ?_
                                                    rintro y337 y337r ⟨uy337', vP125_18_y337, vP125_19_y337⟩
                                                    have uy337 : Up mu p M N y337 y337r := uy337'
                                                    have ty337 := by_up t uy337
                                                    have wI_y337 := fg_up uy337 hI
                                                    have wR_y337 := fg_up uy337 hR
                                                    have wV_y337 := fg_up uy337 hV
                                                    exact rl_some ⟨uy337, vP125_18_y337, vP125_19_y337⟩
                                                · rintro y335 y335r ⟨uy335, wP125_18_y335, wP125_19_y335⟩
                                                  have uy335 : Up mu p M N y335 y335r := uy335
                                                  have ty335 := by_up t uy335
                                                  have wI_y335 := fg_up uy335 hI
                                                  have wR_y335 := fg_up uy335 hR
                                                  have wV_y335 := fg_up uy335 hV
                                                  have wP125_18_y335 : Ag mu y335 y335r 125 18 := wP125_18_y335
                                                  have wP125_19_y335 : Ag mu y335 y335r 125 19 := wP125_19_y335
                                                  exact rl_some ⟨uy335, wP125_18_y335, wP125_19_y335⟩
                                              · have dc21 := tl_nlt iy4_2 tn_0 c21
                                                refine rl_bnd (b_adopt t i1 iy4_2 (by omega) (by omega) (by omega) (by omega) (by omega) (by omega) hV) ?_
                                                rintro y343 y343r ⟨uy343', vP125_18_y343, vP125_19_y343⟩
                                                have uy343 : Up mu p M N y343 y343r := uy343'
                                                have ty343 := by_up t uy343
                                                have wI_y343 := fg_up uy343 hI
                                                have wR_y343 := fg_up uy343 hR
                                                have wV_y343 := fg_up uy343 hV
                                                exact rl_some ⟨uy343, vP125_18_y343, vP125_19_y343⟩
                                            · rintro y333 y333r ⟨uy333, wP125_18_y333, wP125_19_y333⟩
                                              have uy333 : Up mu p M N y333 y333r := uy333
                                              have ty333 := by_up t uy333
                                              have wI_y333 := fg_up uy333 hI
                                              have wR_y333 := fg_up uy333 hR
                                              have wV_y333 := fg_up uy333 hV
                                              have wP125_18_y333 : Ag mu y333 y333r 125 18 := wP125_18_y333
                                              have wP125_19_y333 : Ag mu y333 y333r 125 19 := wP125_19_y333
                                              exact rl_some ⟨uy333, wP125_18_y333, wP125_19_y333⟩
                                        · rintro y323 y323r ⟨uy323, wP125_18_y323, wP125_19_y323⟩
                                          have uy323 : Up mu p M N y323 y323r := uy323
                                          have ty323 := by_up t uy323
                                          have wI_y323 := fg_up uy323 hI
                                          have wR_y323 := fg_up uy323 hR
                                          have wV_y323 := fg_up uy323 hV
                                          have wP125_18_y323 : Ag mu y323 y323r 125 18 := wP125_18_y323
                                          have wP125_19_y323 : Ag mu y323 y323r 125 19 := wP125_19_y323
                                          exact rl_some ⟨uy323, wP125_18_y323, wP125_19_y323⟩
                                    · rintro y313 y313r ⟨uy313, wP125_18_y313, wP125_19_y313⟩
                                      have uy313 : Up mu p M N y313 y313r := uy313
                                      have ty313 := by_up t uy313
                                      have wI_y313 := fg_up uy313 hI
                                      have wR_y313 := fg_up uy313 hR
                                      have wV_y313 := fg_up uy313 hV
                                      have wP125_18_y313 : Ag mu y313 y313r 125 18 := wP125_18_y313
                                      have wP125_19_y313 : Ag mu y313 y313r 125 19 := wP125_19_y313
                                      exact rl_some ⟨uy313, wP125_18_y313, wP125_19_y313⟩
                                · rintro y311 y311r ⟨uy311, wP125_18_y311, wP125_19_y311⟩
                                  have uy311 : Up mu p M N y311 y311r := uy311
                                  have ty311 := by_up t uy311
                                  have wI_y311 := fg_up uy311 hI
                                  have wR_y311 := fg_up uy311 hR
                                  have wV_y311 := fg_up uy311 hV
                                  have wP125_18_y311 : Ag mu y311 y311r 125 18 := wP125_18_y311
                                  have wP125_19_y311 : Ag mu y311 y311r 125 19 := wP125_19_y311
                                  exact rl_some ⟨uy311, wP125_18_y311, wP125_19_y311⟩
                            · rintro y309 y309r ⟨uy309, wP125_18_y309, wP125_19_y309⟩
                              have uy309 : Up mu p M N y309 y309r := uy309
                              have ty309 := by_up t uy309
                              have wI_y309 := fg_up uy309 hI
                              have wR_y309 := fg_up uy309 hR
                              have wV_y309 := fg_up uy309 hV
                              have wP125_18_y309 : Ag mu y309 y309r 125 18 := wP125_18_y309
                              have wP125_19_y309 : Ag mu y309 y309r 125 19 := wP125_19_y309
                              exact rl_some ⟨uy309, wP125_18_y309, wP125_19_y309⟩
                        · rintro y237 y237r ⟨uy237, wP125_18_y237, wP125_19_y237⟩
                          have uy237 : Up mu p M N y237 y237r := uy237
                          have ty237 := by_up t uy237
                          have wI_y237 := fg_up uy237 hI
                          have wR_y237 := fg_up uy237 hR
                          have wV_y237 := fg_up uy237 hV
                          have wP125_18_y237 : Ag mu y237 y237r 125 18 := wP125_18_y237
                          have wP125_19_y237 : Ag mu y237 y237r 125 19 := wP125_19_y237
                          exact rl_some ⟨uy237, wP125_18_y237, wP125_19_y237⟩
                      · refine rl_bnd (b_adopt t i1 iy6_2 (by omega) (by omega) (by omega) (by omega) (by omega) (by omega) hV) ?_
                        rintro y448 y448r ⟨uy448', vP125_18_y448, vP125_19_y448⟩
                        have uy448 : Up mu p M N y448 y448r := uy448'
                        have ty448 := by_up t uy448
                        have wI_y448 := fg_up uy448 hI
                        have wR_y448 := fg_up uy448 hR
                        have wV_y448 := fg_up uy448 hV
                        exact rl_some ⟨uy448, vP125_18_y448, vP125_19_y448⟩
                    · rintro y235 y235r ⟨uy235, wP125_18_y235, wP125_19_y235⟩
                      have uy235 : Up mu p M N y235 y235r := uy235
                      have ty235 := by_up t uy235
                      have wI_y235 := fg_up uy235 hI
                      have wR_y235 := fg_up uy235 hR
                      have wV_y235 := fg_up uy235 hV
                      have wP125_18_y235 : Ag mu y235 y235r 125 18 := wP125_18_y235
                      have wP125_19_y235 : Ag mu y235 y235r 125 19 := wP125_19_y235
                      exact rl_some ⟨uy235, wP125_18_y235, wP125_19_y235⟩
                  · refine rl_bnd (Q := fun (y z : DD) => Up mu p M N y z ∧ Ag mu y z 125 18 ∧ Ag mu y z 125 19) ?_ ?_
                    · refine rl_if (fun c25 => ?_) (fun c25 => ?_)
                      · have dc25 := tl_eq (rfl : TI p5 p5.toInt) tn_2 c25
                        refine rl_bnd (Q := fun (y z : DD) => Up mu p M N y z ∧ Ag mu y z 125 18 ∧ Ag mu y z 125 19) ?_ ?_
                        · refine rl_if (fun c26 => ?_) (fun c26 => ?_)
                          · have dc26 := tl_eq iy12 tn_0 c26
                            refine rl_bnd (Q := fun (y z : DD) => Up mu p M N y z ∧ Ag mu y z 125 18 ∧ Ag mu y z 125 19) ?_ ?_
                            · refine rl_if (fun c27 => ?_) (fun c27 => ?_)
                              · have dc27 := tl_eq (rfl : TI p5 p5.toInt) tn_4 c27
                                exfalso
                                omega
                              · refine rl_bnd (Q := fun (y z : DD) => Up mu p M N y z ∧ Ag mu y z 125 18 ∧ Ag mu y z 125 19) ?_ ?_
                                · refine rl_if (fun c28 => ?_) (fun c28 => ?_)
                                  · have dc28 := tl_le tn_0 iy6_2 c28
                                    refine rl_bnd (Q := fun (y z : DD) => Up mu p M N y z ∧ Ag mu y z 125 18 ∧ Ag mu y z 125 19) ?_ ?_
                                    · refine rl_if (fun c29 => ?_) (fun c29 => ?_)
                                      · have dc29 := tl_eq ix21 tn_1 c29
                                        refine rl_bnd (Q := fun (y z : Int32) => y = z ∧ (-1 ≤ y.toInt ∧ y.toInt ≤ 63) ∧ ((-1 ≤ y.toInt ∧ y.toInt ≤ 63) ∧ (0 ≤ y.toInt → y.toInt / 16 ≠ a0 ∨ y.toInt % 16 < a3))) ?_ ?_
                                        · refine rl_if (fun c30 => ?_) (fun c30 => ?_)
                                          · have dc30 := tl_eq iy12 tn_0 c30
                                            refine rl_bnd (Q := fun (y z : Int32) => y = z ∧ (-1 ≤ y.toInt ∧ y.toInt ≤ 63) ∧ ((-1 ≤ y.toInt ∧ y.toInt ≤ 63) ∧ (0 ≤ y.toInt → y.toInt / 16 ≠ a0 ∨ y.toInt % 16 < a3))) ?_ ?_
                                            · refine rl_if (fun c31 => ?_) (fun c31 => ?_)
                                              · have dc31 := tl_eq iy14 tn_0 c31
                                                exact rl_some ⟨rfl, (ti_bd iy10_1 (by omega) (by omega)), (by have q : _ = _ := iy10_1; (try dsimp only) <;> omega)⟩
                                              · exact rl_some ⟨rfl, (ti_bd iy6_2 (by omega) (by omega)), (by have q : _ = _ := iy6_2; (try dsimp only) <;> omega)⟩
                                            · rintro y38 y38r ⟨ey38, ly38, jy38⟩
                                              obtain rfl : y38 = y38r := ey38
                                              have ly38 : -1 ≤ y38.toInt ∧ y38.toInt ≤ 63 := ly38
                                              have iy38 : TI y38 y38.toInt := rfl
                                              have jy38 : (-1 ≤ y38.toInt ∧ y38.toInt ≤ 63) ∧ (0 ≤ y38.toInt → y38.toInt / 16 ≠ a0 ∨ y38.toInt % 16 < a3) := jy38
                                              exact rl_some ⟨rfl, (ti_bd iy38 (by omega) (by omega)), (by have q : _ = _ := iy38; (try dsimp only) <;> omega)⟩
                                          · have dc30 := tl_ne iy12 tn_0 c30
                                            exfalso
                                            omega
                                        · rintro y35 y35r ⟨ey35, ly35, jy35⟩
                                          obtain rfl : y35 = y35r := ey35
                                          have ly35 : -1 ≤ y35.toInt ∧ y35.toInt ≤ 63 := ly35
                                          have iy35 : TI y35 y35.toInt := rfl
                                          have jy35 : (-1 ≤ y35.toInt ∧ y35.toInt ≤ 63) ∧ (0 ≤ y35.toInt → y35.toInt / 16 ≠ a0 ∨ y35.toInt % 16 < a3) := jy35
                                          refine rl_bnd (b_adopt t i1 iy35 (by omega) (by omega) (by omega) (by omega) (by omega) (by omega) hV) ?_
                                          rintro y36 y36r ⟨uy36', vP125_18_y36, vP125_19_y36⟩
                                          have uy36 : Up mu p M N y36 y36r := uy36'
                                          have ty36 := by_up t uy36
                                          have wI_y36 := fg_up uy36 hI
                                          have wR_y36 := fg_up uy36 hR
                                          have wV_y36 := fg_up uy36 hV
                                          exact rl_some ⟨uy36, vP125_18_y36, vP125_19_y36⟩
                                      · refine rl_bnd (b_adoptMedian t i1 iy4_2 iy6_2 iy10_1 (by omega) (by omega) (by omega) (by omega) (by omega) (by omega) (by omega) (by omega) (by omega) (by omega) (by omega) hV) ?_
                                        rintro y34 y34r ⟨uy34', vP125_18_y34, vP125_19_y34⟩
                                        have uy34 : Up mu p M N y34 y34r := uy34'
                                        have ty34 := by_up t uy34
                                        have wI_y34 := fg_up uy34 hI
                                        have wR_y34 := fg_up uy34 hR
                                        have wV_y34 := fg_up uy34 hV
                                        exact rl_some ⟨uy34, vP125_18_y34, vP125_19_y34⟩
                                    · rintro y32 y32r ⟨uy32, wP125_18_y32, wP125_19_y32⟩
                                      have uy32 : Up mu p M N y32 y32r := uy32
                                      have ty32 := by_up t uy32
                                      have wI_y32 := fg_up uy32 hI
                                      have wR_y32 := fg_up uy32 hR
                                      have wV_y32 := fg_up uy32 hV
                                      have wP125_18_y32 : Ag mu y32 y32r 125 18 := wP125_18_y32
                                      have wP125_19_y32 : Ag mu y32 y32r 125 19 := wP125_19_y32
                                      exact rl_some ⟨uy32, wP125_18_y32, wP125_19_y32⟩
                                  · have dc28 := tl_nle tn_0 iy6_2 c28
                                    refine rl_bnd (Q := fun (y z : DD) => Up mu p M N y z ∧ Ag mu y z 125 18 ∧ Ag mu y z 125 19) ?_ ?_
                                    · refine rl_if (fun c32 => ?_) (fun c32 => ?_)
                                      · have dc32 := tl_le tn_0 iy10_1 c32
                                        refine rl_bnd (Q := fun (y z : DD) => Up mu p M N y z ∧ Ag mu y z 125 18 ∧ Ag mu y z 125 19) ?_ ?_
                                        · refine rl_if (fun c33 => ?_) (fun c33 => ?_)
                                          · have dc33 := tl_eq ix21 tn_1 c33
                                            refine rl_bnd (Q := fun (y z : Int32) => y = z ∧ (-1 ≤ y.toInt ∧ y.toInt ≤ 63) ∧ ((-1 ≤ y.toInt ∧ y.toInt ≤ 63) ∧ (0 ≤ y.toInt → y.toInt / 16 ≠ a0 ∨ y.toInt % 16 < a3))) ?_ ?_
                                            · refine rl_if (fun c34 => ?_) (fun c34 => ?_)
                                              · have dc34 := tl_eq iy12 tn_0 c34
                                                refine rl_bnd (Q := fun (y z : Int32) => y = z ∧ (-1 ≤ y.toInt ∧ y.toInt ≤ 63) ∧ ((-1 ≤ y.toInt ∧ y.toInt ≤ 63) ∧ (0 ≤ y.toInt → y.toInt / 16 ≠ a0 ∨ y.toInt % 16 < a3))) ?_ ?_
                                                · refine rl_if (fun c35 => ?_) (fun c35 => ?_)
                                                  · have dc35 := tl_eq iy14 tn_0 c35
                                                    exact rl_some ⟨rfl, (ti_bd iy10_1 (by omega) (by omega)), (by have q : _ = _ := iy10_1; (try dsimp only) <;> omega)⟩
                                                  · exact rl_some ⟨rfl, (ti_bd iy6_2 (by omega) (by omega)), (by have q : _ = _ := iy6_2; (try dsimp only) <;> omega)⟩
                                                · rintro y48 y48r ⟨ey48, ly48, jy48⟩
                                                  obtain rfl : y48 = y48r := ey48
                                                  have ly48 : -1 ≤ y48.toInt ∧ y48.toInt ≤ 63 := ly48
                                                  have iy48 : TI y48 y48.toInt := rfl
                                                  have jy48 : (-1 ≤ y48.toInt ∧ y48.toInt ≤ 63) ∧ (0 ≤ y48.toInt → y48.toInt / 16 ≠ a0 ∨ y48.toInt % 16 < a3) := jy48
                                                  exact rl_some ⟨rfl, (ti_bd iy48 (by omega) (by omega)), (by have q : _ = _ := iy48; (try dsimp only) <;> omega)⟩
                                              · have dc34 := tl_ne iy12 tn_0 c34
                                                exfalso
                                                omega
                                            · rintro y45 y45r ⟨ey45, ly45, jy45⟩
                                              obtain rfl : y45 = y45r := ey45
                                              have ly45 : -1 ≤ y45.toInt ∧ y45.toInt ≤ 63 := ly45
                                              have iy45 : TI y45 y45.toInt := rfl
                                              have jy45 : (-1 ≤ y45.toInt ∧ y45.toInt ≤ 63) ∧ (0 ≤ y45.toInt → y45.toInt / 16 ≠ a0 ∨ y45.toInt % 16 < a3) := jy45
                                              refine rl_bnd (b_adopt t i1 iy45 (by omega) (by omega) (by omega) (by omega) (by omega) (by omega) hV) ?_
                                              rintro y46 y46r ⟨uy46', vP125_18_y46, vP125_19_y46⟩
                                              have uy46 : Up mu p M N y46 y46r := uy46'
                                              have ty46 := by_up t uy46
                                              have wI_y46 := fg_up uy46 hI
                                              have wR_y46 := fg_up uy46 hR
                                              have wV_y46 := fg_up uy46 hV
                                              exact rl_some ⟨uy46, vP125_18_y46, vP125_19_y46⟩
                                          · refine rl_bnd (b_adoptMedian t i1 iy4_2 iy6_2 iy10_1 (by omega) (by omega) (by omega) (by omega) (by omega) (by omega) (by omega) (by omega) (by omega) (by omega) (by omega) hV) ?_
                                            rintro y44 y44r ⟨uy44', vP125_18_y44, vP125_19_y44⟩
                                            have uy44 : Up mu p M N y44 y44r := uy44'
                                            have ty44 := by_up t uy44
                                            have wI_y44 := fg_up uy44 hI
                                            have wR_y44 := fg_up uy44 hR
                                            have wV_y44 := fg_up uy44 hV
                                            exact rl_some ⟨uy44, vP125_18_y44, vP125_19_y44⟩
                                        · rintro y42 y42r ⟨uy42, wP125_18_y42, wP125_19_y42⟩
                                          have uy42 : Up mu p M N y42 y42r := uy42
                                          have ty42 := by_up t uy42
                                          have wI_y42 := fg_up uy42 hI
                                          have wR_y42 := fg_up uy42 hR
                                          have wV_y42 := fg_up uy42 hV
                                          have wP125_18_y42 : Ag mu y42 y42r 125 18 := wP125_18_y42
                                          have wP125_19_y42 : Ag mu y42 y42r 125 19 := wP125_19_y42
                                          exact rl_some ⟨uy42, wP125_18_y42, wP125_19_y42⟩
                                      · have dc32 := tl_nle tn_0 iy10_1 c32
                                        refine rl_bnd (Q := fun (y z : DD) => Up mu p M N y z ∧ Ag mu y z 125 18 ∧ Ag mu y z 125 19) ?_ ?_
                                        · refine rl_if (fun c36 => ?_) (fun c36 => ?_)
                                          · have dc36 := tl_lt iy4_2 tn_0 c36
                                            refine rl_bnd (Q := fun (y z : DD) => Up mu p M N y z ∧ Ag mu y z 125 18 ∧ Ag mu y z 125 19) ?_ ?_
                                            · refine rl_if (fun c37 => ?_) (fun c37 => ?_)
                                              · have dc37 := tl_eq ix21 tn_1 c37
                                                refine rl_bnd (Q := fun (y z : Int32) => y = z ∧ (-1 ≤ y.toInt ∧ y.toInt ≤ -1) ∧ ((-1 ≤ y.toInt ∧ y.toInt ≤ 63) ∧ (0 ≤ y.toInt → y.toInt / 16 ≠ a0 ∨ y.toInt % 16 < a3))) ?_ ?_
                                                · refine rl_if (fun c38 => ?_) (fun c38 => ?_)
                                                  · have dc38 := tl_eq iy12 tn_0 c38
                                                    refine rl_bnd (Q := fun (y z : Int32) => y = z ∧ (-1 ≤ y.toInt ∧ y.toInt ≤ -1) ∧ ((-1 ≤ y.toInt ∧ y.toInt ≤ 63) ∧ (0 ≤ y.toInt → y.toInt / 16 ≠ a0 ∨ y.toInt % 16 < a3))) ?_ ?_
                                                    · refine rl_if (fun c39 => ?_) (fun c39 => ?_)
                                                      · have dc39 := tl_eq iy14 tn_0 c39
                                                        exact rl_some ⟨rfl, (ti_bd iy10_1 (by omega) (by omega)), (by have q : _ = _ := iy10_1; (try dsimp only) <;> omega)⟩
                                                      · exact rl_some ⟨rfl, (ti_bd iy6_2 (by omega) (by omega)), (by have q : _ = _ := iy6_2; (try dsimp only) <;> omega)⟩
                                                    · rintro y58 y58r ⟨ey58, ly58, jy58⟩
                                                      obtain rfl : y58 = y58r := ey58
                                                      have ly58 : -1 ≤ y58.toInt ∧ y58.toInt ≤ -1 := ly58
                                                      have iy58 : TI y58 (-1) := ti_c ly58
                                                      have jy58 : (-1 ≤ y58.toInt ∧ y58.toInt ≤ 63) ∧ (0 ≤ y58.toInt → y58.toInt / 16 ≠ a0 ∨ y58.toInt % 16 < a3) := jy58
                                                      exact rl_some ⟨rfl, (ti_bd iy58 (by omega) (by omega)), (by have q : _ = _ := iy58; (try dsimp only) <;> omega)⟩
                                                  · have dc38 := tl_ne iy12 tn_0 c38
                                                    exfalso
                                                    omega
                                                · rintro y55 y55r ⟨ey55, ly55, jy55⟩
                                                  obtain rfl : y55 = y55r := ey55
                                                  have ly55 : -1 ≤ y55.toInt ∧ y55.toInt ≤ -1 := ly55
                                                  have iy55 : TI y55 (-1) := ti_c ly55
                                                  have jy55 : (-1 ≤ y55.toInt ∧ y55.toInt ≤ 63) ∧ (0 ≤ y55.toInt → y55.toInt / 16 ≠ a0 ∨ y55.toInt % 16 < a3) := jy55
                                                  refine rl_bnd (b_adopt t i1 iy55 (by omega) (by omega) (by omega) (by omega) (by omega) (by omega) hV) ?_
                                                  rintro y56 y56r ⟨uy56', vP125_18_y56, vP125_19_y56⟩
                                                  have uy56 : Up mu p M N y56 y56r := uy56'
                                                  have ty56 := by_up t uy56
                                                  have wI_y56 := fg_up uy56 hI
                                                  have wR_y56 := fg_up uy56 hR
                                                  have wV_y56 := fg_up uy56 hV
                                                  exact rl_some ⟨uy56, vP125_18_y56, vP125_19_y56⟩
                                              · refine rl_bnd (b_adoptMedian t i1 iy4_2 iy6_2 iy10_1 (by omega) (by omega) (by omega) (by omega) (by omega) (by omega) (by omega) (by omega) (by omega) (by omega) (by omega) hV) ?_
                                                rintro y54 y54r ⟨uy54', vP125_18_y54, vP125_19_y54⟩
                                                have uy54 : Up mu p M N y54 y54r := uy54'
                                                have ty54 := by_up t uy54
                                                have wI_y54 := fg_up uy54 hI
                                                have wR_y54 := fg_up uy54 hR
                                                have wV_y54 := fg_up uy54 hV
                                                exact rl_some ⟨uy54, vP125_18_y54, vP125_19_y54⟩
                                            · rintro y52 y52r ⟨uy52, wP125_18_y52, wP125_19_y52⟩
                                              have uy52 : Up mu p M N y52 y52r := uy52
                                              have ty52 := by_up t uy52
                                              have wI_y52 := fg_up uy52 hI
                                              have wR_y52 := fg_up uy52 hR
                                              have wV_y52 := fg_up uy52 hV
                                              have wP125_18_y52 : Ag mu y52 y52r 125 18 := wP125_18_y52
                                              have wP125_19_y52 : Ag mu y52 y52r 125 19 := wP125_19_y52
                                              exact rl_some ⟨uy52, wP125_18_y52, wP125_19_y52⟩
                                          · have dc36 := tl_nlt iy4_2 tn_0 c36
                                            refine rl_bnd (b_adopt t i1 iy4_2 (by omega) (by omega) (by omega) (by omega) (by omega) (by omega) hV) ?_
                                            rintro y60 y60r ⟨uy60', vP125_18_y60, vP125_19_y60⟩
                                            have uy60 : Up mu p M N y60 y60r := uy60'
                                            have ty60 := by_up t uy60
                                            have wI_y60 := fg_up uy60 hI
                                            have wR_y60 := fg_up uy60 hR
                                            have wV_y60 := fg_up uy60 hV
                                            exact rl_some ⟨uy60, vP125_18_y60, vP125_19_y60⟩
                                        · rintro y50 y50r ⟨uy50, wP125_18_y50, wP125_19_y50⟩
                                          have uy50 : Up mu p M N y50 y50r := uy50
                                          have ty50 := by_up t uy50
                                          have wI_y50 := fg_up uy50 hI
                                          have wR_y50 := fg_up uy50 hR
                                          have wV_y50 := fg_up uy50 hV
                                          have wP125_18_y50 : Ag mu y50 y50r 125 18 := wP125_18_y50
                                          have wP125_19_y50 : Ag mu y50 y50r 125 19 := wP125_19_y50
                                          exact rl_some ⟨uy50, wP125_18_y50, wP125_19_y50⟩
                                    · rintro y40 y40r ⟨uy40, wP125_18_y40, wP125_19_y40⟩
                                      have uy40 : Up mu p M N y40 y40r := uy40
                                      have ty40 := by_up t uy40
                                      have wI_y40 := fg_up uy40 hI
                                      have wR_y40 := fg_up uy40 hR
                                      have wV_y40 := fg_up uy40 hV
                                      have wP125_18_y40 : Ag mu y40 y40r 125 18 := wP125_18_y40
                                      have wP125_19_y40 : Ag mu y40 y40r 125 19 := wP125_19_y40
                                      exact rl_some ⟨uy40, wP125_18_y40, wP125_19_y40⟩
                                · rintro y30 y30r ⟨uy30, wP125_18_y30, wP125_19_y30⟩
                                  have uy30 : Up mu p M N y30 y30r := uy30
                                  have ty30 := by_up t uy30
                                  have wI_y30 := fg_up uy30 hI
                                  have wR_y30 := fg_up uy30 hR
                                  have wV_y30 := fg_up uy30 hV
                                  have wP125_18_y30 : Ag mu y30 y30r 125 18 := wP125_18_y30
                                  have wP125_19_y30 : Ag mu y30 y30r 125 19 := wP125_19_y30
                                  exact rl_some ⟨uy30, wP125_18_y30, wP125_19_y30⟩
                            · rintro y28 y28r ⟨uy28, wP125_18_y28, wP125_19_y28⟩
                              have uy28 : Up mu p M N y28 y28r := uy28
                              have ty28 := by_up t uy28
                              have wI_y28 := fg_up uy28 hI
                              have wR_y28 := fg_up uy28 hR
                              have wV_y28 := fg_up uy28 hV
                              have wP125_18_y28 : Ag mu y28 y28r 125 18 := wP125_18_y28
                              have wP125_19_y28 : Ag mu y28 y28r 125 19 := wP125_19_y28
                              exact rl_some ⟨uy28, wP125_18_y28, wP125_19_y28⟩
                          · refine rl_bnd (b_adopt t i1 iy4_2 (by omega) (by omega) (by omega) (by omega) (by omega) (by omega) hV) ?_
                            rintro y95 y95r ⟨uy95', vP125_18_y95, vP125_19_y95⟩
                            have uy95 : Up mu p M N y95 y95r := uy95'
                            have ty95 := by_up t uy95
                            have wI_y95 := fg_up uy95 hI
                            have wR_y95 := fg_up uy95 hR
                            have wV_y95 := fg_up uy95 hV
                            exact rl_some ⟨uy95, vP125_18_y95, vP125_19_y95⟩
                        · rintro y26 y26r ⟨uy26, wP125_18_y26, wP125_19_y26⟩
                          have uy26 : Up mu p M N y26 y26r := uy26
                          have ty26 := by_up t uy26
                          have wI_y26 := fg_up uy26 hI
                          have wR_y26 := fg_up uy26 hR
                          have wV_y26 := fg_up uy26 hV
                          have wP125_18_y26 : Ag mu y26 y26r 125 18 := wP125_18_y26
                          have wP125_19_y26 : Ag mu y26 y26r 125 19 := wP125_19_y26
                          exact rl_some ⟨uy26, wP125_18_y26, wP125_19_y26⟩
                      · refine rl_bnd (Q := fun (y z : DD) => Up mu p M N y z ∧ Ag mu y z 125 18 ∧ Ag mu y z 125 19) ?_ ?_
                        · refine rl_if (fun c40 => ?_) (fun c40 => ?_)
                          · have dc40 := tl_eq (rfl : TI p5 p5.toInt) tn_3 c40
                            refine rl_bnd (Q := fun (y z : DD) => Up mu p M N y z ∧ Ag mu y z 125 18 ∧ Ag mu y z 125 19) ?_ ?_
                            · refine rl_if (fun c41 => ?_) (fun c41 => ?_)
                              · have dc41 := tl_eq iy12 tn_0 c41
                                refine rl_bnd (Q := fun (y z : DD) => Up mu p M N y z ∧ Ag mu y z 125 18 ∧ Ag mu y z 125 19) ?_ ?_
                                · refine rl_if (fun c42 => ?_) (fun c42 => ?_)
                                  · have dc42 := tl_eq (rfl : TI p5 p5.toInt) tn_4 c42
                                    exfalso
                                    omega
                                  · refine rl_bnd (Q := fun (y z : DD) => Up mu p M N y z ∧ Ag mu y z 125 18 ∧ Ag mu y z 125 19) ?_ ?_
                                    · refine rl_if (fun c43 => ?_) (fun c43 => ?_)
                                      · have dc43 := tl_le tn_0 iy6_2 c43
                                        refine rl_bnd (Q := fun (y z : DD) => Up mu p M N y z ∧ Ag mu y z 125 18 ∧ Ag mu y z 125 19) ?_ ?_
                                        · refine rl_if (fun c44 => ?_) (fun c44 => ?_)
                                          · have dc44 := tl_eq ix21 tn_1 c44
                                            refine rl_bnd (Q := fun (y z : Int32) => y = z ∧ (-1 ≤ y.toInt ∧ y.toInt ≤ 63) ∧ ((-1 ≤ y.toInt ∧ y.toInt ≤ 63) ∧ (0 ≤ y.toInt → y.toInt / 16 ≠ a0 ∨ y.toInt % 16 < a3))) ?_ ?_
                                            · refine rl_if (fun c45 => ?_) (fun c45 => ?_)
                                              · have dc45 := tl_eq iy12 tn_0 c45
                                                refine rl_bnd (Q := fun (y z : Int32) => y = z ∧ (-1 ≤ y.toInt ∧ y.toInt ≤ 63) ∧ ((-1 ≤ y.toInt ∧ y.toInt ≤ 63) ∧ (0 ≤ y.toInt → y.toInt / 16 ≠ a0 ∨ y.toInt % 16 < a3))) ?_ ?_
                                                · refine rl_if (fun c46 => ?_) (fun c46 => ?_)
                                                  · have dc46 := tl_eq iy14 tn_0 c46
                                                    exact rl_some ⟨rfl, (ti_bd iy10_1 (by omega) (by omega)), (by have q : _ = _ := iy10_1; (try dsimp only) <;> omega)⟩
                                                  · exact rl_some ⟨rfl, (ti_bd iy6_2 (by omega) (by omega)), (by have q : _ = _ := iy6_2; (try dsimp only) <;> omega)⟩
                                                · rintro y177 y177r ⟨ey177, ly177, jy177⟩
                                                  obtain rfl : y177 = y177r := ey177
                                                  have ly177 : -1 ≤ y177.toInt ∧ y177.toInt ≤ 63 := ly177
                                                  have iy177 : TI y177 y177.toInt := rfl
                                                  have jy177 : (-1 ≤ y177.toInt ∧ y177.toInt ≤ 63) ∧ (0 ≤ y177.toInt → y177.toInt / 16 ≠ a0 ∨ y177.toInt % 16 < a3) := jy177
                                                  exact rl_some ⟨rfl, (ti_bd iy177 (by omega) (by omega)), (by have q : _ = _ := iy177; (try dsimp only) <;> omega)⟩
                                              · have dc45 := tl_ne iy12 tn_0 c45
                                                exfalso
                                                omega
                                            · rintro y174 y174r ⟨ey174, ly174, jy174⟩
                                              obtain rfl : y174 = y174r := ey174
                                              have ly174 : -1 ≤ y174.toInt ∧ y174.toInt ≤ 63 := ly174
                                              have iy174 : TI y174 y174.toInt := rfl
                                              have jy174 : (-1 ≤ y174.toInt ∧ y174.toInt ≤ 63) ∧ (0 ≤ y174.toInt → y174.toInt / 16 ≠ a0 ∨ y174.toInt % 16 < a3) := jy174
                                              refine rl_bnd (b_adopt t i1 iy174 (by omega) (by omega) (by omega) (by omega) (by omega) (by omega) hV) ?_
                                              rintro y175 y175r ⟨uy175', vP125_18_y175, vP125_19_y175⟩
                                              have uy175 : Up mu p M N y175 y175r := uy175'
                                              have ty175 := by_up t uy175
                                              have wI_y175 := fg_up uy175 hI
                                              have wR_y175 := fg_up uy175 hR
                                              have wV_y175 := fg_up uy175 hV
                                              exact rl_some ⟨uy175, vP125_18_y175, vP125_19_y175⟩
                                          · refine rl_bnd (b_adoptMedian t i1 iy4_2 iy6_2 iy10_1 (by omega) (by omega) (by omega) (by omega) (by omega) (by omega) (by omega) (by omega) (by omega) (by omega) (by omega) hV) ?_
                                            rintro y173 y173r ⟨uy173', vP125_18_y173, vP125_19_y173⟩
                                            have uy173 : Up mu p M N y173 y173r := uy173'
                                            have ty173 := by_up t uy173
                                            have wI_y173 := fg_up uy173 hI
                                            have wR_y173 := fg_up uy173 hR
                                            have wV_y173 := fg_up uy173 hV
                                            exact rl_some ⟨uy173, vP125_18_y173, vP125_19_y173⟩
                                        · rintro y171 y171r ⟨uy171, wP125_18_y171, wP125_19_y171⟩
                                          have uy171 : Up mu p M N y171 y171r := uy171
                                          have ty171 := by_up t uy171
                                          have wI_y171 := fg_up uy171 hI
                                          have wR_y171 := fg_up uy171 hR
                                          have wV_y171 := fg_up uy171 hV
                                          have wP125_18_y171 : Ag mu y171 y171r 125 18 := wP125_18_y171
                                          have wP125_19_y171 : Ag mu y171 y171r 125 19 := wP125_19_y171
                                          exact rl_some ⟨uy171, wP125_18_y171, wP125_19_y171⟩
                                      · have dc43 := tl_nle tn_0 iy6_2 c43
                                        refine rl_bnd (Q := fun (y z : DD) => Up mu p M N y z ∧ Ag mu y z 125 18 ∧ Ag mu y z 125 19) ?_ ?_
                                        · refine rl_if (fun c47 => ?_) (fun c47 => ?_)
                                          · have dc47 := tl_le tn_0 iy10_1 c47
                                            refine rl_bnd (Q := fun (y z : DD) => Up mu p M N y z ∧ Ag mu y z 125 18 ∧ Ag mu y z 125 19) ?_ ?_
                                            · refine rl_if (fun c48 => ?_) (fun c48 => ?_)
                                              · have dc48 := tl_eq ix21 tn_1 c48
                                                refine rl_bnd (Q := fun (y z : Int32) => y = z ∧ (-1 ≤ y.toInt ∧ y.toInt ≤ 63) ∧ ((-1 ≤ y.toInt ∧ y.toInt ≤ 63) ∧ (0 ≤ y.toInt → y.toInt / 16 ≠ a0 ∨ y.toInt % 16 < a3))) ?_ ?_
                                                · refine rl_if (fun c49 => ?_) (fun c49 => ?_)
                                                  · have dc49 := tl_eq iy12 tn_0 c49
                                                    refine rl_bnd (Q := fun (y z : Int32) => y = z ∧ (-1 ≤ y.toInt ∧ y.toInt ≤ 63) ∧ ((-1 ≤ y.toInt ∧ y.toInt ≤ 63) ∧ (0 ≤ y.toInt → y.toInt / 16 ≠ a0 ∨ y.toInt % 16 < a3))) ?_ ?_
                                                    · refine rl_if (fun c50 => ?_) (fun c50 => ?_)
                                                      · have dc50 := tl_eq iy14 tn_0 c50
                                                        exact rl_some ⟨rfl, (ti_bd iy10_1 (by omega) (by omega)), (by have q : _ = _ := iy10_1; (try dsimp only) <;> omega)⟩
                                                      · exact rl_some ⟨rfl, (ti_bd iy6_2 (by omega) (by omega)), (by have q : _ = _ := iy6_2; (try dsimp only) <;> omega)⟩
                                                    · rintro y187 y187r ⟨ey187, ly187, jy187⟩
                                                      obtain rfl : y187 = y187r := ey187
                                                      have ly187 : -1 ≤ y187.toInt ∧ y187.toInt ≤ 63 := ly187
                                                      have iy187 : TI y187 y187.toInt := rfl
                                                      have jy187 : (-1 ≤ y187.toInt ∧ y187.toInt ≤ 63) ∧ (0 ≤ y187.toInt → y187.toInt / 16 ≠ a0 ∨ y187.toInt % 16 < a3) := jy187
                                                      exact rl_some ⟨rfl, (ti_bd iy187 (by omega) (by omega)), (by have q : _ = _ := iy187; (try dsimp only) <;> omega)⟩
                                                  · have dc49 := tl_ne iy12 tn_0 c49
                                                    exfalso
                                                    omega
                                                · rintro y184 y184r ⟨ey184, ly184, jy184⟩
                                                  obtain rfl : y184 = y184r := ey184
                                                  have ly184 : -1 ≤ y184.toInt ∧ y184.toInt ≤ 63 := ly184
                                                  have iy184 : TI y184 y184.toInt := rfl
                                                  have jy184 : (-1 ≤ y184.toInt ∧ y184.toInt ≤ 63) ∧ (0 ≤ y184.toInt → y184.toInt / 16 ≠ a0 ∨ y184.toInt % 16 < a3) := jy184
                                                  refine rl_bnd (b_adopt t i1 iy184 (by omega) (by omega) (by omega) (by omega) (by omega) (by omega) hV) ?_
                                                  rintro y185 y185r ⟨uy185', vP125_18_y185, vP125_19_y185⟩
                                                  have uy185 : Up mu p M N y185 y185r := uy185'
                                                  have ty185 := by_up t uy185
                                                  have wI_y185 := fg_up uy185 hI
                                                  have wR_y185 := fg_up uy185 hR
                                                  have wV_y185 := fg_up uy185 hV
                                                  exact rl_some ⟨uy185, vP125_18_y185, vP125_19_y185⟩
                                              · refine rl_bnd (b_adoptMedian t i1 iy4_2 iy6_2 iy10_1 (by omega) (by omega) (by omega) (by omega) (by omega) (by omega) (by omega) (by omega) (by omega) (by omega) (by omega) hV) ?_
                                                rintro y183 y183r ⟨uy183', vP125_18_y183, vP125_19_y183⟩
                                                have uy183 : Up mu p M N y183 y183r := uy183'
                                                have ty183 := by_up t uy183
                                                have wI_y183 := fg_up uy183 hI
                                                have wR_y183 := fg_up uy183 hR
                                                have wV_y183 := fg_up uy183 hV
                                                exact rl_some ⟨uy183, vP125_18_y183, vP125_19_y183⟩
                                            · rintro y181 y181r ⟨uy181, wP125_18_y181, wP125_19_y181⟩
                                              have uy181 : Up mu p M N y181 y181r := uy181
                                              have ty181 := by_up t uy181
                                              have wI_y181 := fg_up uy181 hI
                                              have wR_y181 := fg_up uy181 hR
                                              have wV_y181 := fg_up uy181 hV
                                              have wP125_18_y181 : Ag mu y181 y181r 125 18 := wP125_18_y181
                                              have wP125_19_y181 : Ag mu y181 y181r 125 19 := wP125_19_y181
                                              exact rl_some ⟨uy181, wP125_18_y181, wP125_19_y181⟩
                                          · have dc47 := tl_nle tn_0 iy10_1 c47
                                            refine rl_bnd (Q := fun (y z : DD) => Up mu p M N y z ∧ Ag mu y z 125 18 ∧ Ag mu y z 125 19) ?_ ?_
                                            · refine rl_if (fun c51 => ?_) (fun c51 => ?_)
                                              · have dc51 := tl_lt iy4_2 tn_0 c51
                                                refine rl_bnd (Q := fun (y z : DD) => Up mu p M N y z ∧ Ag mu y z 125 18 ∧ Ag mu y z 125 19) ?_ ?_
                                                · refine rl_if (fun c52 => ?_) (fun c52 => ?_)
                                                  · have dc52 := tl_eq ix21 tn_1 c52
                                                    refine rl_bnd (Q := fun (y z : Int32) => y = z ∧ (-1 ≤ y.toInt ∧ y.toInt ≤ -1) ∧ ((-1 ≤ y.toInt ∧ y.toInt ≤ 63) ∧ (0 ≤ y.toInt → y.toInt / 16 ≠ a0 ∨ y.toInt % 16 < a3))) ?_ ?_
                                                    · refine rl_if (fun c53 => ?_) (fun c53 => ?_)
                                                      · have dc53 := tl_eq iy12 tn_0 c53
                                                        refine rl_bnd (Q := fun (y z : Int32) => y = z ∧ (-1 ≤ y.toInt ∧ y.toInt ≤ -1) ∧ ((-1 ≤ y.toInt ∧ y.toInt ≤ 63) ∧ (0 ≤ y.toInt → y.toInt / 16 ≠ a0 ∨ y.toInt % 16 < a3))) ?_ ?_
                                                        · refine rl_if (fun c54 => ?_) (fun c54 => ?_)
                                                          · have dc54 := tl_eq iy14 tn_0 c54
                                                            exact rl_some ⟨rfl, (ti_bd iy10_1 (by omega) (by omega)), (by have q : _ = _ := iy10_1; (try dsimp only) <;> omega)⟩
                                                          · exact rl_some ⟨rfl, (ti_bd iy6_2 (by omega) (by omega)), (by have q : _ = _ := iy6_2; (try dsimp only) <;> omega)⟩
                                                        · rintro y197 y197r ⟨ey197, ly197, jy197⟩
                                                          obtain rfl : y197 = y197r := ey197
                                                          have ly197 : -1 ≤ y197.toInt ∧ y197.toInt ≤ -1 := ly197
                                                          have iy197 : TI y197 (-1) := ti_c ly197
                                                          have jy197 : (-1 ≤ y197.toInt ∧ y197.toInt ≤ 63) ∧ (0 ≤ y197.toInt → y197.toInt / 16 ≠ a0 ∨ y197.toInt % 16 < a3) := jy197
                                                          exact rl_some ⟨rfl, (ti_bd iy197 (by omega) (by omega)), (by have q : _ = _ := iy197; (try dsimp only) <;> omega)⟩
                                                      · have dc53 := tl_ne iy12 tn_0 c53
                                                        exfalso
                                                        omega
                                                    · rintro y194 y194r ⟨ey194, ly194, jy194⟩
                                                      obtain rfl : y194 = y194r := ey194
                                                      have ly194 : -1 ≤ y194.toInt ∧ y194.toInt ≤ -1 := ly194
                                                      have iy194 : TI y194 (-1) := ti_c ly194
                                                      have jy194 : (-1 ≤ y194.toInt ∧ y194.toInt ≤ 63) ∧ (0 ≤ y194.toInt → y194.toInt / 16 ≠ a0 ∨ y194.toInt % 16 < a3) := jy194
                                                      refine rl_bnd (b_adopt t i1 iy194 (by omega) (by omega) (by omega) (by omega) (by omega) (by omega) hV) ?_
                                                      rintro y195 y195r ⟨uy195', vP125_18_y195, vP125_19_y195⟩
                                                      have uy195 : Up mu p M N y195 y195r := uy195'
                                                      have ty195 := by_up t uy195
                                                      have wI_y195 := fg_up uy195 hI
                                                      have wR_y195 := fg_up uy195 hR
                                                      have wV_y195 := fg_up uy195 hV
                                                      exact rl_some ⟨uy195, vP125_18_y195, vP125_19_y195⟩
                                                  · refine rl_bnd (b_adoptMedian t i1 iy4_2 iy6_2 iy10_1 (by omega) (by omega) (by omega) (by omega) (by omega) (by omega) (by omega) (by omega) (by omega) (by omega) (by omega) hV) ?_
                                                    rintro y193 y193r ⟨uy193', vP125_18_y193, vP125_19_y193⟩
                                                    have uy193 : Up mu p M N y193 y193r := uy193'
                                                    have ty193 := by_up t uy193
                                                    have wI_y193 := fg_up uy193 hI
                                                    have wR_y193 := fg_up uy193 hR
                                                    have wV_y193 := fg_up uy193 hV
                                                    exact rl_some ⟨uy193, vP125_18_y193, vP125_19_y193⟩
                                                · rintro y191 y191r ⟨uy191, wP125_18_y191, wP125_19_y191⟩
                                                  have uy191 : Up mu p M N y191 y191r := uy191
                                                  have ty191 := by_up t uy191
                                                  have wI_y191 := fg_up uy191 hI
                                                  have wR_y191 := fg_up uy191 hR
                                                  have wV_y191 := fg_up uy191 hV
                                                  have wP125_18_y191 : Ag mu y191 y191r 125 18 := wP125_18_y191
                                                  have wP125_19_y191 : Ag mu y191 y191r 125 19 := wP125_19_y191
                                                  exact rl_some ⟨uy191, wP125_18_y191, wP125_19_y191⟩
                                              · have dc51 := tl_nlt iy4_2 tn_0 c51
                                                refine rl_bnd (b_adopt t i1 iy4_2 (by omega) (by omega) (by omega) (by omega) (by omega) (by omega) hV) ?_
                                                rintro y199 y199r ⟨uy199', vP125_18_y199, vP125_19_y199⟩
                                                have uy199 : Up mu p M N y199 y199r := uy199'
                                                have ty199 := by_up t uy199
                                                have wI_y199 := fg_up uy199 hI
                                                have wR_y199 := fg_up uy199 hR
                                                have wV_y199 := fg_up uy199 hV
                                                exact rl_some ⟨uy199, vP125_18_y199, vP125_19_y199⟩
                                            · rintro y189 y189r ⟨uy189, wP125_18_y189, wP125_19_y189⟩
                                              have uy189 : Up mu p M N y189 y189r := uy189
                                              have ty189 := by_up t uy189
                                              have wI_y189 := fg_up uy189 hI
                                              have wR_y189 := fg_up uy189 hR
                                              have wV_y189 := fg_up uy189 hV
                                              have wP125_18_y189 : Ag mu y189 y189r 125 18 := wP125_18_y189
                                              have wP125_19_y189 : Ag mu y189 y189r 125 19 := wP125_19_y189
                                              exact rl_some ⟨uy189, wP125_18_y189, wP125_19_y189⟩
                                        · rintro y179 y179r ⟨uy179, wP125_18_y179, wP125_19_y179⟩
                                          have uy179 : Up mu p M N y179 y179r := uy179
                                          have ty179 := by_up t uy179
                                          have wI_y179 := fg_up uy179 hI
                                          have wR_y179 := fg_up uy179 hR
                                          have wV_y179 := fg_up uy179 hV
                                          have wP125_18_y179 : Ag mu y179 y179r 125 18 := wP125_18_y179
                                          have wP125_19_y179 : Ag mu y179 y179r 125 19 := wP125_19_y179
                                          exact rl_some ⟨uy179, wP125_18_y179, wP125_19_y179⟩
                                    · rintro y169 y169r ⟨uy169, wP125_18_y169, wP125_19_y169⟩
                                      have uy169 : Up mu p M N y169 y169r := uy169
                                      have ty169 := by_up t uy169
                                      have wI_y169 := fg_up uy169 hI
                                      have wR_y169 := fg_up uy169 hR
                                      have wV_y169 := fg_up uy169 hV
                                      have wP125_18_y169 : Ag mu y169 y169r 125 18 := wP125_18_y169
                                      have wP125_19_y169 : Ag mu y169 y169r 125 19 := wP125_19_y169
                                      exact rl_some ⟨uy169, wP125_18_y169, wP125_19_y169⟩
                                · rintro y167 y167r ⟨uy167, wP125_18_y167, wP125_19_y167⟩
                                  have uy167 : Up mu p M N y167 y167r := uy167
                                  have ty167 := by_up t uy167
                                  have wI_y167 := fg_up uy167 hI
                                  have wR_y167 := fg_up uy167 hR
                                  have wV_y167 := fg_up uy167 hV
                                  have wP125_18_y167 : Ag mu y167 y167r 125 18 := wP125_18_y167
                                  have wP125_19_y167 : Ag mu y167 y167r 125 19 := wP125_19_y167
                                  exact rl_some ⟨uy167, wP125_18_y167, wP125_19_y167⟩
                              · refine rl_bnd (b_adopt t i1 iy4_2 (by omega) (by omega) (by omega) (by omega) (by omega) (by omega) hV) ?_
                                rintro y234 y234r ⟨uy234', vP125_18_y234, vP125_19_y234⟩
                                have uy234 : Up mu p M N y234 y234r := uy234'
                                have ty234 := by_up t uy234
                                have wI_y234 := fg_up uy234 hI
                                have wR_y234 := fg_up uy234 hR
                                have wV_y234 := fg_up uy234 hV
                                exact rl_some ⟨uy234, vP125_18_y234, vP125_19_y234⟩
                            · rintro y165 y165r ⟨uy165, wP125_18_y165, wP125_19_y165⟩
                              have uy165 : Up mu p M N y165 y165r := uy165
                              have ty165 := by_up t uy165
                              have wI_y165 := fg_up uy165 hI
                              have wR_y165 := fg_up uy165 hR
                              have wV_y165 := fg_up uy165 hV
                              have wP125_18_y165 : Ag mu y165 y165r 125 18 := wP125_18_y165
                              have wP125_19_y165 : Ag mu y165 y165r 125 19 := wP125_19_y165
                              exact rl_some ⟨uy165, wP125_18_y165, wP125_19_y165⟩
                          · refine rl_bnd (Q := fun (y z : DD) => Up mu p M N y z ∧ Ag mu y z 125 18 ∧ Ag mu y z 125 19) ?_ ?_
                            · refine rl_if (fun c55 => ?_) (fun c55 => ?_)
                              · have dc55 := tl_eq (rfl : TI p5 p5.toInt) tn_4 c55
                                refine rl_bnd (Q := fun (y z : DD) => Up mu p M N y z ∧ Ag mu y z 125 18 ∧ Ag mu y z 125 19) ?_ ?_
                                · refine rl_if (fun c56 => ?_) (fun c56 => ?_)
                                  · have dc56 := tl_eq iy16 tn_0 c56
                                    refine rl_bnd (Q := fun (y z : DD) => Up mu p M N y z ∧ Ag mu y z 125 18 ∧ Ag mu y z 125 19) ?_ ?_
                                    · refine rl_if (fun c57 => ?_) (fun c57 => ?_)
                                      · have dc57 := tl_le tn_0 iy6_2 c57
                                        refine rl_bnd (Q := fun (y z : DD) => Up mu p M N y z ∧ Ag mu y z 125 18 ∧ Ag mu y z 125 19) ?_ ?_
                                        · refine rl_if (fun c58 => ?_) (fun c58 => ?_)
                                          · have dc58 := tl_eq ix21 tn_1 c58
                                            refine rl_bnd (Q := fun (y z : Int32) => y = z ∧ (-1 ≤ y.toInt ∧ y.toInt ≤ 63) ∧ ((-1 ≤ y.toInt ∧ y.toInt ≤ 63) ∧ (0 ≤ y.toInt → y.toInt / 16 ≠ a0 ∨ y.toInt % 16 < a3))) ?_ ?_
                                            · refine rl_if (fun c59 => ?_) (fun c59 => ?_)
                                              · have dc59 := tl_eq iy12 tn_0 c59
                                                refine rl_bnd (Q := fun (y z : Int32) => y = z ∧ (-1 ≤ y.toInt ∧ y.toInt ≤ 63) ∧ ((-1 ≤ y.toInt ∧ y.toInt ≤ 63) ∧ (0 ≤ y.toInt → y.toInt / 16 ≠ a0 ∨ y.toInt % 16 < a3))) ?_ ?_
                                                · refine rl_if (fun c60 => ?_) (fun c60 => ?_)
                                                  · have dc60 := tl_eq iy14 tn_0 c60
                                                    exact rl_some ⟨rfl, (ti_bd iy10_1 (by omega) (by omega)), (by have q : _ = _ := iy10_1; (try dsimp only) <;> omega)⟩
                                                  · exact rl_some ⟨rfl, (ti_bd iy6_2 (by omega) (by omega)), (by have q : _ = _ := iy6_2; (try dsimp only) <;> omega)⟩
                                                · rintro y141 y141r ⟨ey141, ly141, jy141⟩
                                                  obtain rfl : y141 = y141r := ey141
                                                  have ly141 : -1 ≤ y141.toInt ∧ y141.toInt ≤ 63 := ly141
                                                  have iy141 : TI y141 y141.toInt := rfl
                                                  have jy141 : (-1 ≤ y141.toInt ∧ y141.toInt ≤ 63) ∧ (0 ≤ y141.toInt → y141.toInt / 16 ≠ a0 ∨ y141.toInt % 16 < a3) := jy141
                                                  exact rl_some ⟨rfl, (ti_bd iy141 (by omega) (by omega)), (by have q : _ = _ := iy141; (try dsimp only) <;> omega)⟩
                                              · exact rl_some ⟨rfl, (ti_bd iy4_2 (by omega) (by omega)), (by have q : _ = _ := iy4_2; (try dsimp only) <;> omega)⟩
                                            · rintro y138 y138r ⟨ey138, ly138, jy138⟩
                                              obtain rfl : y138 = y138r := ey138
                                              have ly138 : -1 ≤ y138.toInt ∧ y138.toInt ≤ 63 := ly138
                                              have iy138 : TI y138 y138.toInt := rfl
                                              have jy138 : (-1 ≤ y138.toInt ∧ y138.toInt ≤ 63) ∧ (0 ≤ y138.toInt → y138.toInt / 16 ≠ a0 ∨ y138.toInt % 16 < a3) := jy138
                                              refine rl_bnd (b_adopt t i1 iy138 (by omega) (by omega) (by omega) (by omega) (by omega) (by omega) hV) ?_
                                              rintro y139 y139r ⟨uy139', vP125_18_y139, vP125_19_y139⟩
                                              have uy139 : Up mu p M N y139 y139r := uy139'
                                              have ty139 := by_up t uy139
                                              have wI_y139 := fg_up uy139 hI
                                              have wR_y139 := fg_up uy139 hR
                                              have wV_y139 := fg_up uy139 hV
                                              exact rl_some ⟨uy139, vP125_18_y139, vP125_19_y139⟩
                                          · refine rl_bnd (b_adoptMedian t i1 iy4_2 iy6_2 iy10_1 (by omega) (by omega) (by omega) (by omega) (by omega) (by omega) (by omega) (by omega) (by omega) (by omega) (by omega) hV) ?_
                                            rintro y137 y137r ⟨uy137', vP125_18_y137, vP125_19_y137⟩
                                            have uy137 : Up mu p M N y137 y137r := uy137'
                                            have ty137 := by_up t uy137
                                            have wI_y137 := fg_up uy137 hI
                                            have wR_y137 := fg_up uy137 hR
                                            have wV_y137 := fg_up uy137 hV
                                            exact rl_some ⟨uy137, vP125_18_y137, vP125_19_y137⟩
                                        · rintro y135 y135r ⟨uy135, wP125_18_y135, wP125_19_y135⟩
                                          have uy135 : Up mu p M N y135 y135r := uy135
                                          have ty135 := by_up t uy135
                                          have wI_y135 := fg_up uy135 hI
                                          have wR_y135 := fg_up uy135 hR
                                          have wV_y135 := fg_up uy135 hV
                                          have wP125_18_y135 : Ag mu y135 y135r 125 18 := wP125_18_y135
                                          have wP125_19_y135 : Ag mu y135 y135r 125 19 := wP125_19_y135
                                          exact rl_some ⟨uy135, wP125_18_y135, wP125_19_y135⟩
                                      · have dc57 := tl_nle tn_0 iy6_2 c57
                                        refine rl_bnd (Q := fun (y z : DD) => Up mu p M N y z ∧ Ag mu y z 125 18 ∧ Ag mu y z 125 19) ?_ ?_
                                        · refine rl_if (fun c61 => ?_) (fun c61 => ?_)
                                          · have dc61 := tl_le tn_0 iy10_1 c61
                                            refine rl_bnd (Q := fun (y z : DD) => Up mu p M N y z ∧ Ag mu y z 125 18 ∧ Ag mu y z 125 19) ?_ ?_
                                            · refine rl_if (fun c62 => ?_) (fun c62 => ?_)
                                              · have dc62 := tl_eq ix21 tn_1 c62
                                                refine rl_bnd (Q := fun (y z : Int32) => y = z ∧ (-1 ≤ y.toInt ∧ y.toInt ≤ 63) ∧ ((-1 ≤ y.toInt ∧ y.toInt ≤ 63) ∧ (0 ≤ y.toInt → y.toInt / 16 ≠ a0 ∨ y.toInt % 16 < a3))) ?_ ?_
                                                · refine rl_if (fun c63 => ?_) (fun c63 => ?_)
                                                  · have dc63 := tl_eq iy12 tn_0 c63
                                                    refine rl_bnd (Q := fun (y z : Int32) => y = z ∧ (-1 ≤ y.toInt ∧ y.toInt ≤ 63) ∧ ((-1 ≤ y.toInt ∧ y.toInt ≤ 63) ∧ (0 ≤ y.toInt → y.toInt / 16 ≠ a0 ∨ y.toInt % 16 < a3))) ?_ ?_
                                                    · refine rl_if (fun c64 => ?_) (fun c64 => ?_)
                                                      · have dc64 := tl_eq iy14 tn_0 c64
                                                        exact rl_some ⟨rfl, (ti_bd iy10_1 (by omega) (by omega)), (by have q : _ = _ := iy10_1; (try dsimp only) <;> omega)⟩
                                                      · exact rl_some ⟨rfl, (ti_bd iy6_2 (by omega) (by omega)), (by have q : _ = _ := iy6_2; (try dsimp only) <;> omega)⟩
                                                    · rintro y151 y151r ⟨ey151, ly151, jy151⟩
                                                      obtain rfl : y151 = y151r := ey151
                                                      have ly151 : -1 ≤ y151.toInt ∧ y151.toInt ≤ 63 := ly151
                                                      have iy151 : TI y151 y151.toInt := rfl
                                                      have jy151 : (-1 ≤ y151.toInt ∧ y151.toInt ≤ 63) ∧ (0 ≤ y151.toInt → y151.toInt / 16 ≠ a0 ∨ y151.toInt % 16 < a3) := jy151
                                                      exact rl_some ⟨rfl, (ti_bd iy151 (by omega) (by omega)), (by have q : _ = _ := iy151; (try dsimp only) <;> omega)⟩
                                                  · exact rl_some ⟨rfl, (ti_bd iy4_2 (by omega) (by omega)), (by have q : _ = _ := iy4_2; (try dsimp only) <;> omega)⟩
                                                · rintro y148 y148r ⟨ey148, ly148, jy148⟩
                                                  obtain rfl : y148 = y148r := ey148
                                                  have ly148 : -1 ≤ y148.toInt ∧ y148.toInt ≤ 63 := ly148
                                                  have iy148 : TI y148 y148.toInt := rfl
                                                  have jy148 : (-1 ≤ y148.toInt ∧ y148.toInt ≤ 63) ∧ (0 ≤ y148.toInt → y148.toInt / 16 ≠ a0 ∨ y148.toInt % 16 < a3) := jy148
                                                  refine rl_bnd (b_adopt t i1 iy148 (by omega) (by omega) (by omega) (by omega) (by omega) (by omega) hV) ?_
                                                  rintro y149 y149r ⟨uy149', vP125_18_y149, vP125_19_y149⟩
                                                  have uy149 : Up mu p M N y149 y149r := uy149'
                                                  have ty149 := by_up t uy149
                                                  have wI_y149 := fg_up uy149 hI
                                                  have wR_y149 := fg_up uy149 hR
                                                  have wV_y149 := fg_up uy149 hV
                                                  exact rl_some ⟨uy149, vP125_18_y149, vP125_19_y149⟩
                                              · refine rl_bnd (b_adoptMedian t i1 iy4_2 iy6_2 iy10_1 (by omega) (by omega) (by omega) (by omega) (by omega) (by omega) (by omega) (by omega) (by omega) (by omega) (by omega) hV) ?_
                                                rintro y147 y147r ⟨uy147', vP125_18_y147, vP125_19_y147⟩
                                                have uy147 : Up mu p M N y147 y147r := uy147'
                                                have ty147 := by_up t uy147
                                                have wI_y147 := fg_up uy147 hI
                                                have wR_y147 := fg_up uy147 hR
                                                have wV_y147 := fg_up uy147 hV
                                                exact rl_some ⟨uy147, vP125_18_y147, vP125_19_y147⟩
                                            · rintro y145 y145r ⟨uy145, wP125_18_y145, wP125_19_y145⟩
                                              have uy145 : Up mu p M N y145 y145r := uy145
                                              have ty145 := by_up t uy145
                                              have wI_y145 := fg_up uy145 hI
                                              have wR_y145 := fg_up uy145 hR
                                              have wV_y145 := fg_up uy145 hV
                                              have wP125_18_y145 : Ag mu y145 y145r 125 18 := wP125_18_y145
                                              have wP125_19_y145 : Ag mu y145 y145r 125 19 := wP125_19_y145
                                              exact rl_some ⟨uy145, wP125_18_y145, wP125_19_y145⟩
                                          · have dc61 := tl_nle tn_0 iy10_1 c61
                                            refine rl_bnd (Q := fun (y z : DD) => Up mu p M N y z ∧ Ag mu y z 125 18 ∧ Ag mu y z 125 19) ?_ ?_
                                            · refine rl_if (fun c65 => ?_) (fun c65 => ?_)
                                              · have dc65 := tl_lt iy4_2 tn_0 c65
                                                refine rl_bnd (Q := fun (y z : DD) => Up mu p M N y z ∧ Ag mu y z 125 18 ∧ Ag mu y z 125 19) ?_ ?_
                                                · refine rl_if (fun c66 => ?_) (fun c66 => ?_)
                                                  · have dc66 := tl_eq ix21 tn_1 c66
                                                    refine rl_bnd (Q := fun (y z : Int32) => y = z ∧ (-1 ≤ y.toInt ∧ y.toInt ≤ -1) ∧ ((-1 ≤ y.toInt ∧ y.toInt ≤ 63) ∧ (0 ≤ y.toInt → y.toInt / 16 ≠ a0 ∨ y.toInt % 16 < a3))) ?_ ?_
                                                    · refine rl_if (fun c67 => ?_) (fun c67 => ?_)
                                                      · have dc67 := tl_eq iy12 tn_0 c67
                                                        refine rl_bnd (Q := fun (y z : Int32) => y = z ∧ (-1 ≤ y.toInt ∧ y.toInt ≤ -1) ∧ ((-1 ≤ y.toInt ∧ y.toInt ≤ 63) ∧ (0 ≤ y.toInt → y.toInt / 16 ≠ a0 ∨ y.toInt % 16 < a3))) ?_ ?_
                                                        · refine rl_if (fun c68 => ?_) (fun c68 => ?_)
                                                          · have dc68 := tl_eq iy14 tn_0 c68
                                                            exact rl_some ⟨rfl, (ti_bd iy10_1 (by omega) (by omega)), (by have q : _ = _ := iy10_1; (try dsimp only) <;> omega)⟩
                                                          · exact rl_some ⟨rfl, (ti_bd iy6_2 (by omega) (by omega)), (by have q : _ = _ := iy6_2; (try dsimp only) <;> omega)⟩
                                                        · rintro y161 y161r ⟨ey161, ly161, jy161⟩
                                                          obtain rfl : y161 = y161r := ey161
                                                          have ly161 : -1 ≤ y161.toInt ∧ y161.toInt ≤ -1 := ly161
                                                          have iy161 : TI y161 (-1) := ti_c ly161
                                                          have jy161 : (-1 ≤ y161.toInt ∧ y161.toInt ≤ 63) ∧ (0 ≤ y161.toInt → y161.toInt / 16 ≠ a0 ∨ y161.toInt % 16 < a3) := jy161
                                                          exact rl_some ⟨rfl, (ti_bd iy161 (by omega) (by omega)), (by have q : _ = _ := iy161; (try dsimp only) <;> omega)⟩
                                                      · exact rl_some ⟨rfl, (ti_bd iy4_2 (by omega) (by omega)), (by have q : _ = _ := iy4_2; (try dsimp only) <;> omega)⟩
                                                    · rintro y158 y158r ⟨ey158, ly158, jy158⟩
                                                      obtain rfl : y158 = y158r := ey158
                                                      have ly158 : -1 ≤ y158.toInt ∧ y158.toInt ≤ -1 := ly158
                                                      have iy158 : TI y158 (-1) := ti_c ly158
                                                      have jy158 : (-1 ≤ y158.toInt ∧ y158.toInt ≤ 63) ∧ (0 ≤ y158.toInt → y158.toInt / 16 ≠ a0 ∨ y158.toInt % 16 < a3) := jy158
                                                      refine rl_bnd (b_adopt t i1 iy158 (by omega) (by omega) (by omega) (by omega) (by omega) (by omega) hV) ?_
                                                      rintro y159 y159r ⟨uy159', vP125_18_y159, vP125_19_y159⟩
                                                      have uy159 : Up mu p M N y159 y159r := uy159'
                                                      have ty159 := by_up t uy159
                                                      have wI_y159 := fg_up uy159 hI
                                                      have wR_y159 := fg_up uy159 hR
                                                      have wV_y159 := fg_up uy159 hV
                                                      exact rl_some ⟨uy159, vP125_18_y159, vP125_19_y159⟩
                                                  · refine rl_bnd (b_adoptMedian t i1 iy4_2 iy6_2 iy10_1 (by omega) (by omega) (by omega) (by omega) (by omega) (by omega) (by omega) (by omega) (by omega) (by omega) (by omega) hV) ?_
                                                    rintro y157 y157r ⟨uy157', vP125_18_y157, vP125_19_y157⟩
                                                    have uy157 : Up mu p M N y157 y157r := uy157'
                                                    have ty157 := by_up t uy157
                                                    have wI_y157 := fg_up uy157 hI
                                                    have wR_y157 := fg_up uy157 hR
                                                    have wV_y157 := fg_up uy157 hV
                                                    exact rl_some ⟨uy157, vP125_18_y157, vP125_19_y157⟩
                                                · rintro y155 y155r ⟨uy155, wP125_18_y155, wP125_19_y155⟩
                                                  have uy155 : Up mu p M N y155 y155r := uy155
                                                  have ty155 := by_up t uy155
                                                  have wI_y155 := fg_up uy155 hI
                                                  have wR_y155 := fg_up uy155 hR
                                                  have wV_y155 := fg_up uy155 hV
                                                  have wP125_18_y155 : Ag mu y155 y155r 125 18 := wP125_18_y155
                                                  have wP125_19_y155 : Ag mu y155 y155r 125 19 := wP125_19_y155
                                                  exact rl_some ⟨uy155, wP125_18_y155, wP125_19_y155⟩
                                              · have dc65 := tl_nlt iy4_2 tn_0 c65
                                                refine rl_bnd (b_adopt t i1 iy4_2 (by omega) (by omega) (by omega) (by omega) (by omega) (by omega) hV) ?_
                                                rintro y163 y163r ⟨uy163', vP125_18_y163, vP125_19_y163⟩
                                                have uy163 : Up mu p M N y163 y163r := uy163'
                                                have ty163 := by_up t uy163
                                                have wI_y163 := fg_up uy163 hI
                                                have wR_y163 := fg_up uy163 hR
                                                have wV_y163 := fg_up uy163 hV
                                                exact rl_some ⟨uy163, vP125_18_y163, vP125_19_y163⟩
                                            · rintro y153 y153r ⟨uy153, wP125_18_y153, wP125_19_y153⟩
                                              have uy153 : Up mu p M N y153 y153r := uy153
                                              have ty153 := by_up t uy153
                                              have wI_y153 := fg_up uy153 hI
                                              have wR_y153 := fg_up uy153 hR
                                              have wV_y153 := fg_up uy153 hV
                                              have wP125_18_y153 : Ag mu y153 y153r 125 18 := wP125_18_y153
                                              have wP125_19_y153 : Ag mu y153 y153r 125 19 := wP125_19_y153
                                              exact rl_some ⟨uy153, wP125_18_y153, wP125_19_y153⟩
                                        · rintro y143 y143r ⟨uy143, wP125_18_y143, wP125_19_y143⟩
                                          have uy143 : Up mu p M N y143 y143r := uy143
                                          have ty143 := by_up t uy143
                                          have wI_y143 := fg_up uy143 hI
                                          have wR_y143 := fg_up uy143 hR
                                          have wV_y143 := fg_up uy143 hV
                                          have wP125_18_y143 : Ag mu y143 y143r 125 18 := wP125_18_y143
                                          have wP125_19_y143 : Ag mu y143 y143r 125 19 := wP125_19_y143
                                          exact rl_some ⟨uy143, wP125_18_y143, wP125_19_y143⟩
                                    · rintro y133 y133r ⟨uy133, wP125_18_y133, wP125_19_y133⟩
                                      have uy133 : Up mu p M N y133 y133r := uy133
                                      have ty133 := by_up t uy133
                                      have wI_y133 := fg_up uy133 hI
                                      have wR_y133 := fg_up uy133 hR
                                      have wV_y133 := fg_up uy133 hV
                                      have wP125_18_y133 : Ag mu y133 y133r 125 18 := wP125_18_y133
                                      have wP125_19_y133 : Ag mu y133 y133r 125 19 := wP125_19_y133
                                      exact rl_some ⟨uy133, wP125_18_y133, wP125_19_y133⟩
                                  · refine rl_bnd (b_adopt t i1 iy10_1 (by omega) (by omega) (by omega) (by omega) (by omega) (by omega) hV) ?_
                                    rintro y164 y164r ⟨uy164', vP125_18_y164, vP125_19_y164⟩
                                    have uy164 : Up mu p M N y164 y164r := uy164'
                                    have ty164 := by_up t uy164
                                    have wI_y164 := fg_up uy164 hI
                                    have wR_y164 := fg_up uy164 hR
                                    have wV_y164 := fg_up uy164 hV
                                    exact rl_some ⟨uy164, vP125_18_y164, vP125_19_y164⟩
                                · rintro y131 y131r ⟨uy131, wP125_18_y131, wP125_19_y131⟩
                                  have uy131 : Up mu p M N y131 y131r := uy131
                                  have ty131 := by_up t uy131
                                  have wI_y131 := fg_up uy131 hI
                                  have wR_y131 := fg_up uy131 hR
                                  have wV_y131 := fg_up uy131 hV
                                  have wP125_18_y131 : Ag mu y131 y131r 125 18 := wP125_18_y131
                                  have wP125_19_y131 : Ag mu y131 y131r 125 19 := wP125_19_y131
                                  exact rl_some ⟨uy131, wP125_18_y131, wP125_19_y131⟩
                              · refine rl_bnd (Q := fun (y z : DD) => Up mu p M N y z ∧ Ag mu y z 125 18 ∧ Ag mu y z 125 19) ?_ ?_
                                · refine rl_if (fun c69 => ?_) (fun c69 => ?_)
                                  · have dc69 := tl_le tn_0 iy6_2 c69
                                    refine rl_bnd (Q := fun (y z : DD) => Up mu p M N y z ∧ Ag mu y z 125 18 ∧ Ag mu y z 125 19) ?_ ?_
                                    · refine rl_if (fun c70 => ?_) (fun c70 => ?_)
                                      · have dc70 := tl_eq ix21 tn_1 c70
                                        refine rl_bnd (Q := fun (y z : Int32) => y = z ∧ (-1 ≤ y.toInt ∧ y.toInt ≤ 63) ∧ ((-1 ≤ y.toInt ∧ y.toInt ≤ 63) ∧ (0 ≤ y.toInt → y.toInt / 16 ≠ a0 ∨ y.toInt % 16 < a3))) ?_ ?_
                                        · refine rl_if (fun c71 => ?_) (fun c71 => ?_)
                                          · have dc71 := tl_eq iy12 tn_0 c71
                                            refine rl_bnd (Q := fun (y z : Int32) => y = z ∧ (-1 ≤ y.toInt ∧ y.toInt ≤ 63) ∧ ((-1 ≤ y.toInt ∧ y.toInt ≤ 63) ∧ (0 ≤ y.toInt → y.toInt / 16 ≠ a0 ∨ y.toInt % 16 < a3))) ?_ ?_
                                            · refine rl_if (fun c72 => ?_) (fun c72 => ?_)
                                              · have dc72 := tl_eq iy14 tn_0 c72
                                                exact rl_some ⟨rfl, (ti_bd iy10_1 (by omega) (by omega)), (by have q : _ = _ := iy10_1; (try dsimp only) <;> omega)⟩
                                              · exact rl_some ⟨rfl, (ti_bd iy6_2 (by omega) (by omega)), (by have q : _ = _ := iy6_2; (try dsimp only) <;> omega)⟩
                                            · rintro y108 y108r ⟨ey108, ly108, jy108⟩
                                              obtain rfl : y108 = y108r := ey108
                                              have ly108 : -1 ≤ y108.toInt ∧ y108.toInt ≤ 63 := ly108
                                              have iy108 : TI y108 y108.toInt := rfl
                                              have jy108 : (-1 ≤ y108.toInt ∧ y108.toInt ≤ 63) ∧ (0 ≤ y108.toInt → y108.toInt / 16 ≠ a0 ∨ y108.toInt % 16 < a3) := jy108
                                              exact rl_some ⟨rfl, (ti_bd iy108 (by omega) (by omega)), (by have q : _ = _ := iy108; (try dsimp only) <;> omega)⟩
                                          · exact rl_some ⟨rfl, (ti_bd iy4_2 (by omega) (by omega)), (by have q : _ = _ := iy4_2; (try dsimp only) <;> omega)⟩
                                        · rintro y105 y105r ⟨ey105, ly105, jy105⟩
                                          obtain rfl : y105 = y105r := ey105
                                          have ly105 : -1 ≤ y105.toInt ∧ y105.toInt ≤ 63 := ly105
                                          have iy105 : TI y105 y105.toInt := rfl
                                          have jy105 : (-1 ≤ y105.toInt ∧ y105.toInt ≤ 63) ∧ (0 ≤ y105.toInt → y105.toInt / 16 ≠ a0 ∨ y105.toInt % 16 < a3) := jy105
                                          refine rl_bnd (b_adopt t i1 iy105 (by omega) (by omega) (by omega) (by omega) (by omega) (by omega) hV) ?_
                                          rintro y106 y106r ⟨uy106', vP125_18_y106, vP125_19_y106⟩
                                          have uy106 : Up mu p M N y106 y106r := uy106'
                                          have ty106 := by_up t uy106
                                          have wI_y106 := fg_up uy106 hI
                                          have wR_y106 := fg_up uy106 hR
                                          have wV_y106 := fg_up uy106 hV
                                          exact rl_some ⟨uy106, vP125_18_y106, vP125_19_y106⟩
                                      · refine rl_bnd (b_adoptMedian t i1 iy4_2 iy6_2 iy10_1 (by omega) (by omega) (by omega) (by omega) (by omega) (by omega) (by omega) (by omega) (by omega) (by omega) (by omega) hV) ?_
                                        rintro y104 y104r ⟨uy104', vP125_18_y104, vP125_19_y104⟩
                                        have uy104 : Up mu p M N y104 y104r := uy104'
                                        have ty104 := by_up t uy104
                                        have wI_y104 := fg_up uy104 hI
                                        have wR_y104 := fg_up uy104 hR
                                        have wV_y104 := fg_up uy104 hV
                                        exact rl_some ⟨uy104, vP125_18_y104, vP125_19_y104⟩
                                    · rintro y102 y102r ⟨uy102, wP125_18_y102, wP125_19_y102⟩
                                      have uy102 : Up mu p M N y102 y102r := uy102
                                      have ty102 := by_up t uy102
                                      have wI_y102 := fg_up uy102 hI
                                      have wR_y102 := fg_up uy102 hR
                                      have wV_y102 := fg_up uy102 hV
                                      have wP125_18_y102 : Ag mu y102 y102r 125 18 := wP125_18_y102
                                      have wP125_19_y102 : Ag mu y102 y102r 125 19 := wP125_19_y102
                                      exact rl_some ⟨uy102, wP125_18_y102, wP125_19_y102⟩
                                  · have dc69 := tl_nle tn_0 iy6_2 c69
                                    refine rl_bnd (Q := fun (y z : DD) => Up mu p M N y z ∧ Ag mu y z 125 18 ∧ Ag mu y z 125 19) ?_ ?_
                                    · refine rl_if (fun c73 => ?_) (fun c73 => ?_)
                                      · have dc73 := tl_le tn_0 iy10_1 c73
                                        refine rl_bnd (Q := fun (y z : DD) => Up mu p M N y z ∧ Ag mu y z 125 18 ∧ Ag mu y z 125 19) ?_ ?_
                                        · refine rl_if (fun c74 => ?_) (fun c74 => ?_)
                                          · have dc74 := tl_eq ix21 tn_1 c74
                                            refine rl_bnd (Q := fun (y z : Int32) => y = z ∧ (-1 ≤ y.toInt ∧ y.toInt ≤ 63) ∧ ((-1 ≤ y.toInt ∧ y.toInt ≤ 63) ∧ (0 ≤ y.toInt → y.toInt / 16 ≠ a0 ∨ y.toInt % 16 < a3))) ?_ ?_
                                            · refine rl_if (fun c75 => ?_) (fun c75 => ?_)
                                              · have dc75 := tl_eq iy12 tn_0 c75
                                                refine rl_bnd (Q := fun (y z : Int32) => y = z ∧ (-1 ≤ y.toInt ∧ y.toInt ≤ 63) ∧ ((-1 ≤ y.toInt ∧ y.toInt ≤ 63) ∧ (0 ≤ y.toInt → y.toInt / 16 ≠ a0 ∨ y.toInt % 16 < a3))) ?_ ?_
                                                · refine rl_if (fun c76 => ?_) (fun c76 => ?_)
                                                  · have dc76 := tl_eq iy14 tn_0 c76
                                                    exact rl_some ⟨rfl, (ti_bd iy10_1 (by omega) (by omega)), (by have q : _ = _ := iy10_1; (try dsimp only) <;> omega)⟩
                                                  · exact rl_some ⟨rfl, (ti_bd iy6_2 (by omega) (by omega)), (by have q : _ = _ := iy6_2; (try dsimp only) <;> omega)⟩
                                                · rintro y118 y118r ⟨ey118, ly118, jy118⟩
                                                  obtain rfl : y118 = y118r := ey118
                                                  have ly118 : -1 ≤ y118.toInt ∧ y118.toInt ≤ 63 := ly118
                                                  have iy118 : TI y118 y118.toInt := rfl
                                                  have jy118 : (-1 ≤ y118.toInt ∧ y118.toInt ≤ 63) ∧ (0 ≤ y118.toInt → y118.toInt / 16 ≠ a0 ∨ y118.toInt % 16 < a3) := jy118
                                                  exact rl_some ⟨rfl, (ti_bd iy118 (by omega) (by omega)), (by have q : _ = _ := iy118; (try dsimp only) <;> omega)⟩
                                              · exact rl_some ⟨rfl, (ti_bd iy4_2 (by omega) (by omega)), (by have q : _ = _ := iy4_2; (try dsimp only) <;> omega)⟩
                                            · rintro y115 y115r ⟨ey115, ly115, jy115⟩
                                              obtain rfl : y115 = y115r := ey115
                                              have ly115 : -1 ≤ y115.toInt ∧ y115.toInt ≤ 63 := ly115
                                              have iy115 : TI y115 y115.toInt := rfl
                                              have jy115 : (-1 ≤ y115.toInt ∧ y115.toInt ≤ 63) ∧ (0 ≤ y115.toInt → y115.toInt / 16 ≠ a0 ∨ y115.toInt % 16 < a3) := jy115
                                              refine rl_bnd (b_adopt t i1 iy115 (by omega) (by omega) (by omega) (by omega) (by omega) (by omega) hV) ?_
                                              rintro y116 y116r ⟨uy116', vP125_18_y116, vP125_19_y116⟩
                                              have uy116 : Up mu p M N y116 y116r := uy116'
                                              have ty116 := by_up t uy116
                                              have wI_y116 := fg_up uy116 hI
                                              have wR_y116 := fg_up uy116 hR
                                              have wV_y116 := fg_up uy116 hV
                                              exact rl_some ⟨uy116, vP125_18_y116, vP125_19_y116⟩
                                          · refine rl_bnd (b_adoptMedian t i1 iy4_2 iy6_2 iy10_1 (by omega) (by omega) (by omega) (by omega) (by omega) (by omega) (by omega) (by omega) (by omega) (by omega) (by omega) hV) ?_
                                            rintro y114 y114r ⟨uy114', vP125_18_y114, vP125_19_y114⟩
                                            have uy114 : Up mu p M N y114 y114r := uy114'
                                            have ty114 := by_up t uy114
                                            have wI_y114 := fg_up uy114 hI
                                            have wR_y114 := fg_up uy114 hR
                                            have wV_y114 := fg_up uy114 hV
                                            exact rl_some ⟨uy114, vP125_18_y114, vP125_19_y114⟩
                                        · rintro y112 y112r ⟨uy112, wP125_18_y112, wP125_19_y112⟩
                                          have uy112 : Up mu p M N y112 y112r := uy112
                                          have ty112 := by_up t uy112
                                          have wI_y112 := fg_up uy112 hI
                                          have wR_y112 := fg_up uy112 hR
                                          have wV_y112 := fg_up uy112 hV
                                          have wP125_18_y112 : Ag mu y112 y112r 125 18 := wP125_18_y112
                                          have wP125_19_y112 : Ag mu y112 y112r 125 19 := wP125_19_y112
                                          exact rl_some ⟨uy112, wP125_18_y112, wP125_19_y112⟩
                                      · have dc73 := tl_nle tn_0 iy10_1 c73
                                        refine rl_bnd (Q := fun (y z : DD) => Up mu p M N y z ∧ Ag mu y z 125 18 ∧ Ag mu y z 125 19) ?_ ?_
                                        · refine rl_if (fun c77 => ?_) (fun c77 => ?_)
                                          · have dc77 := tl_lt iy4_2 tn_0 c77
                                            refine rl_bnd (Q := fun (y z : DD) => Up mu p M N y z ∧ Ag mu y z 125 18 ∧ Ag mu y z 125 19) ?_ ?_
                                            · refine rl_if (fun c78 => ?_) (fun c78 => ?_)
                                              · have dc78 := tl_eq ix21 tn_1 c78
                                                refine rl_bnd (Q := fun (y z : Int32) => y = z ∧ (-1 ≤ y.toInt ∧ y.toInt ≤ -1) ∧ ((-1 ≤ y.toInt ∧ y.toInt ≤ 63) ∧ (0 ≤ y.toInt → y.toInt / 16 ≠ a0 ∨ y.toInt % 16 < a3))) ?_ ?_
                                                · refine rl_if (fun c79 => ?_) (fun c79 => ?_)
                                                  · have dc79 := tl_eq iy12 tn_0 c79
                                                    refine rl_bnd (Q := fun (y z : Int32) => y = z ∧ (-1 ≤ y.toInt ∧ y.toInt ≤ -1) ∧ ((-1 ≤ y.toInt ∧ y.toInt ≤ 63) ∧ (0 ≤ y.toInt → y.toInt / 16 ≠ a0 ∨ y.toInt % 16 < a3))) ?_ ?_
                                                    · refine rl_if (fun c80 => ?_) (fun c80 => ?_)
                                                      · have dc80 := tl_eq iy14 tn_0 c80
                                                        exact rl_some ⟨rfl, (ti_bd iy10_1 (by omega) (by omega)), (by have q : _ = _ := iy10_1; (try dsimp only) <;> omega)⟩
                                                      · exact rl_some ⟨rfl, (ti_bd iy6_2 (by omega) (by omega)), (by have q : _ = _ := iy6_2; (try dsimp only) <;> omega)⟩
                                                    · rintro y128 y128r ⟨ey128, ly128, jy128⟩
                                                      obtain rfl : y128 = y128r := ey128
                                                      have ly128 : -1 ≤ y128.toInt ∧ y128.toInt ≤ -1 := ly128
                                                      have iy128 : TI y128 (-1) := ti_c ly128
                                                      have jy128 : (-1 ≤ y128.toInt ∧ y128.toInt ≤ 63) ∧ (0 ≤ y128.toInt → y128.toInt / 16 ≠ a0 ∨ y128.toInt % 16 < a3) := jy128
                                                      exact rl_some ⟨rfl, (ti_bd iy128 (by omega) (by omega)), (by have q : _ = _ := iy128; (try dsimp only) <;> omega)⟩
                                                  · exact rl_some ⟨rfl, (ti_bd iy4_2 (by omega) (by omega)), (by have q : _ = _ := iy4_2; (try dsimp only) <;> omega)⟩
                                                · rintro y125 y125r ⟨ey125, ly125, jy125⟩
                                                  obtain rfl : y125 = y125r := ey125
                                                  have ly125 : -1 ≤ y125.toInt ∧ y125.toInt ≤ -1 := ly125
                                                  have iy125 : TI y125 (-1) := ti_c ly125
                                                  have jy125 : (-1 ≤ y125.toInt ∧ y125.toInt ≤ 63) ∧ (0 ≤ y125.toInt → y125.toInt / 16 ≠ a0 ∨ y125.toInt % 16 < a3) := jy125
                                                  refine rl_bnd (b_adopt t i1 iy125 (by omega) (by omega) (by omega) (by omega) (by omega) (by omega) hV) ?_
                                                  rintro y126 y126r ⟨uy126', vP125_18_y126, vP125_19_y126⟩
                                                  have uy126 : Up mu p M N y126 y126r := uy126'
                                                  have ty126 := by_up t uy126
                                                  have wI_y126 := fg_up uy126 hI
                                                  have wR_y126 := fg_up uy126 hR
                                                  have wV_y126 := fg_up uy126 hV
                                                  exact rl_some ⟨uy126, vP125_18_y126, vP125_19_y126⟩
                                              · refine rl_bnd (b_adoptMedian t i1 iy4_2 iy6_2 iy10_1 (by omega) (by omega) (by omega) (by omega) (by omega) (by omega) (by omega) (by omega) (by omega) (by omega) (by omega) hV) ?_
                                                rintro y124 y124r ⟨uy124', vP125_18_y124, vP125_19_y124⟩
                                                have uy124 : Up mu p M N y124 y124r := uy124'
                                                have ty124 := by_up t uy124
                                                have wI_y124 := fg_up uy124 hI
                                                have wR_y124 := fg_up uy124 hR
                                                have wV_y124 := fg_up uy124 hV
                                                exact rl_some ⟨uy124, vP125_18_y124, vP125_19_y124⟩
                                            · rintro y122 y122r ⟨uy122, wP125_18_y122, wP125_19_y122⟩
                                              have uy122 : Up mu p M N y122 y122r := uy122
                                              have ty122 := by_up t uy122
                                              have wI_y122 := fg_up uy122 hI
                                              have wR_y122 := fg_up uy122 hR
                                              have wV_y122 := fg_up uy122 hV
                                              have wP125_18_y122 : Ag mu y122 y122r 125 18 := wP125_18_y122
                                              have wP125_19_y122 : Ag mu y122 y122r 125 19 := wP125_19_y122
                                              exact rl_some ⟨uy122, wP125_18_y122, wP125_19_y122⟩
                                          · have dc77 := tl_nlt iy4_2 tn_0 c77
                                            refine rl_bnd (b_adopt t i1 iy4_2 (by omega) (by omega) (by omega) (by omega) (by omega) (by omega) hV) ?_
                                            rintro y130 y130r ⟨uy130', vP125_18_y130, vP125_19_y130⟩
                                            have uy130 : Up mu p M N y130 y130r := uy130'
                                            have ty130 := by_up t uy130
                                            have wI_y130 := fg_up uy130 hI
                                            have wR_y130 := fg_up uy130 hR
                                            have wV_y130 := fg_up uy130 hV
                                            exact rl_some ⟨uy130, vP125_18_y130, vP125_19_y130⟩
                                        · rintro y120 y120r ⟨uy120, wP125_18_y120, wP125_19_y120⟩
                                          have uy120 : Up mu p M N y120 y120r := uy120
                                          have ty120 := by_up t uy120
                                          have wI_y120 := fg_up uy120 hI
                                          have wR_y120 := fg_up uy120 hR
                                          have wV_y120 := fg_up uy120 hV
                                          have wP125_18_y120 : Ag mu y120 y120r 125 18 := wP125_18_y120
                                          have wP125_19_y120 : Ag mu y120 y120r 125 19 := wP125_19_y120
                                          exact rl_some ⟨uy120, wP125_18_y120, wP125_19_y120⟩
                                    · rintro y110 y110r ⟨uy110, wP125_18_y110, wP125_19_y110⟩
                                      have uy110 : Up mu p M N y110 y110r := uy110
                                      have ty110 := by_up t uy110
                                      have wI_y110 := fg_up uy110 hI
                                      have wR_y110 := fg_up uy110 hR
                                      have wV_y110 := fg_up uy110 hV
                                      have wP125_18_y110 : Ag mu y110 y110r 125 18 := wP125_18_y110
                                      have wP125_19_y110 : Ag mu y110 y110r 125 19 := wP125_19_y110
                                      exact rl_some ⟨uy110, wP125_18_y110, wP125_19_y110⟩
                                · rintro y100 y100r ⟨uy100, wP125_18_y100, wP125_19_y100⟩
                                  have uy100 : Up mu p M N y100 y100r := uy100
                                  have ty100 := by_up t uy100
                                  have wI_y100 := fg_up uy100 hI
                                  have wR_y100 := fg_up uy100 hR
                                  have wV_y100 := fg_up uy100 hV
                                  have wP125_18_y100 : Ag mu y100 y100r 125 18 := wP125_18_y100
                                  have wP125_19_y100 : Ag mu y100 y100r 125 19 := wP125_19_y100
                                  exact rl_some ⟨uy100, wP125_18_y100, wP125_19_y100⟩
                            · rintro y98 y98r ⟨uy98, wP125_18_y98, wP125_19_y98⟩
                              have uy98 : Up mu p M N y98 y98r := uy98
                              have ty98 := by_up t uy98
                              have wI_y98 := fg_up uy98 hI
                              have wR_y98 := fg_up uy98 hR
                              have wV_y98 := fg_up uy98 hV
                              have wP125_18_y98 : Ag mu y98 y98r 125 18 := wP125_18_y98
                              have wP125_19_y98 : Ag mu y98 y98r 125 19 := wP125_19_y98
                              exact rl_some ⟨uy98, wP125_18_y98, wP125_19_y98⟩
                        · rintro y96 y96r ⟨uy96, wP125_18_y96, wP125_19_y96⟩
                          have uy96 : Up mu p M N y96 y96r := uy96
                          have ty96 := by_up t uy96
                          have wI_y96 := fg_up uy96 hI
                          have wR_y96 := fg_up uy96 hR
                          have wV_y96 := fg_up uy96 hV
                          have wP125_18_y96 : Ag mu y96 y96r 125 18 := wP125_18_y96
                          have wP125_19_y96 : Ag mu y96 y96r 125 19 := wP125_19_y96
                          exact rl_some ⟨uy96, wP125_18_y96, wP125_19_y96⟩
                    · rintro y24 y24r ⟨uy24, wP125_18_y24, wP125_19_y24⟩
                      have uy24 : Up mu p M N y24 y24r := uy24
                      have ty24 := by_up t uy24
                      have wI_y24 := fg_up uy24 hI
                      have wR_y24 := fg_up uy24 hR
                      have wV_y24 := fg_up uy24 hV
                      have wP125_18_y24 : Ag mu y24 y24r 125 18 := wP125_18_y24
                      have wP125_19_y24 : Ag mu y24 y24r 125 19 := wP125_19_y24
                      exact rl_some ⟨uy24, wP125_18_y24, wP125_19_y24⟩
                · rintro y22 y22r ⟨uy22, wP125_18_y22, wP125_19_y22⟩
                  have uy22 : Up mu p M N y22 y22r := uy22
                  have ty22 := by_up t uy22
                  have wI_y22 := fg_up uy22 hI
                  have wR_y22 := fg_up uy22 hR
                  have wV_y22 := fg_up uy22 hV
                  have wP125_18_y22 : Ag mu y22 y22r 125 18 := wP125_18_y22
                  have wP125_19_y22 : Ag mu y22 y22r 125 19 := wP125_19_y22
                  exact rl_some ⟨uy22, wP125_18_y22, wP125_19_y22⟩
