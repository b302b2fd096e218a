/-! two runs in lockstep, printed out of the functions' trees -/
theorem b_pieceX {mu : Nat → Nat} {G H : GG} {M N : DD} {p : Nat} {L : List Nat} (t : BX mu G H M N p L) {p0 : Int32} {a0 : Int} (i0 : TI p0 a0) (h0 : 0 ≤ a0) (h1 : a0 ≤ 16) : LKS (FX9_pieceX G M p0) (FX9_pieceX H N p0) (fun y z => M = y.1 ∧ N = z.1 ∧ y.2 = z.2 ∧ TI y.2 (8 * (a0 / 4 % 2) + 4 * (a0 % 2))) := by
  unfold FX9_pieceX
  refine rl_ltI (av_div i0 tn_4 (by omega) (by omega)) (fun x1 ix1 => ?_)
  refine rl_ltI (av_mod ix1 tn_2 (by omega) (by omega)) (fun x2 ix2 => ?_)
  refine rl_ltI (av_mul tn_8 ix2 (by omega) (by omega)) (fun x3 ix3 => ?_)
  refine rl_ltI (av_mod i0 tn_2 (by omega) (by omega)) (fun x4 ix4 => ?_)
  refine rl_ltI (av_mul tn_4 ix4 (by omega) (by omega)) (fun x5 ix5 => ?_)
  refine rl_ltI (av_add ix3 ix5 (by omega) (by omega)) (fun x6 ix6 => ?_)
  exact rl_some ⟨rfl, rfl, rfl, (ix6)⟩
theorem b_pieceY {mu : Nat → Nat} {G H : GG} {M N : DD} {p : Nat} {L : List Nat} (t : BX mu G H M N p L) {p0 : Int32} {a0 : Int} (i0 : TI p0 a0) (h0 : 0 ≤ a0) (h1 : a0 ≤ 16) : LKS (FX9_pieceY G M p0) (FX9_pieceY H N p0) (fun y z => M = y.1 ∧ N = z.1 ∧ y.2 = z.2 ∧ TI y.2 (8 * (a0 / 8) + 4 * (a0 / 2 % 2))) := by
  unfold FX9_pieceY
  refine rl_ltI (av_div i0 tn_8 (by omega) (by omega)) (fun x1 ix1 => ?_)
  refine rl_ltI (av_mul tn_8 ix1 (by omega) (by omega)) (fun x2 ix2 => ?_)
  refine rl_ltI (av_div i0 tn_2 (by omega) (by omega)) (fun x3 ix3 => ?_)
  refine rl_ltI (av_mod ix3 tn_2 (by omega) (by omega)) (fun x4 ix4 => ?_)
  refine rl_ltI (av_mul tn_4 ix4 (by omega) (by omega)) (fun x5 ix5 => ?_)
  refine rl_ltI (av_add ix2 ix5 (by omega) (by omega)) (fun x6 ix6 => ?_)
  exact rl_some ⟨rfl, rfl, rfl, (ix6)⟩
theorem b_at {mu : Nat → Nat} {G H : GG} {M N : DD} {p : Nat} {L : List Nat} (t : BX mu G H M N p L) {p0 : Int32} {a0 : Int} (i0 : TI p0 a0) {p1 : Int32} {a1 : Int} (i1 : TI p1 a1) (h0 : 0 ≤ a0) (h1 : a0 ≤ 1) (h2 : 0 ≤ a1) (h3 : a1 ≤ 511) : LKS (FX4_at G M p0 p1) (FX4_at H N p0 p1) (fun y z => M = y.1 ∧ N = z.1 ∧ y.2 = z.2 ∧ TI y.2 (512 * a0 + a1)) := by
  unfold FX4_at
  refine rl_ltI (av_mul tn_512 i0 (by omega) (by omega)) (fun x1 ix1 => ?_)
  refine rl_ltI (av_add ix1 i1 (by omega) (by omega)) (fun x2 ix2 => ?_)
  exact rl_some ⟨rfl, rfl, rfl, (ix2)⟩
theorem b_pieceAt {mu : Nat → Nat} {G H : GG} {M N : DD} {p : Nat} {L : List Nat} (t : BX mu G H M N p L) {p0 : Int32} {a0 : Int} (i0 : TI p0 a0) {p1 : Int32} {a1 : Int} (i1 : TI p1 a1) {p2 : Int32} {a2 : Int} (i2 : TI p2 a2) {p3 : Int32} {a3 : Int} (i3 : TI p3 a3) (h0 : 0 ≤ a0) (h1 : a0 ≤ 3) (h2 : -64 ≤ a1) (h3 : a1 ≤ 64) (h4 : -64 ≤ a2) (h5 : a2 ≤ 16) (h6 : 0 ≤ a3) (h7 : a3 ≤ 16) (hw : (M.1 p 1).toInt = 1 ∨ (M.1 p 1).toInt = 2) (hI : FG mu M N 129 (CI a0)) : LKS (FX9_pieceAt G M 125 p0 p1 p2 p3) (FX9_pieceAt H N (mu 125) p0 p1 p2 p3) (fun y z => M = y.1 ∧ N = z.1 ∧ y.2 = z.2 ∧ ((-1 ≤ y.2.toInt ∧ y.2.toInt ≤ 63) ∧ (0 ≤ y.2.toInt → y.2.toInt / 16 < a0 ∨ (y.2.toInt = 16 * a0 + (a2 / 8 % 2 * 8 + a1 / 8 % 2 * 4 + a2 / 4 % 2 * 2 + a1 / 4 % 2) ∧ (a2 / 8 % 2 * 8 + a1 / 8 % 2 * 4 + a2 / 4 % 2 * 2 + a1 / 4 % 2) < a3 ∧ 0 ≤ a1 ∧ a1 ≤ 15 ∧ 0 ≤ a2)))) := by
  unfold FX9_pieceAt
  rcases hw with hw | hw
  · refine rl_dr (by_U t) (bz_p t) (fun gb1 => ?_)
    refine rl_rdB (by_q (j := 0) (k := 1) t (by_p t) rfl) (i32_eq hw) (fun x2 lx2 => ?_)
    have ix2 : TI x2 (1) := ti_c lx2
    refine rl_chk (fun h => h) (fun k1 => ?_)
    refine rl_ltI (av_mod i0 ix2 (by omega) (by omega)) (fun x3 ix3 => ?_)
    refine rl_bnd (Q := fun (y z : Int32) => y = z ∧ (-1 ≤ y.toInt ∧ y.toInt ≤ 1) ∧ ((a1 < 0 → y.toInt = -1) ∧ (0 ≤ a1 → a1 ≤ 15 → y.toInt = 0) ∧ (15 < a1 → y.toInt = 1))) ?_ ?_
    · refine rl_if (fun c2 => ?_) (fun c2 => ?_)
      · have dc2 := tl_le tn_0 i1 c2
        refine rl_bnd (Q := fun (y z : Int32) => y = z ∧ (0 ≤ y.toInt ∧ y.toInt ≤ 1) ∧ ((a1 < 0 → y.toInt = -1) ∧ (0 ≤ a1 → a1 ≤ 15 → y.toInt = 0) ∧ (15 < a1 → y.toInt = 1))) ?_ ?_
        · refine rl_if (fun c3 => ?_) (fun c3 => ?_)
          · have dc3 := tl_le i1 tn_15 c3
            exact rl_some ⟨rfl, (ti_bd tn_0 (by omega) (by omega)), (by have q : _ = _ := tn_0; (try dsimp only) <;> omega)⟩
          · have dc3 := tl_nle i1 tn_15 c3
            exact rl_some ⟨rfl, (ti_bd tn_1 (by omega) (by omega)), (by have q : _ = _ := tn_1; (try dsimp only) <;> omega)⟩
        · rintro y49 y49r ⟨ey49, ly49, jy49⟩
          obtain rfl : y49 = y49r := ey49
          have ly49 : 0 ≤ y49.toInt ∧ y49.toInt ≤ 1 := ly49
          have iy49 : TI y49 y49.toInt := rfl
          have jy49 : (a1 < 0 → y49.toInt = -1) ∧ (0 ≤ a1 → a1 ≤ 15 → y49.toInt = 0) ∧ (15 < a1 → y49.toInt = 1) := jy49
          exact rl_some ⟨rfl, (ti_bd iy49 (by omega) (by omega)), (by have q : _ = _ := iy49; (try dsimp only) <;> omega)⟩
      · have dc2 := tl_nle tn_0 i1 c2
        exact rl_some ⟨rfl, (ti_bd tn_m1 (by omega) (by omega)), (by have q : _ = _ := tn_m1; (try dsimp only) <;> omega)⟩
    · rintro y4 y4r ⟨ey4, ly4, jy4⟩
      obtain rfl : y4 = y4r := ey4
      have ly4 : -1 ≤ y4.toInt ∧ y4.toInt ≤ 1 := ly4
      have iy4 : TI y4 y4.toInt := rfl
      have jy4 : (a1 < 0 → y4.toInt = -1) ∧ (0 ≤ a1 → a1 ≤ 15 → y4.toInt = 0) ∧ (15 < a1 → y4.toInt = 1) := jy4
      refine rl_ltI (av_add ix3 iy4 (by omega) (by omega)) (fun x5 ix5 => ?_)
      refine rl_rdB (by_q (j := 0) (k := 1) t (by_p t) rfl) (i32_eq hw) (fun x6 lx6 => ?_)
      have ix6 : TI x6 (1) := ti_c lx6
      refine rl_chk (fun h => h) (fun k4 => ?_)
      refine rl_ltI (av_div i0 ix6 (by omega) (by omega)) (fun x7 ix7 => ?_)
      refine rl_bnd (Q := fun (y z : Int32) => y = z ∧ (0 ≤ y.toInt ∧ y.toInt ≤ 1) ∧ ((a2 < 0 → y.toInt = 1) ∧ (0 ≤ a2 → y.toInt = 0))) ?_ ?_
      · refine rl_if (fun c5 => ?_) (fun c5 => ?_)
        · have dc5 := tl_le tn_0 i2 c5
          exact rl_some ⟨rfl, (ti_bd tn_0 (by omega) (by omega)), (by have q : _ = _ := tn_0; (try dsimp only) <;> omega)⟩
        · have dc5 := tl_nle tn_0 i2 c5
          exact rl_some ⟨rfl, (ti_bd tn_1 (by omega) (by omega)), (by have q : _ = _ := tn_1; (try dsimp only) <;> omega)⟩
      · rintro y8 y8r ⟨ey8, ly8, jy8⟩
        obtain rfl : y8 = y8r := ey8
        have ly8 : 0 ≤ y8.toInt ∧ y8.toInt ≤ 1 := ly8
        have iy8 : TI y8 y8.toInt := rfl
        have jy8 : (a2 < 0 → y8.toInt = 1) ∧ (0 ≤ a2 → y8.toInt = 0) := jy8
        refine rl_ltI (av_sub ix7 iy8 (by omega) (by omega)) (fun x9 ix9 => ?_)
        refine rl_if (fun c6 => ?_) (fun c6 => ?_)
        · have dc6 := tl_lt ix5 tn_0 c6
          exact rl_some ⟨rfl, rfl, rfl, (by have q : _ = _ := tn_m1; (try dsimp only) <;> omega)⟩
        · have dc6 := tl_nlt ix5 tn_0 c6
          refine rl_rdB (by_q (j := 0) (k := 1) t (by_p t) rfl) (i32_eq hw) (fun x11 lx11 => ?_)
          have ix11 : TI x11 (1) := ti_c lx11
          refine rl_if (fun c7 => ?_) (fun c7 => ?_)
          · have dc7 := tl_le ix11 ix5 c7
            exact rl_some ⟨rfl, rfl, rfl, (by have q : _ = _ := tn_m1; (try dsimp only) <;> omega)⟩
          · have dc7 := tl_nle ix11 ix5 c7
            refine rl_if (fun c8 => ?_) (fun c8 => ?_)
            · have dc8 := tl_le tn_0 ix9 c8
              refine rl_rdB (by_q (j := 0) (k := 1) t (by_p t) rfl) (i32_eq hw) (fun x14 lx14 => ?_)
              have ix14 : TI x14 (1) := ti_c lx14
              refine rl_ltI (av_mul ix9 ix14 (by omega) (by omega)) (fun x15 ix15 => ?_)
              refine rl_ltI (av_add ix15 ix5 (by omega) (by omega)) (fun x16 ix16 => ?_)
              have kx16 : x16.toInt = _ := ix16
              refine rl_ltI (av_sar 3 i2 (by decide)) (fun x17 ix17 => ?_)
              refine rl_ltI (av_and 1 ix17 (by decide) (by decide)) (fun x18 ix18 => ?_)
              refine rl_ltI (av_mul ix18 tn_8 (by omega) (by omega)) (fun x19 ix19 => ?_)
              refine rl_ltI (av_sar 3 i1 (by decide)) (fun x20 ix20 => ?_)
              refine rl_ltI (av_and 1 ix20 (by decide) (by decide)) (fun x21 ix21 => ?_)
              refine rl_ltI (av_mul ix21 tn_4 (by omega) (by omega)) (fun x22 ix22 => ?_)
              refine rl_ltI (av_add ix19 ix22 (by omega) (by omega)) (fun x23 ix23 => ?_)
              refine rl_ltI (av_sar 2 i2 (by decide)) (fun x24 ix24 => ?_)
              refine rl_ltI (av_and 1 ix24 (by decide) (by decide)) (fun x25 ix25 => ?_)
              refine rl_ltI (av_mul ix25 tn_2 (by omega) (by omega)) (fun x26 ix26 => ?_)
              refine rl_ltI (av_add ix23 ix26 (by omega) (by omega)) (fun x27 ix27 => ?_)
              refine rl_ltI (av_sar 2 i1 (by decide)) (fun x28 ix28 => ?_)
              refine rl_ltI (av_and 1 ix28 (by decide) (by decide)) (fun x29 ix29 => ?_)
              refine rl_ltI (av_add ix27 ix29 (by omega) (by omega)) (fun x30 ix30 => ?_)
              have kx30 : x30.toInt = _ := ix30
              refine rl_if (fun c9 => ?_) (fun c9 => ?_)
              · have dc9 := tl_eq ix16 i0 c9
                refine rl_bnd (Q := fun (y z : Int32) => y = z ∧ (-1 ≤ y.toInt ∧ y.toInt ≤ 63) ∧ (y.toInt = -1 ∨ (y.toInt = 16 * a0 + x30.toInt ∧ x30.toInt < a3))) ?_ ?_
                · refine rl_if (fun c10 => ?_) (fun c10 => ?_)
                  · have dc10 := tl_le i3 ix30 c10
                    exact rl_some ⟨rfl, (ti_bd tn_m1 (by omega) (by omega)), (by have q : _ = _ := tn_m1; (try dsimp only) <;> omega)⟩
                  · have dc10 := tl_nle i3 ix30 c10
                    refine rl_ltI (av_mul tn_16 i0 (by omega) (by omega)) (fun x45 ix45 => ?_)
                    refine rl_ltI (av_add ix45 ix30 (by omega) (by omega)) (fun x46 ix46 => ?_)
                    exact rl_some ⟨rfl, (ti_bd ix46 (by omega) (by omega)), (by have q : _ = _ := ix46; (try dsimp only) <;> omega)⟩
                · rintro y43 y43r ⟨ey43, ly43, jy43⟩
                  obtain rfl : y43 = y43r := ey43
                  have ly43 : -1 ≤ y43.toInt ∧ y43.toInt ≤ 63 := ly43
                  have iy43 : TI y43 y43.toInt := rfl
                  have jy43 : y43.toInt = -1 ∨ (y43.toInt = 16 * a0 + x30.toInt ∧ x30.toInt < a3) := jy43
                  exact rl_some ⟨rfl, rfl, rfl, (by have q : _ = _ := iy43; (try dsimp only) <;> omega)⟩
              · refine rl_bnd (Q := fun (y z : Int32) => y = z ∧ (-1 ≤ y.toInt ∧ y.toInt ≤ 47) ∧ (y.toInt = -1 ∨ (x16.toInt < a0 ∧ y.toInt = 16 * x16.toInt + x30.toInt))) ?_ ?_
                · refine rl_if (fun c11 => ?_) (fun c11 => ?_)
                  · have dc11 := tl_le i0 ix16 c11
                    exact rl_some ⟨rfl, (ti_bd tn_m1 (by omega) (by omega)), (by have q : _ = _ := tn_m1; (try dsimp only) <;> omega)⟩
                  · have dc11 := tl_nle i0 ix16 c11
                    refine rl_ltI (av_mul tn_8 ix16 (by omega) (by omega)) (fun x34 ix34 => ?_)
                    refine rl_ltI (av_add ix34 tn_6 (by omega) (by omega)) (fun x35 ix35 => ?_)
                    refine rl_dr (by_U t) (bz_c (a := 125) (k := 6) (b := 129) t (Or.inl rfl) rfl (by decide)) (fun gb36 => ?_)
                    refine rl_chk (chkl (by_U t) gb36) (fun k12 => ?_)
                    refine rl_rd (fg_use hI ix35 (by omega) (fun k hk => ⟨by omega, by omega⟩)) (fun x37 => ?_)
                    refine rl_rd (by_k (c := 125) (k := 11) t rfl) (fun x38 => ?_)
                    refine rl_bnd (Q := fun (y z : Int32) => y = z ∧ (-1 ≤ y.toInt ∧ y.toInt ≤ 47) ∧ (y.toInt = -1 ∨ y.toInt = 16 * x16.toInt + x30.toInt)) ?_ ?_
                    · refine rl_if (fun c13 => ?_) (fun c13 => ?_)
                      · have dc13 := tl_eq (rfl : TI x37 x37.toInt) (rfl : TI x38 x38.toInt) c13
                        refine rl_ltI (av_mul tn_16 ix16 (by omega) (by omega)) (fun x41 ix41 => ?_)
                        refine rl_ltI (av_add ix41 ix30 (by omega) (by omega)) (fun x42 ix42 => ?_)
                        exact rl_some ⟨rfl, (ti_bd ix42 (by omega) (by omega)), (by have q : _ = _ := ix42; (try dsimp only) <;> omega)⟩
                      · exact rl_some ⟨rfl, (ti_bd tn_m1 (by omega) (by omega)), (by have q : _ = _ := tn_m1; (try dsimp only) <;> omega)⟩
                    · rintro y39 y39r ⟨ey39, ly39, jy39⟩
                      obtain rfl : y39 = y39r := ey39
                      have ly39 : -1 ≤ y39.toInt ∧ y39.toInt ≤ 47 := ly39
                      have iy39 : TI y39 y39.toInt := rfl
                      have jy39 : y39.toInt = -1 ∨ y39.toInt = 16 * x16.toInt + x30.toInt := jy39
                      exact rl_some ⟨rfl, (ti_bd iy39 (by omega) (by omega)), (by have q : _ = _ := iy39; (try dsimp only) <;> omega)⟩
                · rintro y32 y32r ⟨ey32, ly32, jy32⟩
                  obtain rfl : y32 = y32r := ey32
                  have ly32 : -1 ≤ y32.toInt ∧ y32.toInt ≤ 47 := ly32
                  have iy32 : TI y32 y32.toInt := rfl
                  have jy32 : y32.toInt = -1 ∨ (x16.toInt < a0 ∧ y32.toInt = 16 * x16.toInt + x30.toInt) := jy32
                  exact rl_some ⟨rfl, rfl, rfl, (pa_f jy32 (by omega) (by omega) (by omega))⟩
            · have dc8 := tl_nle tn_0 ix9 c8
              exact rl_some ⟨rfl, rfl, rfl, (by have q : _ = _ := tn_m1; (try dsimp only) <;> omega)⟩
  · refine rl_dr (by_U t) (bz_p t) (fun gb1 => ?_)
    refine rl_rdB (by_q (j := 0) (k := 1) t (by_p t) rfl) (i32_eq hw) (fun x2 lx2 => ?_)
    have ix2 : TI x2 (2) := ti_c lx2
    refine rl_chk (fun h => h) (fun k1 => ?_)
    refine rl_ltI (av_mod i0 ix2 (by omega) (by omega)) (fun x3 ix3 => ?_)
    refine rl_bnd (Q := fun (y z : Int32) => y = z ∧ (-1 ≤ y.toInt ∧ y.toInt ≤ 1) ∧ ((a1 < 0 → y.toInt = -1) ∧ (0 ≤ a1 → a1 ≤ 15 → y.toInt = 0) ∧ (15 < a1 → y.toInt = 1))) ?_ ?_
    · refine rl_if (fun c2 => ?_) (fun c2 => ?_)
      · have dc2 := tl_le tn_0 i1 c2
        refine rl_bnd (Q := fun (y z : Int32) => y = z ∧ (0 ≤ y.toInt ∧ y.toInt ≤ 1) ∧ ((a1 < 0 → y.toInt = -1) ∧ (0 ≤ a1 → a1 ≤ 15 → y.toInt = 0) ∧ (15 < a1 → y.toInt = 1))) ?_ ?_
        · refine rl_if (fun c3 => ?_) (fun c3 => ?_)
          · have dc3 := tl_le i1 tn_15 c3
            exact rl_some ⟨rfl, (ti_bd tn_0 (by omega) (by omega)), (by have q : _ = _ := tn_0; (try dsimp only) <;> omega)⟩
          · have dc3 := tl_nle i1 tn_15 c3
            exact rl_some ⟨rfl, (ti_bd tn_1 (by omega) (by omega)), (by have q : _ = _ := tn_1; (try dsimp only) <;> omega)⟩
        · rintro y49 y49r ⟨ey49, ly49, jy49⟩
          obtain rfl : y49 = y49r := ey49
          have ly49 : 0 ≤ y49.toInt ∧ y49.toInt ≤ 1 := ly49
          have iy49 : TI y49 y49.toInt := rfl
          have jy49 : (a1 < 0 → y49.toInt = -1) ∧ (0 ≤ a1 → a1 ≤ 15 → y49.toInt = 0) ∧ (15 < a1 → y49.toInt = 1) := jy49
          exact rl_some ⟨rfl, (ti_bd iy49 (by omega) (by omega)), (by have q : _ = _ := iy49; (try dsimp only) <;> omega)⟩
      · have dc2 := tl_nle tn_0 i1 c2
        exact rl_some ⟨rfl, (ti_bd tn_m1 (by omega) (by omega)), (by have q : _ = _ := tn_m1; (try dsimp only) <;> omega)⟩
    · rintro y4 y4r ⟨ey4, ly4, jy4⟩
      obtain rfl : y4 = y4r := ey4
      have ly4 : -1 ≤ y4.toInt ∧ y4.toInt ≤ 1 := ly4
      have iy4 : TI y4 y4.toInt := rfl
      have jy4 : (a1 < 0 → y4.toInt = -1) ∧ (0 ≤ a1 → a1 ≤ 15 → y4.toInt = 0) ∧ (15 < a1 → y4.toInt = 1) := jy4
      refine rl_ltI (av_add ix3 iy4 (by omega) (by omega)) (fun x5 ix5 => ?_)
      refine rl_rdB (by_q (j := 0) (k := 1) t (by_p t) rfl) (i32_eq hw) (fun x6 lx6 => ?_)
      have ix6 : TI x6 (2) := ti_c lx6
      refine rl_chk (fun h => h) (fun k4 => ?_)
      refine rl_ltI (av_div i0 ix6 (by omega) (by omega)) (fun x7 ix7 => ?_)
      refine rl_bnd (Q := fun (y z : Int32) => y = z ∧ (0 ≤ y.toInt ∧ y.toInt ≤ 1) ∧ ((a2 < 0 → y.toInt = 1) ∧ (0 ≤ a2 → y.toInt = 0))) ?_ ?_
      · refine rl_if (fun c5 => ?_) (fun c5 => ?_)
        · have dc5 := tl_le tn_0 i2 c5
          exact rl_some ⟨rfl, (ti_bd tn_0 (by omega) (by omega)), (by have q : _ = _ := tn_0; (try dsimp only) <;> omega)⟩
        · have dc5 := tl_nle tn_0 i2 c5
          exact rl_some ⟨rfl, (ti_bd tn_1 (by omega) (by omega)), (by have q : _ = _ := tn_1; (try dsimp only) <;> omega)⟩
      · rintro y8 y8r ⟨ey8, ly8, jy8⟩
        obtain rfl : y8 = y8r := ey8
        have ly8 : 0 ≤ y8.toInt ∧ y8.toInt ≤ 1 := ly8
        have iy8 : TI y8 y8.toInt := rfl
        have jy8 : (a2 < 0 → y8.toInt = 1) ∧ (0 ≤ a2 → y8.toInt = 0) := jy8
        refine rl_ltI (av_sub ix7 iy8 (by omega) (by omega)) (fun x9 ix9 => ?_)
        refine rl_if (fun c6 => ?_) (fun c6 => ?_)
        · have dc6 := tl_lt ix5 tn_0 c6
          exact rl_some ⟨rfl, rfl, rfl, (by have q : _ = _ := tn_m1; (try dsimp only) <;> omega)⟩
        · have dc6 := tl_nlt ix5 tn_0 c6
          refine rl_rdB (by_q (j := 0) (k := 1) t (by_p t) rfl) (i32_eq hw) (fun x11 lx11 => ?_)
          have ix11 : TI x11 (2) := ti_c lx11
          refine rl_if (fun c7 => ?_) (fun c7 => ?_)
          · have dc7 := tl_le ix11 ix5 c7
            exact rl_some ⟨rfl, rfl, rfl, (by have q : _ = _ := tn_m1; (try dsimp only) <;> omega)⟩
          · have dc7 := tl_nle ix11 ix5 c7
            refine rl_if (fun c8 => ?_) (fun c8 => ?_)
            · have dc8 := tl_le tn_0 ix9 c8
              refine rl_rdB (by_q (j := 0) (k := 1) t (by_p t) rfl) (i32_eq hw) (fun x14 lx14 => ?_)
              have ix14 : TI x14 (2) := ti_c lx14
              refine rl_ltI (av_mul ix9 ix14 (by omega) (by omega)) (fun x15 ix15 => ?_)
              refine rl_ltI (av_add ix15 ix5 (by omega) (by omega)) (fun x16 ix16 => ?_)
              have kx16 : x16.toInt = _ := ix16
              refine rl_ltI (av_sar 3 i2 (by decide)) (fun x17 ix17 => ?_)
              refine rl_ltI (av_and 1 ix17 (by decide) (by decide)) (fun x18 ix18 => ?_)
              refine rl_ltI (av_mul ix18 tn_8 (by omega) (by omega)) (fun x19 ix19 => ?_)
              refine rl_ltI (av_sar 3 i1 (by decide)) (fun x20 ix20 => ?_)
              refine rl_ltI (av_and 1 ix20 (by decide) (by decide)) (fun x21 ix21 => ?_)
              refine rl_ltI (av_mul ix21 tn_4 (by omega) (by omega)) (fun x22 ix22 => ?_)
              refine rl_ltI (av_add ix19 ix22 (by omega) (by omega)) (fun x23 ix23 => ?_)
              refine rl_ltI (av_sar 2 i2 (by decide)) (fun x24 ix24 => ?_)
              refine rl_ltI (av_and 1 ix24 (by decide) (by decide)) (fun x25 ix25 => ?_)
              refine rl_ltI (av_mul ix25 tn_2 (by omega) (by omega)) (fun x26 ix26 => ?_)
              refine rl_ltI (av_add ix23 ix26 (by omega) (by omega)) (fun x27 ix27 => ?_)
              refine rl_ltI (av_sar 2 i1 (by decide)) (fun x28 ix28 => ?_)
              refine rl_ltI (av_and 1 ix28 (by decide) (by decide)) (fun x29 ix29 => ?_)
              refine rl_ltI (av_add ix27 ix29 (by omega) (by omega)) (fun x30 ix30 => ?_)
              have kx30 : x30.toInt = _ := ix30
              refine rl_if (fun c9 => ?_) (fun c9 => ?_)
              · have dc9 := tl_eq ix16 i0 c9
                refine rl_bnd (Q := fun (y z : Int32) => y = z ∧ (-1 ≤ y.toInt ∧ y.toInt ≤ 63) ∧ (y.toInt = -1 ∨ (y.toInt = 16 * a0 + x30.toInt ∧ x30.toInt < a3))) ?_ ?_
                · refine rl_if (fun c10 => ?_) (fun c10 => ?_)
                  · have dc10 := tl_le i3 ix30 c10
                    exact rl_some ⟨rfl, (ti_bd tn_m1 (by omega) (by omega)), (by have q : _ = _ := tn_m1; (try dsimp only) <;> omega)⟩
                  · have dc10 := tl_nle i3 ix30 c10
                    refine rl_ltI (av_mul tn_16 i0 (by omega) (by omega)) (fun x45 ix45 => ?_)
                    refine rl_ltI (av_add ix45 ix30 (by omega) (by omega)) (fun x46 ix46 => ?_)
                    exact rl_some ⟨rfl, (ti_bd ix46 (by omega) (by omega)), (by have q : _ = _ := ix46; (try dsimp only) <;> omega)⟩
                · rintro y43 y43r ⟨ey43, ly43, jy43⟩
                  obtain rfl : y43 = y43r := ey43
                  have ly43 : -1 ≤ y43.toInt ∧ y43.toInt ≤ 63 := ly43
                  have iy43 : TI y43 y43.toInt := rfl
                  have jy43 : y43.toInt = -1 ∨ (y43.toInt = 16 * a0 + x30.toInt ∧ x30.toInt < a3) := jy43
                  exact rl_some ⟨rfl, rfl, rfl, (by have q : _ = _ := iy43; (try dsimp only) <;> omega)⟩
              · refine rl_bnd (Q := fun (y z : Int32) => y = z ∧ (-1 ≤ y.toInt ∧ y.toInt ≤ 47) ∧ (y.toInt = -1 ∨ (x16.toInt < a0 ∧ y.toInt = 16 * x16.toInt + x30.toInt))) ?_ ?_
                · refine rl_if (fun c11 => ?_) (fun c11 => ?_)
                  · have dc11 := tl_le i0 ix16 c11
                    exact rl_some ⟨rfl, (ti_bd tn_m1 (by omega) (by omega)), (by have q : _ = _ := tn_m1; (try dsimp only) <;> omega)⟩
                  · have dc11 := tl_nle i0 ix16 c11
                    refine rl_ltI (av_mul tn_8 ix16 (by omega) (by omega)) (fun x34 ix34 => ?_)
                    refine rl_ltI (av_add ix34 tn_6 (by omega) (by omega)) (fun x35 ix35 => ?_)
                    refine rl_dr (by_U t) (bz_c (a := 125) (k := 6) (b := 129) t (Or.inl rfl) rfl (by decide)) (fun gb36 => ?_)
                    refine rl_chk (chkl (by_U t) gb36) (fun k12 => ?_)
                    refine rl_rd (fg_use hI ix35 (by omega) (fun k hk => ⟨by omega, by omega⟩)) (fun x37 => ?_)
                    refine rl_rd (by_k (c := 125) (k := 11) t rfl) (fun x38 => ?_)
                    refine rl_bnd (Q := fun (y z : Int32) => y = z ∧ (-1 ≤ y.toInt ∧ y.toInt ≤ 47) ∧ (y.toInt = -1 ∨ y.toInt = 16 * x16.toInt + x30.toInt)) ?_ ?_
                    · refine rl_if (fun c13 => ?_) (fun c13 => ?_)
                      · have dc13 := tl_eq (rfl : TI x37 x37.toInt) (rfl : TI x38 x38.toInt) c13
                        refine rl_ltI (av_mul tn_16 ix16 (by omega) (by omega)) (fun x41 ix41 => ?_)
                        refine rl_ltI (av_add ix41 ix30 (by omega) (by omega)) (fun x42 ix42 => ?_)
                        exact rl_some ⟨rfl, (ti_bd ix42 (by omega) (by omega)), (by have q : _ = _ := ix42; (try dsimp only) <;> omega)⟩
                      · exact rl_some ⟨rfl, (ti_bd tn_m1 (by omega) (by omega)), (by have q : _ = _ := tn_m1; (try dsimp only) <;> omega)⟩
                    · rintro y39 y39r ⟨ey39, ly39, jy39⟩
                      obtain rfl : y39 = y39r := ey39
                      have ly39 : -1 ≤ y39.toInt ∧ y39.toInt ≤ 47 := ly39
                      have iy39 : TI y39 y39.toInt := rfl
                      have jy39 : y39.toInt = -1 ∨ y39.toInt = 16 * x16.toInt + x30.toInt := jy39
                      exact rl_some ⟨rfl, (ti_bd iy39 (by omega) (by omega)), (by have q : _ = _ := iy39; (try dsimp only) <;> omega)⟩
                · rintro y32 y32r ⟨ey32, ly32, jy32⟩
                  obtain rfl : y32 = y32r := ey32
                  have ly32 : -1 ≤ y32.toInt ∧ y32.toInt ≤ 47 := ly32
                  have iy32 : TI y32 y32.toInt := rfl
                  have jy32 : y32.toInt = -1 ∨ (x16.toInt < a0 ∧ y32.toInt = 16 * x16.toInt + x30.toInt) := jy32
                  exact rl_some ⟨rfl, rfl, rfl, (pa_f jy32 (by omega) (by omega) (by omega))⟩
            · have dc8 := tl_nle tn_0 ix9 c8
              exact rl_some ⟨rfl, rfl, rfl, (by have q : _ = _ := tn_m1; (try dsimp only) <;> omega)⟩
theorem b_mayUse {mu : Nat → Nat} {G H : GG} {M N : DD} {p : Nat} {L : List Nat} {mb : Int} (t : BX mu G H M N p L) {p0 : Int32} {a0 : Int} (i0 : TI p0 a0) (h0 : -1 ≤ a0) (h1 : a0 ≤ 63) (h2 : 0 ≤ a0 → a0 / 16 < mb) (hI : FG mu M N 129 (CI mb)) : LKS (FX9_mayUse G M 125 p0) (FX9_mayUse H N (mu 125) p0) (fun y z => M = y.1 ∧ N = z.1 ∧ y.2 = z.2) := by
  unfold FX9_mayUse
  refine rl_bnd (Q := fun (y z : Int32) => y = z ∧ (0 ≤ y.toInt ∧ y.toInt ≤ 1)) ?_ ?_
  · refine rl_if (fun c1 => ?_) (fun c1 => ?_)
    · have dc1 := tl_lt i0 tn_0 c1
      exact rl_some ⟨rfl, (ti_bd tn_0 (by omega) (by omega))⟩
    · have dc1 := tl_nlt i0 tn_0 c1
      refine rl_dr (by_U t) (bz_c (a := 125) (k := 2) (b := 220) t (Or.inl rfl) rfl (by decide)) (fun gb3 => ?_)
      refine rl_chk (chkl (by_U t) gb3) (fun k2 => ?_)
      refine rl_rd (by_k (c := 220) (k := 10) t rfl) (fun x4 => ?_)
      refine rl_bnd (Q := fun (y z : Int32) => y = z ∧ (0 ≤ y.toInt ∧ y.toInt ≤ 1)) ?_ ?_
      · refine rl_if (fun c3 => ?_) (fun c3 => ?_)
        · have dc3 := tl_eq (rfl : TI x4 x4.toInt) tn_0 c3
          exact rl_some ⟨rfl, (ti_bd tn_1 (by omega) (by omega))⟩
        · refine rl_ltI (av_sar 4 i0 (by decide)) (fun x7 ix7 => ?_)
          refine rl_ltI (av_mul tn_8 ix7 (by omega) (by omega)) (fun x8 ix8 => ?_)
          refine rl_ltI (av_add ix8 tn_0 (by omega) (by omega)) (fun x9 ix9 => ?_)
          refine rl_dr (by_U t) (bz_c (a := 125) (k := 6) (b := 129) t (Or.inl rfl) rfl (by decide)) (fun gb10 => ?_)
          refine rl_chk (chkl (by_U t) gb10) (fun k4 => ?_)
          refine rl_rd (fg_use hI ix9 (by omega) (fun k hk => ⟨by omega, by omega⟩)) (fun x11 => ?_)
          refine rl_bnd (Q := fun (y z : Int32) => y = z ∧ (0 ≤ y.toInt ∧ y.toInt ≤ 1)) ?_ ?_
          · refine rl_if (fun c5 => ?_) (fun c5 => ?_)
            · have dc5 := tl_eq (rfl : TI x11 x11.toInt) tn_3 c5
              exact rl_some ⟨rfl, (ti_bd tn_0 (by omega) (by omega))⟩
            · exact rl_some ⟨rfl, (ti_bd tn_1 (by omega) (by omega))⟩
          · rintro y12 y12r ⟨ey12, ly12⟩
            obtain rfl : y12 = y12r := ey12
            have ly12 : 0 ≤ y12.toInt ∧ y12.toInt ≤ 1 := ly12
            have iy12 : TI y12 y12.toInt := rfl
            exact rl_some ⟨rfl, (ti_bd iy12 (by omega) (by omega))⟩
      · rintro y5 y5r ⟨ey5, ly5⟩
        obtain rfl : y5 = y5r := ey5
        have ly5 : 0 ≤ y5.toInt ∧ y5.toInt ≤ 1 := ly5
        have iy5 : TI y5 y5.toInt := rfl
        exact rl_some ⟨rfl, (ti_bd iy5 (by omega) (by omega))⟩
  · rintro y1 y1r ⟨ey1, ly1⟩
    obtain rfl : y1 = y1r := ey1
    have ly1 : 0 ≤ y1.toInt ∧ y1.toInt ≤ 1 := ly1
    have iy1 : TI y1 y1.toInt := rfl
    refine rl_chk (fun h => h) (fun k6 => ?_)
    exact rl_some ⟨rfl, rfl, rfl⟩
theorem b_sides {mu : Nat → Nat} {G H : GG} {M N : DD} {p : Nat} {L : List Nat} (t : BX mu G H M N p L) {p0 : Int32} {a0 : Int} (i0 : TI p0 a0) (h0 : 0 ≤ a0) (h1 : a0 ≤ 3) (hw : (M.1 p 1).toInt = 1 ∨ (M.1 p 1).toInt = 2) (hI : FG mu M N 129 (CI a0)) : LKS (FX9_sides G M 125 p0) (FX9_sides H N (mu 125) p0) (fun y z => M = y.1 ∧ N = z.1 ∧ y.2 = z.2) := by
  unfold FX9_sides
  refine rl_bnd (b_pieceAt t i0 tn_m1 tn_0 tn_0 (by omega) (by omega) (by omega) (by omega) (by omega) (by omega) (by omega) (by omega) hw hI) ?_
  rintro ⟨y1_1, y1_2⟩ ⟨y1_1r, y1_2r⟩ ⟨my1_11, my1_12, ey1_2, ly1_2⟩
  obtain rfl : M = y1_1 := my1_11
  obtain rfl : N = y1_1r := my1_12
  obtain rfl : y1_2 = y1_2r := ey1_2
  dsimp only at ly1_2
  have iy1_2 : TI y1_2 y1_2.toInt := rfl
  refine rl_bnd (b_mayUse t iy1_2 (by omega) (by omega) (by omega) hI) ?_
  rintro ⟨y2_1, y2_2⟩ ⟨y2_1r, y2_2r⟩ ⟨my2_11, my2_12, ey2_2⟩
  obtain rfl : M = y2_1 := my2_11
  obtain rfl : N = y2_1r := my2_12
  obtain rfl : y2_2 = y2_2r := ey2_2
  refine rl_bnd (Q := fun (y z : Int32) => y = z ∧ (0 ≤ y.toInt ∧ y.toInt ≤ 1)) ?_ ?_
  · refine rl_if (fun c1 => ?_) (fun c1 => ?_)
    · have dc1 := tl_eq (rfl : TI y2_2 y2_2.toInt) tn_0 c1
      exact rl_some ⟨rfl, (ti_bd tn_0 (by omega) (by omega))⟩
    · exact rl_some ⟨rfl, (ti_bd tn_1 (by omega) (by omega))⟩
  · rintro y3 y3r ⟨ey3, ly3⟩
    obtain rfl : y3 = y3r := ey3
    have ly3 : 0 ≤ y3.toInt ∧ y3.toInt ≤ 1 := ly3
    have iy3 : TI y3 y3.toInt := rfl
    refine rl_bnd (b_pieceAt t i0 tn_0 tn_m1 tn_0 (by omega) (by omega) (by omega) (by omega) (by omega) (by omega) (by omega) (by omega) hw hI) ?_
    rintro ⟨y4_1, y4_2⟩ ⟨y4_1r, y4_2r⟩ ⟨my4_11, my4_12, ey4_2, ly4_2⟩
    obtain rfl : M = y4_1 := my4_11
    obtain rfl : N = y4_1r := my4_12
    obtain rfl : y4_2 = y4_2r := ey4_2
    dsimp only at ly4_2
    have iy4_2 : TI y4_2 y4_2.toInt := rfl
    refine rl_bnd (b_mayUse t iy4_2 (by omega) (by omega) (by omega) hI) ?_
    rintro ⟨y5_1, y5_2⟩ ⟨y5_1r, y5_2r⟩ ⟨my5_11, my5_12, ey5_2⟩
    obtain rfl : M = y5_1 := my5_11
    obtain rfl : N = y5_1r := my5_12
    obtain rfl : y5_2 = y5_2r := ey5_2
    refine rl_bnd (Q := fun (y z : Int32) => y = z ∧ (0 ≤ y.toInt ∧ y.toInt ≤ 2)) ?_ ?_
    · refine rl_if (fun c2 => ?_) (fun c2 => ?_)
      · have dc2 := tl_eq (rfl : TI y5_2 y5_2.toInt) tn_0 c2
        exact rl_some ⟨rfl, (ti_bd tn_0 (by omega) (by omega))⟩
      · exact rl_some ⟨rfl, (ti_bd tn_2 (by omega) (by omega))⟩
    · rintro y6 y6r ⟨ey6, ly6⟩
      obtain rfl : y6 = y6r := ey6
      have ly6 : 0 ≤ y6.toInt ∧ y6.toInt ≤ 2 := ly6
      have iy6 : TI y6 y6.toInt := rfl
      refine rl_ltA (fun x7 => ?_)
      refine rl_bnd (b_pieceAt t i0 tn_m1 tn_m1 tn_0 (by omega) (by omega) (by omega) (by omega) (by omega) (by omega) (by omega) (by omega) hw hI) ?_
      rintro ⟨y8_1, y8_2⟩ ⟨y8_1r, y8_2r⟩ ⟨my8_11, my8_12, ey8_2, ly8_2⟩
      obtain rfl : M = y8_1 := my8_11
      obtain rfl : N = y8_1r := my8_12
      obtain rfl : y8_2 = y8_2r := ey8_2
      dsimp only at ly8_2
      have iy8_2 : TI y8_2 y8_2.toInt := rfl
      refine rl_bnd (b_mayUse t iy8_2 (by omega) (by omega) (by omega) hI) ?_
      rintro ⟨y9_1, y9_2⟩ ⟨y9_1r, y9_2r⟩ ⟨my9_11, my9_12, ey9_2⟩
      obtain rfl : M = y9_1 := my9_11
      obtain rfl : N = y9_1r := my9_12
      obtain rfl : y9_2 = y9_2r := ey9_2
      refine rl_bnd (Q := fun (y z : Int32) => y = z ∧ (0 ≤ y.toInt ∧ y.toInt ≤ 4)) ?_ ?_
      · refine rl_if (fun c3 => ?_) (fun c3 => ?_)
        · have dc3 := tl_eq (rfl : TI y9_2 y9_2.toInt) tn_0 c3
          exact rl_some ⟨rfl, (ti_bd tn_0 (by omega) (by omega))⟩
        · exact rl_some ⟨rfl, (ti_bd tn_4 (by omega) (by omega))⟩
      · rintro y10 y10r ⟨ey10, ly10⟩
        obtain rfl : y10 = y10r := ey10
        have ly10 : 0 ≤ y10.toInt ∧ y10.toInt ≤ 4 := ly10
        have iy10 : TI y10 y10.toInt := rfl
        refine rl_ltA (fun x11 => ?_)
        refine rl_bnd (b_pieceAt t i0 tn_16 tn_m1 tn_0 (by omega) (by omega) (by omega) (by omega) (by omega) (by omega) (by omega) (by omega) hw hI) ?_
        rintro ⟨y12_1, y12_2⟩ ⟨y12_1r, y12_2r⟩ ⟨my12_11, my12_12, ey12_2, ly12_2⟩
        obtain rfl : M = y12_1 := my12_11
        obtain rfl : N = y12_1r := my12_12
        obtain rfl : y12_2 = y12_2r := ey12_2
        dsimp only at ly12_2
        have iy12_2 : TI y12_2 y12_2.toInt := rfl
        refine rl_bnd (b_mayUse t iy12_2 (by omega) (by omega) (by omega) hI) ?_
        rintro ⟨y13_1, y13_2⟩ ⟨y13_1r, y13_2r⟩ ⟨my13_11, my13_12, ey13_2⟩
        obtain rfl : M = y13_1 := my13_11
        obtain rfl : N = y13_1r := my13_12
        obtain rfl : y13_2 = y13_2r := ey13_2
        refine rl_bnd (Q := fun (y z : Int32) => y = z ∧ (0 ≤ y.toInt ∧ y.toInt ≤ 8)) ?_ ?_
        · refine rl_if (fun c4 => ?_) (fun c4 => ?_)
          · have dc4 := tl_eq (rfl : TI y13_2 y13_2.toInt) tn_0 c4
            exact rl_some ⟨rfl, (ti_bd tn_0 (by omega) (by omega))⟩
          · exact rl_some ⟨rfl, (ti_bd tn_8 (by omega) (by omega))⟩
        · rintro y14 y14r ⟨ey14, ly14⟩
          obtain rfl : y14 = y14r := ey14
          have ly14 : 0 ≤ y14.toInt ∧ y14.toInt ≤ 8 := ly14
          have iy14 : TI y14 y14.toInt := rfl
          refine rl_ltA (fun x15 => ?_)
          exact rl_some ⟨rfl, rfl, rfl⟩
theorem b_modeAt {mu : Nat → Nat} {G H : GG} {M N : DD} {p : Nat} {L : List Nat} {mb lim : Int} (t : BX mu G H M N p L) {p0 : Int32} {a0 : Int} (i0 : TI p0 a0) (h0 : -1 ≤ a0) (h1 : a0 ≤ 63) (h2 : 0 ≤ a0 → a0 / 16 < mb ∨ (a0 / 16 = mb ∧ a0 % 16 < lim)) (hI : FG mu M N 129 (CI mb)) (hK : Ag mu M N 129 (8 * mb).toNat) (hM : FG mu M N 130 (CMo mb lim)) : LKS (FX9_modeAt G M 125 p0) (FX9_modeAt H N (mu 125) p0) (fun y z => M = y.1 ∧ N = z.1 ∧ y.2 = z.2) := by
  unfold FX9_modeAt
  refine rl_if (fun c1 => ?_) (fun c1 => ?_)
  · have dc1 := tl_le tn_0 i0 c1
    refine rl_ltI (av_sar 4 i0 (by decide)) (fun x2 ix2 => ?_)
    refine rl_ltI (av_mul tn_8 ix2 (by omega) (by omega)) (fun x3 ix3 => ?_)
    refine rl_ltI (av_add ix3 tn_0 (by omega) (by omega)) (fun x4 ix4 => ?_)
    refine rl_dr (by_U t) (bz_c (a := 125) (k := 6) (b := 129) t (Or.inl rfl) rfl (by decide)) (fun gb5 => ?_)
    refine rl_chk (chkl (by_U t) gb5) (fun k2 => ?_)
    refine rl_rd (ag_ki hI hK ix4 (by omega) (by omega)) (fun x6 => ?_)
    refine rl_dr (by_U t) (bz_c (a := 125) (k := 2) (b := 220) t (Or.inl rfl) rfl (by decide)) (fun gb7 => ?_)
    refine rl_chk (chkl (by_U t) gb7) (fun k3 => ?_)
    refine rl_rd (by_k (c := 220) (k := 10) t rfl) (fun x8 => ?_)
    refine rl_if (fun c4 => ?_) (fun c4 => ?_)
    · have dc4 := tl_eq (rfl : TI x8 x8.toInt) tn_1 c4
      refine rl_if (fun c5 => ?_) (fun c5 => ?_)
      · have dc5 := tl_eq (rfl : TI x6 x6.toInt) tn_3 c5
        exact rl_some ⟨rfl, rfl, rfl⟩
      · refine rl_bnd (Q := fun (y z : Int32) => y = z) ?_ ?_
        · refine rl_if (fun c6 => ?_) (fun c6 => ?_)
          · have dc6 := tl_eq (rfl : TI x6 x6.toInt) tn_0 c6
            refine rl_dr (by_U t) (bz_c (a := 125) (k := 7) (b := 130) t (Or.inl rfl) rfl (by decide)) (fun gb17 => ?_)
            refine rl_chk (chkl (by_U t) gb17) (fun k7 => ?_)
            refine rl_rd (fg_use hM i0 (by omega) (fun k hk => by unfold CMo; omega)) (fun x18 => ?_)
            exact rl_some rfl
          · exact rl_some rfl
        · rintro y15 y15r ey15
          obtain rfl : y15 = y15r := ey15
          exact rl_some ⟨rfl, rfl, rfl⟩
    · refine rl_bnd (Q := fun (y z : Int32) => y = z) ?_ ?_
      · refine rl_if (fun c8 => ?_) (fun c8 => ?_)
        · have dc8 := tl_eq (rfl : TI x6 x6.toInt) tn_0 c8
          refine rl_dr (by_U t) (bz_c (a := 125) (k := 7) (b := 130) t (Or.inl rfl) rfl (by decide)) (fun gb12 => ?_)
          refine rl_chk (chkl (by_U t) gb12) (fun k9 => ?_)
          refine rl_rd (fg_use hM i0 (by omega) (fun k hk => by unfold CMo; omega)) (fun x13 => ?_)
          exact rl_some rfl
        · exact rl_some rfl
      · rintro y10 y10r ey10
        obtain rfl : y10 = y10r := ey10
        exact rl_some ⟨rfl, rfl, rfl⟩
  · have dc1 := tl_nle tn_0 i0 c1
    exact rl_some ⟨rfl, rfl, rfl⟩
theorem b_guessMode {mu : Nat → Nat} {G H : GG} {M N : DD} {p : Nat} {L : List Nat} (t : BX mu G H M N p L) {p0 : Int32} {a0 : Int} (i0 : TI p0 a0) {p1 : Int32} {a1 : Int} (i1 : TI p1 a1) (h0 : 0 ≤ a0) (h1 : a0 ≤ 3) (h2 : a1 = 0 ∨ a1 = 1 ∨ a1 = 2 ∨ a1 = 3 ∨ a1 = 4 ∨ a1 = 5 ∨ a1 = 6 ∨ a1 = 7 ∨ a1 = 8 ∨ a1 = 9 ∨ a1 = 10 ∨ a1 = 11 ∨ a1 = 12 ∨ a1 = 13 ∨ a1 = 14 ∨ a1 = 15) (hw : (M.1 p 1).toInt = 1 ∨ (M.1 p 1).toInt = 2) (hI : FG mu M N 129 (CI a0)) (hK : Ag mu M N 129 (8 * a0).toNat) (hM : FG mu M N 130 (CMo a0 a1)) : LKS (FX9_guessMode G M 125 p0 p1) (FX9_guessMode H N (mu 125) p0 p1) (fun y z => M = y.1 ∧ N = z.1 ∧ y.2 = z.2) := by
  unfold FX9_guessMode
  rcases h2 with rfl | rfl | rfl | rfl | rfl | rfl | rfl | rfl | rfl | rfl | rfl | rfl | rfl | rfl | rfl | rfl
  · refine rl_bnd (b_pieceX t i1 (by omega) (by omega)) ?_
    rintro ⟨y1_1, y1_2⟩ ⟨y1_1r, y1_2r⟩ ⟨my1_11, my1_12, ey1_2, iy1_2⟩
    obtain rfl : M = y1_1 := my1_11
    obtain rfl : N = y1_1r := my1_12
    obtain rfl : y1_2 = y1_2r := ey1_2
    refine rl_ltI (av_sub iy1_2 tn_1 (by omega) (by omega)) (fun x2 ix2 => ?_)
    refine rl_bnd (b_pieceY t i1 (by omega) (by omega)) ?_
    rintro ⟨y3_1, y3_2⟩ ⟨y3_1r, y3_2r⟩ ⟨my3_11, my3_12, ey3_2, iy3_2⟩
    obtain rfl : M = y3_1 := my3_11
    obtain rfl : N = y3_1r := my3_12
    obtain rfl : y3_2 = y3_2r := ey3_2
    refine rl_bnd (b_pieceAt t i0 ix2 iy3_2 tn_16 (by omega) (by omega) (by omega) (by omega) (by omega) (by omega) (by omega) (by omega) hw hI) ?_
    rintro ⟨y4_1, y4_2⟩ ⟨y4_1r, y4_2r⟩ ⟨my4_11, my4_12, ey4_2, ly4_2⟩
    obtain rfl : M = y4_1 := my4_11
    obtain rfl : N = y4_1r := my4_12
    obtain rfl : y4_2 = y4_2r := ey4_2
    dsimp only at ly4_2
    have iy4_2 : TI y4_2 y4_2.toInt := rfl
    refine rl_bnd (b_modeAt t iy4_2 (by omega) (by omega) (by omega) hI hK hM) ?_
    rintro ⟨y5_1, y5_2⟩ ⟨y5_1r, y5_2r⟩ ⟨my5_11, my5_12, ey5_2⟩
    obtain rfl : M = y5_1 := my5_11
    obtain rfl : N = y5_1r := my5_12
    obtain rfl : y5_2 = y5_2r := ey5_2
    refine rl_bnd (b_pieceX t i1 (by omega) (by omega)) ?_
    rintro ⟨y6_1, y6_2⟩ ⟨y6_1r, y6_2r⟩ ⟨my6_11, my6_12, ey6_2, iy6_2⟩
    obtain rfl : M = y6_1 := my6_11
    obtain rfl : N = y6_1r := my6_12
    obtain rfl : y6_2 = y6_2r := ey6_2
    refine rl_bnd (b_pieceY t i1 (by omega) (by omega)) ?_
    rintro ⟨y7_1, y7_2⟩ ⟨y7_1r, y7_2r⟩ ⟨my7_11, my7_12, ey7_2, iy7_2⟩
    obtain rfl : M = y7_1 := my7_11
    obtain rfl : N = y7_1r := my7_12
    obtain rfl : y7_2 = y7_2r := ey7_2
    refine rl_ltI (av_sub iy7_2 tn_1 (by omega) (by omega)) (fun x8 ix8 => ?_)
    refine rl_bnd (b_pieceAt t i0 iy6_2 ix8 tn_16 (by omega) (by omega) (by omega) (by omega) (by omega) (by omega) (by omega) (by omega) hw hI) ?_
    rintro ⟨y9_1, y9_2⟩ ⟨y9_1r, y9_2r⟩ ⟨my9_11, my9_12, ey9_2, ly9_2⟩
    obtain rfl : M = y9_1 := my9_11
    obtain rfl : N = y9_1r := my9_12
    obtain rfl : y9_2 = y9_2r := ey9_2
    dsimp only at ly9_2
    have iy9_2 : TI y9_2 y9_2.toInt := rfl
    refine rl_bnd (b_modeAt t iy9_2 (by omega) (by omega) (by omega) hI hK hM) ?_
    rintro ⟨y10_1, y10_2⟩ ⟨y10_1r, y10_2r⟩ ⟨my10_11, my10_12, ey10_2⟩
    obtain rfl : M = y10_1 := my10_11
    obtain rfl : N = y10_1r := my10_12
    obtain rfl : y10_2 = y10_2r := ey10_2
    refine rl_bnd (Q := fun (y z : Int32) => y = z) ?_ ?_
    · refine rl_if (fun c1 => ?_) (fun c1 => ?_)
      · have dc1 := tl_lt (rfl : TI y5_2 y5_2.toInt) tn_0 c1
        exact rl_some rfl
      · have dc1 := tl_nlt (rfl : TI y5_2 y5_2.toInt) tn_0 c1
        refine rl_bnd (Q := fun (y z : Int32) => y = z) ?_ ?_
        · refine rl_if (fun c2 => ?_) (fun c2 => ?_)
          · have dc2 := tl_le tn_0 (rfl : TI y10_2 y10_2.toInt) c2
            refine rl_bnd (Q := fun (y z : Int32) => y = z) ?_ ?_
            · refine rl_if (fun c3 => ?_) (fun c3 => ?_)
              · have dc3 := tl_le (rfl : TI y10_2 y10_2.toInt) (rfl : TI y5_2 y5_2.toInt) c3
                exact rl_some rfl
              · have dc3 := tl_nle (rfl : TI y10_2 y10_2.toInt) (rfl : TI y5_2 y5_2.toInt) c3
                exact rl_some rfl
            · rintro y15 y15r ey15
              obtain rfl : y15 = y15r := ey15
              exact rl_some rfl
          · have dc2 := tl_nle tn_0 (rfl : TI y10_2 y10_2.toInt) c2
            exact rl_some rfl
        · rintro y13 y13r ey13
          obtain rfl : y13 = y13r := ey13
          exact rl_some rfl
    · rintro y11 y11r ey11
      obtain rfl : y11 = y11r := ey11
      exact rl_some ⟨rfl, rfl, rfl⟩
  · refine rl_bnd (b_pieceX t i1 (by omega) (by omega)) ?_
    rintro ⟨y1_1, y1_2⟩ ⟨y1_1r, y1_2r⟩ ⟨my1_11, my1_12, ey1_2, iy1_2⟩
    obtain rfl : M = y1_1 := my1_11
    obtain rfl : N = y1_1r := my1_12
    obtain rfl : y1_2 = y1_2r := ey1_2
    refine rl_ltI (av_sub iy1_2 tn_1 (by omega) (by omega)) (fun x2 ix2 => ?_)
    refine rl_bnd (b_pieceY t i1 (by omega) (by omega)) ?_
    rintro ⟨y3_1, y3_2⟩ ⟨y3_1r, y3_2r⟩ ⟨my3_11, my3_12, ey3_2, iy3_2⟩
    obtain rfl : M = y3_1 := my3_11
    obtain rfl : N = y3_1r := my3_12
    obtain rfl : y3_2 = y3_2r := ey3_2
    refine rl_bnd (b_pieceAt t i0 ix2 iy3_2 tn_16 (by omega) (by omega) (by omega) (by omega) (by omega) (by omega) (by omega) (by omega) hw hI) ?_
    rintro ⟨y4_1, y4_2⟩ ⟨y4_1r, y4_2r⟩ ⟨my4_11, my4_12, ey4_2, ly4_2⟩
    obtain rfl : M = y4_1 := my4_11
    obtain rfl : N = y4_1r := my4_12
    obtain rfl : y4_2 = y4_2r := ey4_2
    dsimp only at ly4_2
    have iy4_2 : TI y4_2 y4_2.toInt := rfl
    refine rl_bnd (b_modeAt t iy4_2 (by omega) (by omega) (by omega) hI hK hM) ?_
    rintro ⟨y5_1, y5_2⟩ ⟨y5_1r, y5_2r⟩ ⟨my5_11, my5_12, ey5_2⟩
    obtain rfl : M = y5_1 := my5_11
    obtain rfl : N = y5_1r := my5_12
    obtain rfl : y5_2 = y5_2r := ey5_2
    refine rl_bnd (b_pieceX t i1 (by omega) (by omega)) ?_
    rintro ⟨y6_1, y6_2⟩ ⟨y6_1r, y6_2r⟩ ⟨my6_11, my6_12, ey6_2, iy6_2⟩
    obtain rfl : M = y6_1 := my6_11
    obtain rfl : N = y6_1r := my6_12
    obtain rfl : y6_2 = y6_2r := ey6_2
    refine rl_bnd (b_pieceY t i1 (by omega) (by omega)) ?_
    rintro ⟨y7_1, y7_2⟩ ⟨y7_1r, y7_2r⟩ ⟨my7_11, my7_12, ey7_2, iy7_2⟩
    obtain rfl : M = y7_1 := my7_11
    obtain rfl : N = y7_1r := my7_12
    obtain rfl : y7_2 = y7_2r := ey7_2
    refine rl_ltI (av_sub iy7_2 tn_1 (by omega) (by omega)) (fun x8 ix8 => ?_)
    refine rl_bnd (b_pieceAt t i0 iy6_2 ix8 tn_16 (by omega) (by omega) (by omega) (by omega) (by omega) (by omega) (by omega) (by omega) hw hI) ?_
    rintro ⟨y9_1, y9_2⟩ ⟨y9_1r, y9_2r⟩ ⟨my9_11, my9_12, ey9_2, ly9_2⟩
    obtain rfl : M = y9_1 := my9_11
    obtain rfl : N = y9_1r := my9_12
    obtain rfl : y9_2 = y9_2r := ey9_2
    dsimp only at ly9_2
    have iy9_2 : TI y9_2 y9_2.toInt := rfl
    refine rl_bnd (b_modeAt t iy9_2 (by omega) (by omega) (by omega) hI hK hM) ?_
    rintro ⟨y10_1, y10_2⟩ ⟨y10_1r, y10_2r⟩ ⟨my10_11, my10_12, ey10_2⟩
    obtain rfl : M = y10_1 := my10_11
    obtain rfl : N = y10_1r := my10_12
    obtain rfl : y10_2 = y10_2r := ey10_2
    refine rl_bnd (Q := fun (y z : Int32) => y = z) ?_ ?_
    · refine rl_if (fun c1 => ?_) (fun c1 => ?_)
      · have dc1 := tl_lt (rfl : TI y5_2 y5_2.toInt) tn_0 c1
        exact rl_some rfl
      · have dc1 := tl_nlt (rfl : TI y5_2 y5_2.toInt) tn_0 c1
        refine rl_bnd (Q := fun (y z : Int32) => y = z) ?_ ?_
        · refine rl_if (fun c2 => ?_) (fun c2 => ?_)
          · have dc2 := tl_le tn_0 (rfl : TI y10_2 y10_2.toInt) c2
            refine rl_bnd (Q := fun (y z : Int32) => y = z) ?_ ?_
            · refine rl_if (fun c3 => ?_) (fun c3 => ?_)
              · have dc3 := tl_le (rfl : TI y10_2 y10_2.toInt) (rfl : TI y5_2 y5_2.toInt) c3
                exact rl_some rfl
              · have dc3 := tl_nle (rfl : TI y10_2 y10_2.toInt) (rfl : TI y5_2 y5_2.toInt) c3
                exact rl_some rfl
            · rintro y15 y15r ey15
              obtain rfl : y15 = y15r := ey15
              exact rl_some rfl
          · have dc2 := tl_nle tn_0 (rfl : TI y10_2 y10_2.toInt) c2
            exact rl_some rfl
        · rintro y13 y13r ey13
          obtain rfl : y13 = y13r := ey13
          exact rl_some rfl
    · rintro y11 y11r ey11
      obtain rfl : y11 = y11r := ey11
      exact rl_some ⟨rfl, rfl, rfl⟩
  · refine rl_bnd (b_pieceX t i1 (by omega) (by omega)) ?_
    rintro ⟨y1_1, y1_2⟩ ⟨y1_1r, y1_2r⟩ ⟨my1_11, my1_12, ey1_2, iy1_2⟩
    obtain rfl : M = y1_1 := my1_11
    obtain rfl : N = y1_1r := my1_12
    obtain rfl : y1_2 = y1_2r := ey1_2
    refine rl_ltI (av_sub iy1_2 tn_1 (by omega) (by omega)) (fun x2 ix2 => ?_)
    refine rl_bnd (b_pieceY t i1 (by omega) (by omega)) ?_
    rintro ⟨y3_1, y3_2⟩ ⟨y3_1r, y3_2r⟩ ⟨my3_11, my3_12, ey3_2, iy3_2⟩
    obtain rfl : M = y3_1 := my3_11
    obtain rfl : N = y3_1r := my3_12
    obtain rfl : y3_2 = y3_2r := ey3_2
    refine rl_bnd (b_pieceAt t i0 ix2 iy3_2 tn_16 (by omega) (by omega) (by omega) (by omega) (by omega) (by omega) (by omega) (by omega) hw hI) ?_
    rintro ⟨y4_1, y4_2⟩ ⟨y4_1r, y4_2r⟩ ⟨my4_11, my4_12, ey4_2, ly4_2⟩
    obtain rfl : M = y4_1 := my4_11
    obtain rfl : N = y4_1r := my4_12
    obtain rfl : y4_2 = y4_2r := ey4_2
    dsimp only at ly4_2
    have iy4_2 : TI y4_2 y4_2.toInt := rfl
    refine rl_bnd (b_modeAt t iy4_2 (by omega) (by omega) (by omega) hI hK hM) ?_
    rintro ⟨y5_1, y5_2⟩ ⟨y5_1r, y5_2r⟩ ⟨my5_11, my5_12, ey5_2⟩
    obtain rfl : M = y5_1 := my5_11
    obtain rfl : N = y5_1r := my5_12
    obtain rfl : y5_2 = y5_2r := ey5_2
    refine rl_bnd (b_pieceX t i1 (by omega) (by omega)) ?_
    rintro ⟨y6_1, y6_2⟩ ⟨y6_1r, y6_2r⟩ ⟨my6_11, my6_12, ey6_2, iy6_2⟩
    obtain rfl : M = y6_1 := my6_11
    obtain rfl : N = y6_1r := my6_12
    obtain rfl : y6_2 = y6_2r := ey6_2
    refine rl_bnd (b_pieceY t i1 (by omega) (by omega)) ?_
    rintro ⟨y7_1, y7_2⟩ ⟨y7_1r, y7_2r⟩ ⟨my7_11, my7_12, ey7_2, iy7_2⟩
    obtain rfl : M = y7_1 := my7_11
    obtain rfl : N = y7_1r := my7_12
    obtain rfl : y7_2 = y7_2r := ey7_2
    refine rl_ltI (av_sub iy7_2 tn_1 (by omega) (by omega)) (fun x8 ix8 => ?_)
    refine rl_bnd (b_pieceAt t i0 iy6_2 ix8 tn_16 (by omega) (by omega) (by omega) (by omega) (by omega) (by omega) (by omega) (by omega) hw hI) ?_
    rintro ⟨y9_1, y9_2⟩ ⟨y9_1r, y9_2r⟩ ⟨my9_11, my9_12, ey9_2, ly9_2⟩
    obtain rfl : M = y9_1 := my9_11
    obtain rfl : N = y9_1r := my9_12
    obtain rfl : y9_2 = y9_2r := ey9_2
    dsimp only at ly9_2
    have iy9_2 : TI y9_2 y9_2.toInt := rfl
    refine rl_bnd (b_modeAt t iy9_2 (by omega) (by omega) (by omega) hI hK hM) ?_
    rintro ⟨y10_1, y10_2⟩ ⟨y10_1r, y10_2r⟩ ⟨my10_11, my10_12, ey10_2⟩
    obtain rfl : M = y10_1 := my10_11
    obtain rfl : N = y10_1r := my10_12
    obtain rfl : y10_2 = y10_2r := ey10_2
    refine rl_bnd (Q := fun (y z : Int32) => y = z) ?_ ?_
    · refine rl_if (fun c1 => ?_) (fun c1 => ?_)
      · have dc1 := tl_lt (rfl : TI y5_2 y5_2.toInt) tn_0 c1
        exact rl_some rfl
      · have dc1 := tl_nlt (rfl : TI y5_2 y5_2.toInt) tn_0 c1
        refine rl_bnd (Q := fun (y z : Int32) => y = z) ?_ ?_
        · refine rl_if (fun c2 => ?_) (fun c2 => ?_)
          · have dc2 := tl_le tn_0 (rfl : TI y10_2 y10_2.toInt) c2
            refine rl_bnd (Q := fun (y z : Int32) => y = z) ?_ ?_
            · refine rl_if (fun c3 => ?_) (fun c3 => ?_)
              · have dc3 := tl_le (rfl : TI y10_2 y10_2.toInt) (rfl : TI y5_2 y5_2.toInt) c3
                exact rl_some rfl
              · have dc3 := tl_nle (rfl : TI y10_2 y10_2.toInt) (rfl : TI y5_2 y5_2.toInt) c3
                exact rl_some rfl
            · rintro y15 y15r ey15
              obtain rfl : y15 = y15r := ey15
              exact rl_some rfl
          · have dc2 := tl_nle tn_0 (rfl : TI y10_2 y10_2.toInt) c2
            exact rl_some rfl
        · rintro y13 y13r ey13
          obtain rfl : y13 = y13r := ey13
          exact rl_some rfl
    · rintro y11 y11r ey11
      obtain rfl : y11 = y11r := ey11
      exact rl_some ⟨rfl, rfl, rfl⟩
  · refine rl_bnd (b_pieceX t i1 (by omega) (by omega)) ?_
    rintro ⟨y1_1, y1_2⟩ ⟨y1_1r, y1_2r⟩ ⟨my1_11, my1_12, ey1_2, iy1_2⟩
    obtain rfl : M = y1_1 := my1_11
    obtain rfl : N = y1_1r := my1_12
    obtain rfl : y1_2 = y1_2r := ey1_2
    refine rl_ltI (av_sub iy1_2 tn_1 (by omega) (by omega)) (fun x2 ix2 => ?_)
    refine rl_bnd (b_pieceY t i1 (by omega) (by omega)) ?_
    rintro ⟨y3_1, y3_2⟩ ⟨y3_1r, y3_2r⟩ ⟨my3_11, my3_12, ey3_2, iy3_2⟩
    obtain rfl : M = y3_1 := my3_11
    obtain rfl : N = y3_1r := my3_12
    obtain rfl : y3_2 = y3_2r := ey3_2
    refine rl_bnd (b_pieceAt t i0 ix2 iy3_2 tn_16 (by omega) (by omega) (by omega) (by omega) (by omega) (by omega) (by omega) (by omega) hw hI) ?_
    rintro ⟨y4_1, y4_2⟩ ⟨y4_1r, y4_2r⟩ ⟨my4_11, my4_12, ey4_2, ly4_2⟩
    obtain rfl : M = y4_1 := my4_11
    obtain rfl : N = y4_1r := my4_12
    obtain rfl : y4_2 = y4_2r := ey4_2
    dsimp only at ly4_2
    have iy4_2 : TI y4_2 y4_2.toInt := rfl
    refine rl_bnd (b_modeAt t iy4_2 (by omega) (by omega) (by omega) hI hK hM) ?_
    rintro ⟨y5_1, y5_2⟩ ⟨y5_1r, y5_2r⟩ ⟨my5_11, my5_12, ey5_2⟩
    obtain rfl : M = y5_1 := my5_11
    obtain rfl : N = y5_1r := my5_12
    obtain rfl : y5_2 = y5_2r := ey5_2
    refine rl_bnd (b_pieceX t i1 (by omega) (by omega)) ?_
    rintro ⟨y6_1, y6_2⟩ ⟨y6_1r, y6_2r⟩ ⟨my6_11, my6_12, ey6_2, iy6_2⟩
    obtain rfl : M = y6_1 := my6_11
    obtain rfl : N = y6_1r := my6_12
    obtain rfl : y6_2 = y6_2r := ey6_2
    refine rl_bnd (b_pieceY t i1 (by omega) (by omega)) ?_
    rintro ⟨y7_1, y7_2⟩ ⟨y7_1r, y7_2r⟩ ⟨my7_11, my7_12, ey7_2, iy7_2⟩
    obtain rfl : M = y7_1 := my7_11
    obtain rfl : N = y7_1r := my7_12
    obtain rfl : y7_2 = y7_2r := ey7_2
    refine rl_ltI (av_sub iy7_2 tn_1 (by omega) (by omega)) (fun x8 ix8 => ?_)
    refine rl_bnd (b_pieceAt t i0 iy6_2 ix8 tn_16 (by omega) (by omega) (by omega) (by omega) (by omega) (by omega) (by omega) (by omega) hw hI) ?_
    rintro ⟨y9_1, y9_2⟩ ⟨y9_1r, y9_2r⟩ ⟨my9_11, my9_12, ey9_2, ly9_2⟩
    obtain rfl : M = y9_1 := my9_11
    obtain rfl : N = y9_1r := my9_12
    obtain rfl : y9_2 = y9_2r := ey9_2
    dsimp only at ly9_2
    have iy9_2 : TI y9_2 y9_2.toInt := rfl
    refine rl_bnd (b_modeAt t iy9_2 (by omega) (by omega) (by omega) hI hK hM) ?_
    rintro ⟨y10_1, y10_2⟩ ⟨y10_1r, y10_2r⟩ ⟨my10_11, my10_12, ey10_2⟩
    obtain rfl : M = y10_1 := my10_11
    obtain rfl : N = y10_1r := my10_12
    obtain rfl : y10_2 = y10_2r := ey10_2
    refine rl_bnd (Q := fun (y z : Int32) => y = z) ?_ ?_
    · refine rl_if (fun c1 => ?_) (fun c1 => ?_)
      · have dc1 := tl_lt (rfl : TI y5_2 y5_2.toInt) tn_0 c1
        exact rl_some rfl
      · have dc1 := tl_nlt (rfl : TI y5_2 y5_2.toInt) tn_0 c1
        refine rl_bnd (Q := fun (y z : Int32) => y = z) ?_ ?_
        · refine rl_if (fun c2 => ?_) (fun c2 => ?_)
          · have dc2 := tl_le tn_0 (rfl : TI y10_2 y10_2.toInt) c2
            refine rl_bnd (Q := fun (y z : Int32) => y = z) ?_ ?_
            · refine rl_if (fun c3 => ?_) (fun c3 => ?_)
              · have dc3 := tl_le (rfl : TI y10_2 y10_2.toInt) (rfl : TI y5_2 y5_2.toInt) c3
                exact rl_some rfl
              · have dc3 := tl_nle (rfl : TI y10_2 y10_2.toInt) (rfl : TI y5_2 y5_2.toInt) c3
                exact rl_some rfl
            · rintro y15 y15r ey15
              obtain rfl : y15 = y15r := ey15
              exact rl_some rfl
          · have dc2 := tl_nle tn_0 (rfl : TI y10_2 y10_2.toInt) c2
            exact rl_some rfl
        · rintro y13 y13r ey13
          obtain rfl : y13 = y13r := ey13
          exact rl_some rfl
    · rintro y11 y11r ey11
      obtain rfl : y11 = y11r := ey11
      exact rl_some ⟨rfl, rfl, rfl⟩
  · refine rl_bnd (b_pieceX t i1 (by omega) (by omega)) ?_
    rintro ⟨y1_1, y1_2⟩ ⟨y1_1r, y1_2r⟩ ⟨my1_11, my1_12, ey1_2, iy1_2⟩
    obtain rfl : M = y1_1 := my1_11
    obtain rfl : N = y1_1r := my1_12
    obtain rfl : y1_2 = y1_2r := ey1_2
    refine rl_ltI (av_sub iy1_2 tn_1 (by omega) (by omega)) (fun x2 ix2 => ?_)
    refine rl_bnd (b_pieceY t i1 (by omega) (by omega)) ?_
    rintro ⟨y3_1, y3_2⟩ ⟨y3_1r, y3_2r⟩ ⟨my3_11, my3_12, ey3_2, iy3_2⟩
    obtain rfl : M = y3_1 := my3_11
    obtain rfl : N = y3_1r := my3_12
    obtain rfl : y3_2 = y3_2r := ey3_2
    refine rl_bnd (b_pieceAt t i0 ix2 iy3_2 tn_16 (by omega) (by omega) (by omega) (by omega) (by omega) (by omega) (by omega) (by omega) hw hI) ?_
    rintro ⟨y4_1, y4_2⟩ ⟨y4_1r, y4_2r⟩ ⟨my4_11, my4_12, ey4_2, ly4_2⟩
    obtain rfl : M = y4_1 := my4_11
    obtain rfl : N = y4_1r := my4_12
    obtain rfl : y4_2 = y4_2r := ey4_2
    dsimp only at ly4_2
    have iy4_2 : TI y4_2 y4_2.toInt := rfl
    refine rl_bnd (b_modeAt t iy4_2 (by omega) (by omega) (by omega) hI hK hM) ?_
    rintro ⟨y5_1, y5_2⟩ ⟨y5_1r, y5_2r⟩ ⟨my5_11, my5_12, ey5_2⟩
    obtain rfl : M = y5_1 := my5_11
    obtain rfl : N = y5_1r := my5_12
    obtain rfl : y5_2 = y5_2r := ey5_2
    refine rl_bnd (b_pieceX t i1 (by omega) (by omega)) ?_
    rintro ⟨y6_1, y6_2⟩ ⟨y6_1r, y6_2r⟩ ⟨my6_11, my6_12, ey6_2, iy6_2⟩
    obtain rfl : M = y6_1 := my6_11
    obtain rfl : N = y6_1r := my6_12
    obtain rfl : y6_2 = y6_2r := ey6_2
    refine rl_bnd (b_pieceY t i1 (by omega) (by omega)) ?_
    rintro ⟨y7_1, y7_2⟩ ⟨y7_1r, y7_2r⟩ ⟨my7_11, my7_12, ey7_2, iy7_2⟩
    obtain rfl : M = y7_1 := my7_11
    obtain rfl : N = y7_1r := my7_12
    obtain rfl : y7_2 = y7_2r := ey7_2
    refine rl_ltI (av_sub iy7_2 tn_1 (by omega) (by omega)) (fun x8 ix8 => ?_)
    refine rl_bnd (b_pieceAt t i0 iy6_2 ix8 tn_16 (by omega) (by omega) (by omega) (by omega) (by omega) (by omega) (by omega) (by omega) hw hI) ?_
    rintro ⟨y9_1, y9_2⟩ ⟨y9_1r, y9_2r⟩ ⟨my9_11, my9_12, ey9_2, ly9_2⟩
    obtain rfl : M = y9_1 := my9_11
    obtain rfl : N = y9_1r := my9_12
    obtain rfl : y9_2 = y9_2r := ey9_2
    dsimp only at ly9_2
    have iy9_2 : TI y9_2 y9_2.toInt := rfl
    refine rl_bnd (b_modeAt t iy9_2 (by omega) (by omega) (by omega) hI hK hM) ?_
    rintro ⟨y10_1, y10_2⟩ ⟨y10_1r, y10_2r⟩ ⟨my10_11, my10_12, ey10_2⟩
    obtain rfl : M = y10_1 := my10_11
    obtain rfl : N = y10_1r := my10_12
    obtain rfl : y10_2 = y10_2r := ey10_2
    refine rl_bnd (Q := fun (y z : Int32) => y = z) ?_ ?_
    · refine rl_if (fun c1 => ?_) (fun c1 => ?_)
      · have dc1 := tl_lt (rfl : TI y5_2 y5_2.toInt) tn_0 c1
        exact rl_some rfl
      · have dc1 := tl_nlt (rfl : TI y5_2 y5_2.toInt) tn_0 c1
        refine rl_bnd (Q := fun (y z : Int32) => y = z) ?_ ?_
        · refine rl_if (fun c2 => ?_) (fun c2 => ?_)
          · have dc2 := tl_le tn_0 (rfl : TI y10_2 y10_2.toInt) c2
            refine rl_bnd (Q := fun (y z : Int32) => y = z) ?_ ?_
            · refine rl_if (fun c3 => ?_) (fun c3 => ?_)
              · have dc3 := tl_le (rfl : TI y10_2 y10_2.toInt) (rfl : TI y5_2 y5_2.toInt) c3
                exact rl_some rfl
              · have dc3 := tl_nle (rfl : TI y10_2 y10_2.toInt) (rfl : TI y5_2 y5_2.toInt) c3
                exact rl_some rfl
            · rintro y15 y15r ey15
              obtain rfl : y15 = y15r := ey15
              exact rl_some rfl
          · have dc2 := tl_nle tn_0 (rfl : TI y10_2 y10_2.toInt) c2
            exact rl_some rfl
        · rintro y13 y13r ey13
          obtain rfl : y13 = y13r := ey13
          exact rl_some rfl
    · rintro y11 y11r ey11
      obtain rfl : y11 = y11r := ey11
      exact rl_some ⟨rfl, rfl, rfl⟩
  · refine rl_bnd (b_pieceX t i1 (by omega) (by omega)) ?_
    rintro ⟨y1_1, y1_2⟩ ⟨y1_1r, y1_2r⟩ ⟨my1_11, my1_12, ey1_2, iy1_2⟩
    obtain rfl : M = y1_1 := my1_11
    obtain rfl : N = y1_1r := my1_12
    obtain rfl : y1_2 = y1_2r := ey1_2
    refine rl_ltI (av_sub iy1_2 tn_1 (by omega) (by omega)) (fun x2 ix2 => ?_)
    refine rl_bnd (b_pieceY t i1 (by omega) (by omega)) ?_
    rintro ⟨y3_1, y3_2⟩ ⟨y3_1r, y3_2r⟩ ⟨my3_11, my3_12, ey3_2, iy3_2⟩
    obtain rfl : M = y3_1 := my3_11
    obtain rfl : N = y3_1r := my3_12
    obtain rfl : y3_2 = y3_2r := ey3_2
    refine rl_bnd (b_pieceAt t i0 ix2 iy3_2 tn_16 (by omega) (by omega) (by omega) (by omega) (by omega) (by omega) (by omega) (by omega) hw hI) ?_
    rintro ⟨y4_1, y4_2⟩ ⟨y4_1r, y4_2r⟩ ⟨my4_11, my4_12, ey4_2, ly4_2⟩
    obtain rfl : M = y4_1 := my4_11
    obtain rfl : N = y4_1r := my4_12
    obtain rfl : y4_2 = y4_2r := ey4_2
    dsimp only at ly4_2
    have iy4_2 : TI y4_2 y4_2.toInt := rfl
    refine rl_bnd (b_modeAt t iy4_2 (by omega) (by omega) (by omega) hI hK hM) ?_
    rintro ⟨y5_1, y5_2⟩ ⟨y5_1r, y5_2r⟩ ⟨my5_11, my5_12, ey5_2⟩
    obtain rfl : M = y5_1 := my5_11
    obtain rfl : N = y5_1r := my5_12
    obtain rfl : y5_2 = y5_2r := ey5_2
    refine rl_bnd (b_pieceX t i1 (by omega) (by omega)) ?_
    rintro ⟨y6_1, y6_2⟩ ⟨y6_1r, y6_2r⟩ ⟨my6_11, my6_12, ey6_2, iy6_2⟩
    obtain rfl : M = y6_1 := my6_11
    obtain rfl : N = y6_1r := my6_12
    obtain rfl : y6_2 = y6_2r := ey6_2
    refine rl_bnd (b_pieceY t i1 (by omega) (by omega)) ?_
    rintro ⟨y7_1, y7_2⟩ ⟨y7_1r, y7_2r⟩ ⟨my7_11, my7_12, ey7_2, iy7_2⟩
    obtain rfl : M = y7_1 := my7_11
    obtain rfl : N = y7_1r := my7_12
    obtain rfl : y7_2 = y7_2r := ey7_2
    refine rl_ltI (av_sub iy7_2 tn_1 (by omega) (by omega)) (fun x8 ix8 => ?_)
    refine rl_bnd (b_pieceAt t i0 iy6_2 ix8 tn_16 (by omega) (by omega) (by omega) (by omega) (by omega) (by omega) (by omega) (by omega) hw hI) ?_
    rintro ⟨y9_1, y9_2⟩ ⟨y9_1r, y9_2r⟩ ⟨my9_11, my9_12, ey9_2, ly9_2⟩
    obtain rfl : M = y9_1 := my9_11
    obtain rfl : N = y9_1r := my9_12
    obtain rfl : y9_2 = y9_2r := ey9_2
    dsimp only at ly9_2
    have iy9_2 : TI y9_2 y9_2.toInt := rfl
    refine rl_bnd (b_modeAt t iy9_2 (by omega) (by omega) (by omega) hI hK hM) ?_
    rintro ⟨y10_1, y10_2⟩ ⟨y10_1r, y10_2r⟩ ⟨my10_11, my10_12, ey10_2⟩
    obtain rfl : M = y10_1 := my10_11
    obtain rfl : N = y10_1r := my10_12
    obtain rfl : y10_2 = y10_2r := ey10_2
    refine rl_bnd (Q := fun (y z : Int32) => y = z) ?_ ?_
    · refine rl_if (fun c1 => ?_) (fun c1 => ?_)
      · have dc1 := tl_lt (rfl : TI y5_2 y5_2.toInt) tn_0 c1
        exact rl_some rfl
      · have dc1 := tl_nlt (rfl : TI y5_2 y5_2.toInt) tn_0 c1
        refine rl_bnd (Q := fun (y z : Int32) => y = z) ?_ ?_
        · refine rl_if (fun c2 => ?_) (fun c2 => ?_)
          · have dc2 := tl_le tn_0 (rfl : TI y10_2 y10_2.toInt) c2
            refine rl_bnd (Q := fun (y z : Int32) => y = z) ?_ ?_
            · refine rl_if (fun c3 => ?_) (fun c3 => ?_)
              · have dc3 := tl_le (rfl : TI y10_2 y10_2.toInt) (rfl : TI y5_2 y5_2.toInt) c3
                exact rl_some rfl
              · have dc3 := tl_nle (rfl : TI y10_2 y10_2.toInt) (rfl : TI y5_2 y5_2.toInt) c3
                exact rl_some rfl
            · rintro y15 y15r ey15
              obtain rfl : y15 = y15r := ey15
              exact rl_some rfl
          · have dc2 := tl_nle tn_0 (rfl : TI y10_2 y10_2.toInt) c2
            exact rl_some rfl
        · rintro y13 y13r ey13
          obtain rfl : y13 = y13r := ey13
          exact rl_some rfl
    · rintro y11 y11r ey11
      obtain rfl : y11 = y11r := ey11
      exact rl_some ⟨rfl, rfl, rfl⟩
  · refine rl_bnd (b_pieceX t i1 (by omega) (by omega)) ?_
    rintro ⟨y1_1, y1_2⟩ ⟨y1_1r, y1_2r⟩ ⟨my1_11, my1_12, ey1_2, iy1_2⟩
    obtain rfl : M = y1_1 := my1_11
    obtain rfl : N = y1_1r := my1_12
    obtain rfl : y1_2 = y1_2r := ey1_2
    refine rl_ltI (av_sub iy1_2 tn_1 (by omega) (by omega)) (fun x2 ix2 => ?_)
    refine rl_bnd (b_pieceY t i1 (by omega) (by omega)) ?_
    rintro ⟨y3_1, y3_2⟩ ⟨y3_1r, y3_2r⟩ ⟨my3_11, my3_12, ey3_2, iy3_2⟩
    obtain rfl : M = y3_1 := my3_11
    obtain rfl : N = y3_1r := my3_12
    obtain rfl : y3_2 = y3_2r := ey3_2
    refine rl_bnd (b_pieceAt t i0 ix2 iy3_2 tn_16 (by omega) (by omega) (by omega) (by omega) (by omega) (by omega) (by omega) (by omega) hw hI) ?_
    rintro ⟨y4_1, y4_2⟩ ⟨y4_1r, y4_2r⟩ ⟨my4_11, my4_12, ey4_2, ly4_2⟩
    obtain rfl : M = y4_1 := my4_11
    obtain rfl : N = y4_1r := my4_12
    obtain rfl : y4_2 = y4_2r := ey4_2
    dsimp only at ly4_2
    have iy4_2 : TI y4_2 y4_2.toInt := rfl
    refine rl_bnd (b_modeAt t iy4_2 (by omega) (by omega) (by omega) hI hK hM) ?_
    rintro ⟨y5_1, y5_2⟩ ⟨y5_1r, y5_2r⟩ ⟨my5_11, my5_12, ey5_2⟩
    obtain rfl : M = y5_1 := my5_11
    obtain rfl : N = y5_1r := my5_12
    obtain rfl : y5_2 = y5_2r := ey5_2
    refine rl_bnd (b_pieceX t i1 (by omega) (by omega)) ?_
    rintro ⟨y6_1, y6_2⟩ ⟨y6_1r, y6_2r⟩ ⟨my6_11, my6_12, ey6_2, iy6_2⟩
    obtain rfl : M = y6_1 := my6_11
    obtain rfl : N = y6_1r := my6_12
    obtain rfl : y6_2 = y6_2r := ey6_2
    refine rl_bnd (b_pieceY t i1 (by omega) (by omega)) ?_
    rintro ⟨y7_1, y7_2⟩ ⟨y7_1r, y7_2r⟩ ⟨my7_11, my7_12, ey7_2, iy7_2⟩
    obtain rfl : M = y7_1 := my7_11
    obtain rfl : N = y7_1r := my7_12
    obtain rfl : y7_2 = y7_2r := ey7_2
    refine rl_ltI (av_sub iy7_2 tn_1 (by omega) (by omega)) (fun x8 ix8 => ?_)
    refine rl_bnd (b_pieceAt t i0 iy6_2 ix8 tn_16 (by omega) (by omega) (by omega) (by omega) (by omega) (by omega) (by omega) (by omega) hw hI) ?_
    rintro ⟨y9_1, y9_2⟩ ⟨y9_1r, y9_2r⟩ ⟨my9_11, my9_12, ey9_2, ly9_2⟩
    obtain rfl : M = y9_1 := my9_11
    obtain rfl : N = y9_1r := my9_12
    obtain rfl : y9_2 = y9_2r := ey9_2
    dsimp only at ly9_2
    have iy9_2 : TI y9_2 y9_2.toInt := rfl
    refine rl_bnd (b_modeAt t iy9_2 (by omega) (by omega) (by omega) hI hK hM) ?_
    rintro ⟨y10_1, y10_2⟩ ⟨y10_1r, y10_2r⟩ ⟨my10_11, my10_12, ey10_2⟩
    obtain rfl : M = y10_1 := my10_11
    obtain rfl : N = y10_1r := my10_12
    obtain rfl : y10_2 = y10_2r := ey10_2
    refine rl_bnd (Q := fun (y z : Int32) => y = z) ?_ ?_
    · refine rl_if (fun c1 => ?_) (fun c1 => ?_)
      · have dc1 := tl_lt (rfl : TI y5_2 y5_2.toInt) tn_0 c1
        exact rl_some rfl
      · have dc1 := tl_nlt (rfl : TI y5_2 y5_2.toInt) tn_0 c1
        refine rl_bnd (Q := fun (y z : Int32) => y = z) ?_ ?_
        · refine rl_if (fun c2 => ?_) (fun c2 => ?_)
          · have dc2 := tl_le tn_0 (rfl : TI y10_2 y10_2.toInt) c2
            refine rl_bnd (Q := fun (y z : Int32) => y = z) ?_ ?_
            · refine rl_if (fun c3 => ?_) (fun c3 => ?_)
              · have dc3 := tl_le (rfl : TI y10_2 y10_2.toInt) (rfl : TI y5_2 y5_2.toInt) c3
                exact rl_some rfl
              · have dc3 := tl_nle (rfl : TI y10_2 y10_2.toInt) (rfl : TI y5_2 y5_2.toInt) c3
                exact rl_some rfl
            · rintro y15 y15r ey15
              obtain rfl : y15 = y15r := ey15
              exact rl_some rfl
          · have dc2 := tl_nle tn_0 (rfl : TI y10_2 y10_2.toInt) c2
            exact rl_some rfl
        · rintro y13 y13r ey13
          obtain rfl : y13 = y13r := ey13
          exact rl_some rfl
    · rintro y11 y11r ey11
      obtain rfl : y11 = y11r := ey11
      exact rl_some ⟨rfl, rfl, rfl⟩
  · refine rl_bnd (b_pieceX t i1 (by omega) (by omega)) ?_
    rintro ⟨y1_1, y1_2⟩ ⟨y1_1r, y1_2r⟩ ⟨my1_11, my1_12, ey1_2, iy1_2⟩
    obtain rfl : M = y1_1 := my1_11
    obtain rfl : N = y1_1r := my1_12
    obtain rfl : y1_2 = y1_2r := ey1_2
    refine rl_ltI (av_sub iy1_2 tn_1 (by omega) (by omega)) (fun x2 ix2 => ?_)
    refine rl_bnd (b_pieceY t i1 (by omega) (by omega)) ?_
    rintro ⟨y3_1, y3_2⟩ ⟨y3_1r, y3_2r⟩ ⟨my3_11, my3_12, ey3_2, iy3_2⟩
    obtain rfl : M = y3_1 := my3_11
    obtain rfl : N = y3_1r := my3_12
    obtain rfl : y3_2 = y3_2r := ey3_2
    refine rl_bnd (b_pieceAt t i0 ix2 iy3_2 tn_16 (by omega) (by omega) (by omega) (by omega) (by omega) (by omega) (by omega) (by omega) hw hI) ?_
    rintro ⟨y4_1, y4_2⟩ ⟨y4_1r, y4_2r⟩ ⟨my4_11, my4_12, ey4_2, ly4_2⟩
    obtain rfl : M = y4_1 := my4_11
    obtain rfl : N = y4_1r := my4_12
    obtain rfl : y4_2 = y4_2r := ey4_2
    dsimp only at ly4_2
    have iy4_2 : TI y4_2 y4_2.toInt := rfl
    refine rl_bnd (b_modeAt t iy4_2 (by omega) (by omega) (by omega) hI hK hM) ?_
    rintro ⟨y5_1, y5_2⟩ ⟨y5_1r, y5_2r⟩ ⟨my5_11, my5_12, ey5_2⟩
    obtain rfl : M = y5_1 := my5_11
    obtain rfl : N = y5_1r := my5_12
    obtain rfl : y5_2 = y5_2r := ey5_2
    refine rl_bnd (b_pieceX t i1 (by omega) (by omega)) ?_
    rintro ⟨y6_1, y6_2⟩ ⟨y6_1r, y6_2r⟩ ⟨my6_11, my6_12, ey6_2, iy6_2⟩
    obtain rfl : M = y6_1 := my6_11
    obtain rfl : N = y6_1r := my6_12
    obtain rfl : y6_2 = y6_2r := ey6_2
    refine rl_bnd (b_pieceY t i1 (by omega) (by omega)) ?_
    rintro ⟨y7_1, y7_2⟩ ⟨y7_1r, y7_2r⟩ ⟨my7_11, my7_12, ey7_2, iy7_2⟩
    obtain rfl : M = y7_1 := my7_11
    obtain rfl : N = y7_1r := my7_12
    obtain rfl : y7_2 = y7_2r := ey7_2
    refine rl_ltI (av_sub iy7_2 tn_1 (by omega) (by omega)) (fun x8 ix8 => ?_)
    refine rl_bnd (b_pieceAt t i0 iy6_2 ix8 tn_16 (by omega) (by omega) (by omega) (by omega) (by omega) (by omega) (by omega) (by omega) hw hI) ?_
    rintro ⟨y9_1, y9_2⟩ ⟨y9_1r, y9_2r⟩ ⟨my9_11, my9_12, ey9_2, ly9_2⟩
    obtain rfl : M = y9_1 := my9_11
    obtain rfl : N = y9_1r := my9_12
    obtain rfl : y9_2 = y9_2r := ey9_2
    dsimp only at ly9_2
    have iy9_2 : TI y9_2 y9_2.toInt := rfl
    refine rl_bnd (b_modeAt t iy9_2 (by omega) (by omega) (by omega) hI hK hM) ?_
    rintro ⟨y10_1, y10_2⟩ ⟨y10_1r, y10_2r⟩ ⟨my10_11, my10_12, ey10_2⟩
    obtain rfl : M = y10_1 := my10_11
    obtain rfl : N = y10_1r := my10_12
    obtain rfl : y10_2 = y10_2r := ey10_2
    refine rl_bnd (Q := fun (y z : Int32) => y = z) ?_ ?_
    · refine rl_if (fun c1 => ?_) (fun c1 => ?_)
      · have dc1 := tl_lt (rfl : TI y5_2 y5_2.toInt) tn_0 c1
        exact rl_some rfl
      · have dc1 := tl_nlt (rfl : TI y5_2 y5_2.toInt) tn_0 c1
        refine rl_bnd (Q := fun (y z : Int32) => y = z) ?_ ?_
        · refine rl_if (fun c2 => ?_) (fun c2 => ?_)
          · have dc2 := tl_le tn_0 (rfl : TI y10_2 y10_2.toInt) c2
            refine rl_bnd (Q := fun (y z : Int32) => y = z) ?_ ?_
            · refine rl_if (fun c3 => ?_) (fun c3 => ?_)
              · have dc3 := tl_le (rfl : TI y10_2 y10_2.toInt) (rfl : TI y5_2 y5_2.toInt) c3
                exact rl_some rfl
              · have dc3 := tl_nle (rfl : TI y10_2 y10_2.toInt) (rfl : TI y5_2 y5_2.toInt) c3
                exact rl_some rfl
            · rintro y15 y15r ey15
              obtain rfl : y15 = y15r := ey15
              exact rl_some rfl
          · have dc2 := tl_nle tn_0 (rfl : TI y10_2 y10_2.toInt) c2
            exact rl_some rfl
        · rintro y13 y13r ey13
          obtain rfl : y13 = y13r := ey13
          exact rl_some rfl
    · rintro y11 y11r ey11
      obtain rfl : y11 = y11r := ey11
      exact rl_some ⟨rfl, rfl, rfl⟩
  · refine rl_bnd (b_pieceX t i1 (by omega) (by omega)) ?_
    rintro ⟨y1_1, y1_2⟩ ⟨y1_1r, y1_2r⟩ ⟨my1_11, my1_12, ey1_2, iy1_2⟩
    obtain rfl : M = y1_1 := my1_11
    obtain rfl : N = y1_1r := my1_12
    obtain rfl : y1_2 = y1_2r := ey1_2
    refine rl_ltI (av_sub iy1_2 tn_1 (by omega) (by omega)) (fun x2 ix2 => ?_)
    refine rl_bnd (b_pieceY t i1 (by omega) (by omega)) ?_
    rintro ⟨y3_1, y3_2⟩ ⟨y3_1r, y3_2r⟩ ⟨my3_11, my3_12, ey3_2, iy3_2⟩
    obtain rfl : M = y3_1 := my3_11
    obtain rfl : N = y3_1r := my3_12
    obtain rfl : y3_2 = y3_2r := ey3_2
    refine rl_bnd (b_pieceAt t i0 ix2 iy3_2 tn_16 (by omega) (by omega) (by omega) (by omega) (by omega) (by omega) (by omega) (by omega) hw hI) ?_
    rintro ⟨y4_1, y4_2⟩ ⟨y4_1r, y4_2r⟩ ⟨my4_11, my4_12, ey4_2, ly4_2⟩
    obtain rfl : M = y4_1 := my4_11
    obtain rfl : N = y4_1r := my4_12
    obtain rfl : y4_2 = y4_2r := ey4_2
    dsimp only at ly4_2
    have iy4_2 : TI y4_2 y4_2.toInt := rfl
    refine rl_bnd (b_modeAt t iy4_2 (by omega) (by omega) (by omega) hI hK hM) ?_
    rintro ⟨y5_1, y5_2⟩ ⟨y5_1r, y5_2r⟩ ⟨my5_11, my5_12, ey5_2⟩
    obtain rfl : M = y5_1 := my5_11
    obtain rfl : N = y5_1r := my5_12
    obtain rfl : y5_2 = y5_2r := ey5_2
    refine rl_bnd (b_pieceX t i1 (by omega) (by omega)) ?_
    rintro ⟨y6_1, y6_2⟩ ⟨y6_1r, y6_2r⟩ ⟨my6_11, my6_12, ey6_2, iy6_2⟩
    obtain rfl : M = y6_1 := my6_11
    obtain rfl : N = y6_1r := my6_12
    obtain rfl : y6_2 = y6_2r := ey6_2
    refine rl_bnd (b_pieceY t i1 (by omega) (by omega)) ?_
    rintro ⟨y7_1, y7_2⟩ ⟨y7_1r, y7_2r⟩ ⟨my7_11, my7_12, ey7_2, iy7_2⟩
    obtain rfl : M = y7_1 := my7_11
    obtain rfl : N = y7_1r := my7_12
    obtain rfl : y7_2 = y7_2r := ey7_2
    refine rl_ltI (av_sub iy7_2 tn_1 (by omega) (by omega)) (fun x8 ix8 => ?_)
    refine rl_bnd (b_pieceAt t i0 iy6_2 ix8 tn_16 (by omega) (by omega) (by omega) (by omega) (by omega) (by omega) (by omega) (by omega) hw hI) ?_
    rintro ⟨y9_1, y9_2⟩ ⟨y9_1r, y9_2r⟩ ⟨my9_11, my9_12, ey9_2, ly9_2⟩
    obtain rfl : M = y9_1 := my9_11
    obtain rfl : N = y9_1r := my9_12
    obtain rfl : y9_2 = y9_2r := ey9_2
    dsimp only at ly9_2
    have iy9_2 : TI y9_2 y9_2.toInt := rfl
    refine rl_bnd (b_modeAt t iy9_2 (by omega) (by omega) (by omega) hI hK hM) ?_
    rintro ⟨y10_1, y10_2⟩ ⟨y10_1r, y10_2r⟩ ⟨my10_11, my10_12, ey10_2⟩
    obtain rfl : M = y10_1 := my10_11
    obtain rfl : N = y10_1r := my10_12
    obtain rfl : y10_2 = y10_2r := ey10_2
    refine rl_bnd (Q := fun (y z : Int32) => y = z) ?_ ?_
    · refine rl_if (fun c1 => ?_) (fun c1 => ?_)
      · have dc1 := tl_lt (rfl : TI y5_2 y5_2.toInt) tn_0 c1
        exact rl_some rfl
      · have dc1 := tl_nlt (rfl : TI y5_2 y5_2.toInt) tn_0 c1
        refine rl_bnd (Q := fun (y z : Int32) => y = z) ?_ ?_
        · refine rl_if (fun c2 => ?_) (fun c2 => ?_)
          · have dc2 := tl_le tn_0 (rfl : TI y10_2 y10_2.toInt) c2
            refine rl_bnd (Q := fun (y z : Int32) => y = z) ?_ ?_
            · refine rl_if (fun c3 => ?_) (fun c3 => ?_)
              · have dc3 := tl_le (rfl : TI y10_2 y10_2.toInt) (rfl : TI y5_2 y5_2.toInt) c3
                exact rl_some rfl
              · have dc3 := tl_nle (rfl : TI y10_2 y10_2.toInt) (rfl : TI y5_2 y5_2.toInt) c3
                exact rl_some rfl
            · rintro y15 y15r ey15
              obtain rfl : y15 = y15r := ey15
              exact rl_some rfl
          · have dc2 := tl_nle tn_0 (rfl : TI y10_2 y10_2.toInt) c2
            exact rl_some rfl
        · rintro y13 y13r ey13
          obtain rfl : y13 = y13r := ey13
          exact rl_some rfl
    · rintro y11 y11r ey11
      obtain rfl : y11 = y11r := ey11
      exact rl_some ⟨rfl, rfl, rfl⟩
  · refine rl_bnd (b_pieceX t i1 (by omega) (by omega)) ?_
    rintro ⟨y1_1, y1_2⟩ ⟨y1_1r, y1_2r⟩ ⟨my1_11, my1_12, ey1_2, iy1_2⟩
    obtain rfl : M = y1_1 := my1_11
    obtain rfl : N = y1_1r := my1_12
    obtain rfl : y1_2 = y1_2r := ey1_2
    refine rl_ltI (av_sub iy1_2 tn_1 (by omega) (by omega)) (fun x2 ix2 => ?_)
    refine rl_bnd (b_pieceY t i1 (by omega) (by omega)) ?_
    rintro ⟨y3_1, y3_2⟩ ⟨y3_1r, y3_2r⟩ ⟨my3_11, my3_12, ey3_2, iy3_2⟩
    obtain rfl : M = y3_1 := my3_11
    obtain rfl : N = y3_1r := my3_12
    obtain rfl : y3_2 = y3_2r := ey3_2
    refine rl_bnd (b_pieceAt t i0 ix2 iy3_2 tn_16 (by omega) (by omega) (by omega) (by omega) (by omega) (by omega) (by omega) (by omega) hw hI) ?_
    rintro ⟨y4_1, y4_2⟩ ⟨y4_1r, y4_2r⟩ ⟨my4_11, my4_12, ey4_2, ly4_2⟩
    obtain rfl : M = y4_1 := my4_11
    obtain rfl : N = y4_1r := my4_12
    obtain rfl : y4_2 = y4_2r := ey4_2
    dsimp only at ly4_2
    have iy4_2 : TI y4_2 y4_2.toInt := rfl
    refine rl_bnd (b_modeAt t iy4_2 (by omega) (by omega) (by omega) hI hK hM) ?_
    rintro ⟨y5_1, y5_2⟩ ⟨y5_1r, y5_2r⟩ ⟨my5_11, my5_12, ey5_2⟩
    obtain rfl : M = y5_1 := my5_11
    obtain rfl : N = y5_1r := my5_12
    obtain rfl : y5_2 = y5_2r := ey5_2
    refine rl_bnd (b_pieceX t i1 (by omega) (by omega)) ?_
    rintro ⟨y6_1, y6_2⟩ ⟨y6_1r, y6_2r⟩ ⟨my6_11, my6_12, ey6_2, iy6_2⟩
    obtain rfl : M = y6_1 := my6_11
    obtain rfl : N = y6_1r := my6_12
    obtain rfl : y6_2 = y6_2r := ey6_2
    refine rl_bnd (b_pieceY t i1 (by omega) (by omega)) ?_
    rintro ⟨y7_1, y7_2⟩ ⟨y7_1r, y7_2r⟩ ⟨my7_11, my7_12, ey7_2, iy7_2⟩
    obtain rfl : M = y7_1 := my7_11
    obtain rfl : N = y7_1r := my7_12
    obtain rfl : y7_2 = y7_2r := ey7_2
    refine rl_ltI (av_sub iy7_2 tn_1 (by omega) (by omega)) (fun x8 ix8 => ?_)
    refine rl_bnd (b_pieceAt t i0 iy6_2 ix8 tn_16 (by omega) (by omega) (by omega) (by omega) (by omega) (by omega) (by omega) (by omega) hw hI) ?_
    rintro ⟨y9_1, y9_2⟩ ⟨y9_1r, y9_2r⟩ ⟨my9_11, my9_12, ey9_2, ly9_2⟩
    obtain rfl : M = y9_1 := my9_11
    obtain rfl : N = y9_1r := my9_12
    obtain rfl : y9_2 = y9_2r := ey9_2
    dsimp only at ly9_2
    have iy9_2 : TI y9_2 y9_2.toInt := rfl
    refine rl_bnd (b_modeAt t iy9_2 (by omega) (by omega) (by omega) hI hK hM) ?_
    rintro ⟨y10_1, y10_2⟩ ⟨y10_1r, y10_2r⟩ ⟨my10_11, my10_12, ey10_2⟩
    obtain rfl : M = y10_1 := my10_11
    obtain rfl : N = y10_1r := my10_12
    obtain rfl : y10_2 = y10_2r := ey10_2
    refine rl_bnd (Q := fun (y z : Int32) => y = z) ?_ ?_
    · refine rl_if (fun c1 => ?_) (fun c1 => ?_)
      · have dc1 := tl_lt (rfl : TI y5_2 y5_2.toInt) tn_0 c1
        exact rl_some rfl
      · have dc1 := tl_nlt (rfl : TI y5_2 y5_2.toInt) tn_0 c1
        refine rl_bnd (Q := fun (y z : Int32) => y = z) ?_ ?_
        · refine rl_if (fun c2 => ?_) (fun c2 => ?_)
          · have dc2 := tl_le tn_0 (rfl : TI y10_2 y10_2.toInt) c2
            refine rl_bnd (Q := fun (y z : Int32) => y = z) ?_ ?_
            · refine rl_if (fun c3 => ?_) (fun c3 => ?_)
              · have dc3 := tl_le (rfl : TI y10_2 y10_2.toInt) (rfl : TI y5_2 y5_2.toInt) c3
                exact rl_some rfl
              · have dc3 := tl_nle (rfl : TI y10_2 y10_2.toInt) (rfl : TI y5_2 y5_2.toInt) c3
                exact rl_some rfl
            · rintro y15 y15r ey15
              obtain rfl : y15 = y15r := ey15
              exact rl_some rfl
          · have dc2 := tl_nle tn_0 (rfl : TI y10_2 y10_2.toInt) c2
            exact rl_some rfl
        · rintro y13 y13r ey13
          obtain rfl : y13 = y13r := ey13
          exact rl_some rfl
    · rintro y11 y11r ey11
      obtain rfl : y11 = y11r := ey11
      exact rl_some ⟨rfl, rfl, rfl⟩
  · refine rl_bnd (b_pieceX t i1 (by omega) (by omega)) ?_
    rintro ⟨y1_1, y1_2⟩ ⟨y1_1r, y1_2r⟩ ⟨my1_11, my1_12, ey1_2, iy1_2⟩
    obtain rfl : M = y1_1 := my1_11
    obtain rfl : N = y1_1r := my1_12
    obtain rfl : y1_2 = y1_2r := ey1_2
    refine rl_ltI (av_sub iy1_2 tn_1 (by omega) (by omega)) (fun x2 ix2 => ?_)
    refine rl_bnd (b_pieceY t i1 (by omega) (by omega)) ?_
    rintro ⟨y3_1, y3_2⟩ ⟨y3_1r, y3_2r⟩ ⟨my3_11, my3_12, ey3_2, iy3_2⟩
    obtain rfl : M = y3_1 := my3_11
    obtain rfl : N = y3_1r := my3_12
    obtain rfl : y3_2 = y3_2r := ey3_2
    refine rl_bnd (b_pieceAt t i0 ix2 iy3_2 tn_16 (by omega) (by omega) (by omega) (by omega) (by omega) (by omega) (by omega) (by omega) hw hI) ?_
    rintro ⟨y4_1, y4_2⟩ ⟨y4_1r, y4_2r⟩ ⟨my4_11, my4_12, ey4_2, ly4_2⟩
    obtain rfl : M = y4_1 := my4_11
    obtain rfl : N = y4_1r := my4_12
    obtain rfl : y4_2 = y4_2r := ey4_2
    dsimp only at ly4_2
    have iy4_2 : TI y4_2 y4_2.toInt := rfl
    refine rl_bnd (b_modeAt t iy4_2 (by omega) (by omega) (by omega) hI hK hM) ?_
    rintro ⟨y5_1, y5_2⟩ ⟨y5_1r, y5_2r⟩ ⟨my5_11, my5_12, ey5_2⟩
    obtain rfl : M = y5_1 := my5_11
    obtain rfl : N = y5_1r := my5_12
    obtain rfl : y5_2 = y5_2r := ey5_2
    refine rl_bnd (b_pieceX t i1 (by omega) (by omega)) ?_
    rintro ⟨y6_1, y6_2⟩ ⟨y6_1r, y6_2r⟩ ⟨my6_11, my6_12, ey6_2, iy6_2⟩
    obtain rfl : M = y6_1 := my6_11
    obtain rfl : N = y6_1r := my6_12
    obtain rfl : y6_2 = y6_2r := ey6_2
    refine rl_bnd (b_pieceY t i1 (by omega) (by omega)) ?_
    rintro ⟨y7_1, y7_2⟩ ⟨y7_1r, y7_2r⟩ ⟨my7_11, my7_12, ey7_2, iy7_2⟩
    obtain rfl : M = y7_1 := my7_11
    obtain rfl : N = y7_1r := my7_12
    obtain rfl : y7_2 = y7_2r := ey7_2
    refine rl_ltI (av_sub iy7_2 tn_1 (by omega) (by omega)) (fun x8 ix8 => ?_)
    refine rl_bnd (b_pieceAt t i0 iy6_2 ix8 tn_16 (by omega) (by omega) (by omega) (by omega) (by omega) (by omega) (by omega) (by omega) hw hI) ?_
    rintro ⟨y9_1, y9_2⟩ ⟨y9_1r, y9_2r⟩ ⟨my9_11, my9_12, ey9_2, ly9_2⟩
    obtain rfl : M = y9_1 := my9_11
    obtain rfl : N = y9_1r := my9_12
    obtain rfl : y9_2 = y9_2r := ey9_2
    dsimp only at ly9_2
    have iy9_2 : TI y9_2 y9_2.toInt := rfl
    refine rl_bnd (b_modeAt t iy9_2 (by omega) (by omega) (by omega) hI hK hM) ?_
    rintro ⟨y10_1, y10_2⟩ ⟨y10_1r, y10_2r⟩ ⟨my10_11, my10_12, ey10_2⟩
    obtain rfl : M = y10_1 := my10_11
    obtain rfl : N = y10_1r := my10_12
    obtain rfl : y10_2 = y10_2r := ey10_2
    refine rl_bnd (Q := fun (y z : Int32) => y = z) ?_ ?_
    · refine rl_if (fun c1 => ?_) (fun c1 => ?_)
      · have dc1 := tl_lt (rfl : TI y5_2 y5_2.toInt) tn_0 c1
        exact rl_some rfl
      · have dc1 := tl_nlt (rfl : TI y5_2 y5_2.toInt) tn_0 c1
        refine rl_bnd (Q := fun (y z : Int32) => y = z) ?_ ?_
        · refine rl_if (fun c2 => ?_) (fun c2 => ?_)
          · have dc2 := tl_le tn_0 (rfl : TI y10_2 y10_2.toInt) c2
            refine rl_bnd (Q := fun (y z : Int32) => y = z) ?_ ?_
            · refine rl_if (fun c3 => ?_) (fun c3 => ?_)
              · have dc3 := tl_le (rfl : TI y10_2 y10_2.toInt) (rfl : TI y5_2 y5_2.toInt) c3
                exact rl_some rfl
              · have dc3 := tl_nle (rfl : TI y10_2 y10_2.toInt) (rfl : TI y5_2 y5_2.toInt) c3
                exact rl_some rfl
            · rintro y15 y15r ey15
              obtain rfl : y15 = y15r := ey15
              exact rl_some rfl
          · have dc2 := tl_nle tn_0 (rfl : TI y10_2 y10_2.toInt) c2
            exact rl_some rfl
        · rintro y13 y13r ey13
          obtain rfl : y13 = y13r := ey13
          exact rl_some rfl
    · rintro y11 y11r ey11
      obtain rfl : y11 = y11r := ey11
      exact rl_some ⟨rfl, rfl, rfl⟩
  · refine rl_bnd (b_pieceX t i1 (by omega) (by omega)) ?_
    rintro ⟨y1_1, y1_2⟩ ⟨y1_1r, y1_2r⟩ ⟨my1_11, my1_12, ey1_2, iy1_2⟩
    obtain rfl : M = y1_1 := my1_11
    obtain rfl : N = y1_1r := my1_12
    obtain rfl : y1_2 = y1_2r := ey1_2
    refine rl_ltI (av_sub iy1_2 tn_1 (by omega) (by omega)) (fun x2 ix2 => ?_)
    refine rl_bnd (b_pieceY t i1 (by omega) (by omega)) ?_
    rintro ⟨y3_1, y3_2⟩ ⟨y3_1r, y3_2r⟩ ⟨my3_11, my3_12, ey3_2, iy3_2⟩
    obtain rfl : M = y3_1 := my3_11
    obtain rfl : N = y3_1r := my3_12
    obtain rfl : y3_2 = y3_2r := ey3_2
    refine rl_bnd (b_pieceAt t i0 ix2 iy3_2 tn_16 (by omega) (by omega) (by omega) (by omega) (by omega) (by omega) (by omega) (by omega) hw hI) ?_
    rintro ⟨y4_1, y4_2⟩ ⟨y4_1r, y4_2r⟩ ⟨my4_11, my4_12, ey4_2, ly4_2⟩
    obtain rfl : M = y4_1 := my4_11
    obtain rfl : N = y4_1r := my4_12
    obtain rfl : y4_2 = y4_2r := ey4_2
    dsimp only at ly4_2
    have iy4_2 : TI y4_2 y4_2.toInt := rfl
    refine rl_bnd (b_modeAt t iy4_2 (by omega) (by omega) (by omega) hI hK hM) ?_
    rintro ⟨y5_1, y5_2⟩ ⟨y5_1r, y5_2r⟩ ⟨my5_11, my5_12, ey5_2⟩
    obtain rfl : M = y5_1 := my5_11
    obtain rfl : N = y5_1r := my5_12
    obtain rfl : y5_2 = y5_2r := ey5_2
    refine rl_bnd (b_pieceX t i1 (by omega) (by omega)) ?_
    rintro ⟨y6_1, y6_2⟩ ⟨y6_1r, y6_2r⟩ ⟨my6_11, my6_12, ey6_2, iy6_2⟩
    obtain rfl : M = y6_1 := my6_11
    obtain rfl : N = y6_1r := my6_12
    obtain rfl : y6_2 = y6_2r := ey6_2
    refine rl_bnd (b_pieceY t i1 (by omega) (by omega)) ?_
    rintro ⟨y7_1, y7_2⟩ ⟨y7_1r, y7_2r⟩ ⟨my7_11, my7_12, ey7_2, iy7_2⟩
    obtain rfl : M = y7_1 := my7_11
    obtain rfl : N = y7_1r := my7_12
    obtain rfl : y7_2 = y7_2r := ey7_2
    refine rl_ltI (av_sub iy7_2 tn_1 (by omega) (by omega)) (fun x8 ix8 => ?_)
    refine rl_bnd (b_pieceAt t i0 iy6_2 ix8 tn_16 (by omega) (by omega) (by omega) (by omega) (by omega) (by omega) (by omega) (by omega) hw hI) ?_
    rintro ⟨y9_1, y9_2⟩ ⟨y9_1r, y9_2r⟩ ⟨my9_11, my9_12, ey9_2, ly9_2⟩
    obtain rfl : M = y9_1 := my9_11
    obtain rfl : N = y9_1r := my9_12
    obtain rfl : y9_2 = y9_2r := ey9_2
    dsimp only at ly9_2
    have iy9_2 : TI y9_2 y9_2.toInt := rfl
    refine rl_bnd (b_modeAt t iy9_2 (by omega) (by omega) (by omega) hI hK hM) ?_
    rintro ⟨y10_1, y10_2⟩ ⟨y10_1r, y10_2r⟩ ⟨my10_11, my10_12, ey10_2⟩
    obtain rfl : M = y10_1 := my10_11
    obtain rfl : N = y10_1r := my10_12
    obtain rfl : y10_2 = y10_2r := ey10_2
    refine rl_bnd (Q := fun (y z : Int32) => y = z) ?_ ?_
    · refine rl_if (fun c1 => ?_) (fun c1 => ?_)
      · have dc1 := tl_lt (rfl : TI y5_2 y5_2.toInt) tn_0 c1
        exact rl_some rfl
      · have dc1 := tl_nlt (rfl : TI y5_2 y5_2.toInt) tn_0 c1
        refine rl_bnd (Q := fun (y z : Int32) => y = z) ?_ ?_
        · refine rl_if (fun c2 => ?_) (fun c2 => ?_)
          · have dc2 := tl_le tn_0 (rfl : TI y10_2 y10_2.toInt) c2
            refine rl_bnd (Q := fun (y z : Int32) => y = z) ?_ ?_
            · refine rl_if (fun c3 => ?_) (fun c3 => ?_)
              · have dc3 := tl_le (rfl : TI y10_2 y10_2.toInt) (rfl : TI y5_2 y5_2.toInt) c3
                exact rl_some rfl
              · have dc3 := tl_nle (rfl : TI y10_2 y10_2.toInt) (rfl : TI y5_2 y5_2.toInt) c3
                exact rl_some rfl
            · rintro y15 y15r ey15
              obtain rfl : y15 = y15r := ey15
              exact rl_some rfl
          · have dc2 := tl_nle tn_0 (rfl : TI y10_2 y10_2.toInt) c2
            exact rl_some rfl
        · rintro y13 y13r ey13
          obtain rfl : y13 = y13r := ey13
          exact rl_some rfl
    · rintro y11 y11r ey11
      obtain rfl : y11 = y11r := ey11
      exact rl_some ⟨rfl, rfl, rfl⟩
  · refine rl_bnd (b_pieceX t i1 (by omega) (by omega)) ?_
    rintro ⟨y1_1, y1_2⟩ ⟨y1_1r, y1_2r⟩ ⟨my1_11, my1_12, ey1_2, iy1_2⟩
    obtain rfl : M = y1_1 := my1_11
    obtain rfl : N = y1_1r := my1_12
    obtain rfl : y1_2 = y1_2r := ey1_2
    refine rl_ltI (av_sub iy1_2 tn_1 (by omega) (by omega)) (fun x2 ix2 => ?_)
    refine rl_bnd (b_pieceY t i1 (by omega) (by omega)) ?_
    rintro ⟨y3_1, y3_2⟩ ⟨y3_1r, y3_2r⟩ ⟨my3_11, my3_12, ey3_2, iy3_2⟩
    obtain rfl : M = y3_1 := my3_11
    obtain rfl : N = y3_1r := my3_12
    obtain rfl : y3_2 = y3_2r := ey3_2
    refine rl_bnd (b_pieceAt t i0 ix2 iy3_2 tn_16 (by omega) (by omega) (by omega) (by omega) (by omega) (by omega) (by omega) (by omega) hw hI) ?_
    rintro ⟨y4_1, y4_2⟩ ⟨y4_1r, y4_2r⟩ ⟨my4_11, my4_12, ey4_2, ly4_2⟩
    obtain rfl : M = y4_1 := my4_11
    obtain rfl : N = y4_1r := my4_12
    obtain rfl : y4_2 = y4_2r := ey4_2
    dsimp only at ly4_2
    have iy4_2 : TI y4_2 y4_2.toInt := rfl
    refine rl_bnd (b_modeAt t iy4_2 (by omega) (by omega) (by omega) hI hK hM) ?_
    rintro ⟨y5_1, y5_2⟩ ⟨y5_1r, y5_2r⟩ ⟨my5_11, my5_12, ey5_2⟩
    obtain rfl : M = y5_1 := my5_11
    obtain rfl : N = y5_1r := my5_12
    obtain rfl : y5_2 = y5_2r := ey5_2
    refine rl_bnd (b_pieceX t i1 (by omega) (by omega)) ?_
    rintro ⟨y6_1, y6_2⟩ ⟨y6_1r, y6_2r⟩ ⟨my6_11, my6_12, ey6_2, iy6_2⟩
    obtain rfl : M = y6_1 := my6_11
    obtain rfl : N = y6_1r := my6_12
    obtain rfl : y6_2 = y6_2r := ey6_2
    refine rl_bnd (b_pieceY t i1 (by omega) (by omega)) ?_
    rintro ⟨y7_1, y7_2⟩ ⟨y7_1r, y7_2r⟩ ⟨my7_11, my7_12, ey7_2, iy7_2⟩
    obtain rfl : M = y7_1 := my7_11
    obtain rfl : N = y7_1r := my7_12
    obtain rfl : y7_2 = y7_2r := ey7_2
    refine rl_ltI (av_sub iy7_2 tn_1 (by omega) (by omega)) (fun x8 ix8 => ?_)
    refine rl_bnd (b_pieceAt t i0 iy6_2 ix8 tn_16 (by omega) (by omega) (by omega) (by omega) (by omega) (by omega) (by omega) (by omega) hw hI) ?_
    rintro ⟨y9_1, y9_2⟩ ⟨y9_1r, y9_2r⟩ ⟨my9_11, my9_12, ey9_2, ly9_2⟩
    obtain rfl : M = y9_1 := my9_11
    obtain rfl : N = y9_1r := my9_12
    obtain rfl : y9_2 = y9_2r := ey9_2
    dsimp only at ly9_2
    have iy9_2 : TI y9_2 y9_2.toInt := rfl
    refine rl_bnd (b_modeAt t iy9_2 (by omega) (by omega) (by omega) hI hK hM) ?_
    rintro ⟨y10_1, y10_2⟩ ⟨y10_1r, y10_2r⟩ ⟨my10_11, my10_12, ey10_2⟩
    obtain rfl : M = y10_1 := my10_11
    obtain rfl : N = y10_1r := my10_12
    obtain rfl : y10_2 = y10_2r := ey10_2
    refine rl_bnd (Q := fun (y z : Int32) => y = z) ?_ ?_
    · refine rl_if (fun c1 => ?_) (fun c1 => ?_)
      · have dc1 := tl_lt (rfl : TI y5_2 y5_2.toInt) tn_0 c1
        exact rl_some rfl
      · have dc1 := tl_nlt (rfl : TI y5_2 y5_2.toInt) tn_0 c1
        refine rl_bnd (Q := fun (y z : Int32) => y = z) ?_ ?_
        · refine rl_if (fun c2 => ?_) (fun c2 => ?_)
          · have dc2 := tl_le tn_0 (rfl : TI y10_2 y10_2.toInt) c2
            refine rl_bnd (Q := fun (y z : Int32) => y = z) ?_ ?_
            · refine rl_if (fun c3 => ?_) (fun c3 => ?_)
              · have dc3 := tl_le (rfl : TI y10_2 y10_2.toInt) (rfl : TI y5_2 y5_2.toInt) c3
                exact rl_some rfl
              · have dc3 := tl_nle (rfl : TI y10_2 y10_2.toInt) (rfl : TI y5_2 y5_2.toInt) c3
                exact rl_some rfl
            · rintro y15 y15r ey15
              obtain rfl : y15 = y15r := ey15
              exact rl_some rfl
          · have dc2 := tl_nle tn_0 (rfl : TI y10_2 y10_2.toInt) c2
            exact rl_some rfl
        · rintro y13 y13r ey13
          obtain rfl : y13 = y13r := ey13
          exact rl_some rfl
    · rintro y11 y11r ey11
      obtain rfl : y11 = y11r := ey11
      exact rl_some ⟨rfl, rfl, rfl⟩
  · refine rl_bnd (b_pieceX t i1 (by omega) (by omega)) ?_
    rintro ⟨y1_1, y1_2⟩ ⟨y1_1r, y1_2r⟩ ⟨my1_11, my1_12, ey1_2, iy1_2⟩
    obtain rfl : M = y1_1 := my1_11
    obtain rfl : N = y1_1r := my1_12
    obtain rfl : y1_2 = y1_2r := ey1_2
    refine rl_ltI (av_sub iy1_2 tn_1 (by omega) (by omega)) (fun x2 ix2 => ?_)
    refine rl_bnd (b_pieceY t i1 (by omega) (by omega)) ?_
    rintro ⟨y3_1, y3_2⟩ ⟨y3_1r, y3_2r⟩ ⟨my3_11, my3_12, ey3_2, iy3_2⟩
    obtain rfl : M = y3_1 := my3_11
    obtain rfl : N = y3_1r := my3_12
    obtain rfl : y3_2 = y3_2r := ey3_2
    refine rl_bnd (b_pieceAt t i0 ix2 iy3_2 tn_16 (by omega) (by omega) (by omega) (by omega) (by omega) (by omega) (by omega) (by omega) hw hI) ?_
    rintro ⟨y4_1, y4_2⟩ ⟨y4_1r, y4_2r⟩ ⟨my4_11, my4_12, ey4_2, ly4_2⟩
    obtain rfl : M = y4_1 := my4_11
    obtain rfl : N = y4_1r := my4_12
    obtain rfl : y4_2 = y4_2r := ey4_2
    dsimp only at ly4_2
    have iy4_2 : TI y4_2 y4_2.toInt := rfl
    refine rl_bnd (b_modeAt t iy4_2 (by omega) (by omega) (by omega) hI hK hM) ?_
    rintro ⟨y5_1, y5_2⟩ ⟨y5_1r, y5_2r⟩ ⟨my5_11, my5_12, ey5_2⟩
    obtain rfl : M = y5_1 := my5_11
    obtain rfl : N = y5_1r := my5_12
    obtain rfl : y5_2 = y5_2r := ey5_2
    refine rl_bnd (b_pieceX t i1 (by omega) (by omega)) ?_
    rintro ⟨y6_1, y6_2⟩ ⟨y6_1r, y6_2r⟩ ⟨my6_11, my6_12, ey6_2, iy6_2⟩
    obtain rfl : M = y6_1 := my6_11
    obtain rfl : N = y6_1r := my6_12
    obtain rfl : y6_2 = y6_2r := ey6_2
    refine rl_bnd (b_pieceY t i1 (by omega) (by omega)) ?_
    rintro ⟨y7_1, y7_2⟩ ⟨y7_1r, y7_2r⟩ ⟨my7_11, my7_12, ey7_2, iy7_2⟩
    obtain rfl : M = y7_1 := my7_11
    obtain rfl : N = y7_1r := my7_12
    obtain rfl : y7_2 = y7_2r := ey7_2
    refine rl_ltI (av_sub iy7_2 tn_1 (by omega) (by omega)) (fun x8 ix8 => ?_)
    refine rl_bnd (b_pieceAt t i0 iy6_2 ix8 tn_16 (by omega) (by omega) (by omega) (by omega) (by omega) (by omega) (by omega) (by omega) hw hI) ?_
    rintro ⟨y9_1, y9_2⟩ ⟨y9_1r, y9_2r⟩ ⟨my9_11, my9_12, ey9_2, ly9_2⟩
    obtain rfl : M = y9_1 := my9_11
    obtain rfl : N = y9_1r := my9_12
    obtain rfl : y9_2 = y9_2r := ey9_2
    dsimp only at ly9_2
    have iy9_2 : TI y9_2 y9_2.toInt := rfl
    refine rl_bnd (b_modeAt t iy9_2 (by omega) (by omega) (by omega) hI hK hM) ?_
    rintro ⟨y10_1, y10_2⟩ ⟨y10_1r, y10_2r⟩ ⟨my10_11, my10_12, ey10_2⟩
    obtain rfl : M = y10_1 := my10_11
    obtain rfl : N = y10_1r := my10_12
    obtain rfl : y10_2 = y10_2r := ey10_2
    refine rl_bnd (Q := fun (y z : Int32) => y = z) ?_ ?_
    · refine rl_if (fun c1 => ?_) (fun c1 => ?_)
      · have dc1 := tl_lt (rfl : TI y5_2 y5_2.toInt) tn_0 c1
        exact rl_some rfl
      · have dc1 := tl_nlt (rfl : TI y5_2 y5_2.toInt) tn_0 c1
        refine rl_bnd (Q := fun (y z : Int32) => y = z) ?_ ?_
        · refine rl_if (fun c2 => ?_) (fun c2 => ?_)
          · have dc2 := tl_le tn_0 (rfl : TI y10_2 y10_2.toInt) c2
            refine rl_bnd (Q := fun (y z : Int32) => y = z) ?_ ?_
            · refine rl_if (fun c3 => ?_) (fun c3 => ?_)
              · have dc3 := tl_le (rfl : TI y10_2 y10_2.toInt) (rfl : TI y5_2 y5_2.toInt) c3
                exact rl_some rfl
              · have dc3 := tl_nle (rfl : TI y10_2 y10_2.toInt) (rfl : TI y5_2 y5_2.toInt) c3
                exact rl_some rfl
            · rintro y15 y15r ey15
              obtain rfl : y15 = y15r := ey15
              exact rl_some rfl
          · have dc2 := tl_nle tn_0 (rfl : TI y10_2 y10_2.toInt) c2
            exact rl_some rfl
        · rintro y13 y13r ey13
          obtain rfl : y13 = y13r := ey13
          exact rl_some rfl
    · rintro y11 y11r ey11
      obtain rfl : y11 = y11r := ey11
      exact rl_some ⟨rfl, rfl, rfl⟩
  · refine rl_bnd (b_pieceX t i1 (by omega) (by omega)) ?_
    rintro ⟨y1_1, y1_2⟩ ⟨y1_1r, y1_2r⟩ ⟨my1_11, my1_12, ey1_2, iy1_2⟩
    obtain rfl : M = y1_1 := my1_11
    obtain rfl : N = y1_1r := my1_12
    obtain rfl : y1_2 = y1_2r := ey1_2
    refine rl_ltI (av_sub iy1_2 tn_1 (by omega) (by omega)) (fun x2 ix2 => ?_)
    refine rl_bnd (b_pieceY t i1 (by omega) (by omega)) ?_
    rintro ⟨y3_1, y3_2⟩ ⟨y3_1r, y3_2r⟩ ⟨my3_11, my3_12, ey3_2, iy3_2⟩
    obtain rfl : M = y3_1 := my3_11
    obtain rfl : N = y3_1r := my3_12
    obtain rfl : y3_2 = y3_2r := ey3_2
    refine rl_bnd (b_pieceAt t i0 ix2 iy3_2 tn_16 (by omega) (by omega) (by omega) (by omega) (by omega) (by omega) (by omega) (by omega) hw hI) ?_
    rintro ⟨y4_1, y4_2⟩ ⟨y4_1r, y4_2r⟩ ⟨my4_11, my4_12, ey4_2, ly4_2⟩
    obtain rfl : M = y4_1 := my4_11
    obtain rfl : N = y4_1r := my4_12
    obtain rfl : y4_2 = y4_2r := ey4_2
    dsimp only at ly4_2
    have iy4_2 : TI y4_2 y4_2.toInt := rfl
    refine rl_bnd (b_modeAt t iy4_2 (by omega) (by omega) (by omega) hI hK hM) ?_
    rintro ⟨y5_1, y5_2⟩ ⟨y5_1r, y5_2r⟩ ⟨my5_11, my5_12, ey5_2⟩
    obtain rfl : M = y5_1 := my5_11
    obtain rfl : N = y5_1r := my5_12
    obtain rfl : y5_2 = y5_2r := ey5_2
    refine rl_bnd (b_pieceX t i1 (by omega) (by omega)) ?_
    rintro ⟨y6_1, y6_2⟩ ⟨y6_1r, y6_2r⟩ ⟨my6_11, my6_12, ey6_2, iy6_2⟩
    obtain rfl : M = y6_1 := my6_11
    obtain rfl : N = y6_1r := my6_12
    obtain rfl : y6_2 = y6_2r := ey6_2
    refine rl_bnd (b_pieceY t i1 (by omega) (by omega)) ?_
    rintro ⟨y7_1, y7_2⟩ ⟨y7_1r, y7_2r⟩ ⟨my7_11, my7_12, ey7_2, iy7_2⟩
    obtain rfl : M = y7_1 := my7_11
    obtain rfl : N = y7_1r := my7_12
    obtain rfl : y7_2 = y7_2r := ey7_2
    refine rl_ltI (av_sub iy7_2 tn_1 (by omega) (by omega)) (fun x8 ix8 => ?_)
    refine rl_bnd (b_pieceAt t i0 iy6_2 ix8 tn_16 (by omega) (by omega) (by omega) (by omega) (by omega) (by omega) (by omega) (by omega) hw hI) ?_
    rintro ⟨y9_1, y9_2⟩ ⟨y9_1r, y9_2r⟩ ⟨my9_11, my9_12, ey9_2, ly9_2⟩
    obtain rfl : M = y9_1 := my9_11
    obtain rfl : N = y9_1r := my9_12
    obtain rfl : y9_2 = y9_2r := ey9_2
    dsimp only at ly9_2
    have iy9_2 : TI y9_2 y9_2.toInt := rfl
    refine rl_bnd (b_modeAt t iy9_2 (by omega) (by omega) (by omega) hI hK hM) ?_
    rintro ⟨y10_1, y10_2⟩ ⟨y10_1r, y10_2r⟩ ⟨my10_11, my10_12, ey10_2⟩
    obtain rfl : M = y10_1 := my10_11
    obtain rfl : N = y10_1r := my10_12
    obtain rfl : y10_2 = y10_2r := ey10_2
    refine rl_bnd (Q := fun (y z : Int32) => y = z) ?_ ?_
    · refine rl_if (fun c1 => ?_) (fun c1 => ?_)
      · have dc1 := tl_lt (rfl : TI y5_2 y5_2.toInt) tn_0 c1
        exact rl_some rfl
      · have dc1 := tl_nlt (rfl : TI y5_2 y5_2.toInt) tn_0 c1
        refine rl_bnd (Q := fun (y z : Int32) => y = z) ?_ ?_
        · refine rl_if (fun c2 => ?_) (fun c2 => ?_)
          · have dc2 := tl_le tn_0 (rfl : TI y10_2 y10_2.toInt) c2
            refine rl_bnd (Q := fun (y z : Int32) => y = z) ?_ ?_
            · refine rl_if (fun c3 => ?_) (fun c3 => ?_)
              · have dc3 := tl_le (rfl : TI y10_2 y10_2.toInt) (rfl : TI y5_2 y5_2.toInt) c3
                exact rl_some rfl
              · have dc3 := tl_nle (rfl : TI y10_2 y10_2.toInt) (rfl : TI y5_2 y5_2.toInt) c3
                exact rl_some rfl
            · rintro y15 y15r ey15
              obtain rfl : y15 = y15r := ey15
              exact rl_some rfl
          · have dc2 := tl_nle tn_0 (rfl : TI y10_2 y10_2.toInt) c2
            exact rl_some rfl
        · rintro y13 y13r ey13
          obtain rfl : y13 = y13r := ey13
          exact rl_some rfl
    · rintro y11 y11r ey11
      obtain rfl : y11 = y11r := ey11
      exact rl_some ⟨rfl, rfl, rfl⟩
  · refine rl_bnd (b_pieceX t i1 (by omega) (by omega)) ?_
    rintro ⟨y1_1, y1_2⟩ ⟨y1_1r, y1_2r⟩ ⟨my1_11, my1_12, ey1_2, iy1_2⟩
    obtain rfl : M = y1_1 := my1_11
    obtain rfl : N = y1_1r := my1_12
    obtain rfl : y1_2 = y1_2r := ey1_2
    refine rl_ltI (av_sub iy1_2 tn_1 (by omega) (by omega)) (fun x2 ix2 => ?_)
    refine rl_bnd (b_pieceY t i1 (by omega) (by omega)) ?_
    rintro ⟨y3_1, y3_2⟩ ⟨y3_1r, y3_2r⟩ ⟨my3_11, my3_12, ey3_2, iy3_2⟩
    obtain rfl : M = y3_1 := my3_11
    obtain rfl : N = y3_1r := my3_12
    obtain rfl : y3_2 = y3_2r := ey3_2
    refine rl_bnd (b_pieceAt t i0 ix2 iy3_2 tn_16 (by omega) (by omega) (by omega) (by omega) (by omega) (by omega) (by omega) (by omega) hw hI) ?_
    rintro ⟨y4_1, y4_2⟩ ⟨y4_1r, y4_2r⟩ ⟨my4_11, my4_12, ey4_2, ly4_2⟩
    obtain rfl : M = y4_1 := my4_11
    obtain rfl : N = y4_1r := my4_12
    obtain rfl : y4_2 = y4_2r := ey4_2
    dsimp only at ly4_2
    have iy4_2 : TI y4_2 y4_2.toInt := rfl
    refine rl_bnd (b_modeAt t iy4_2 (by omega) (by omega) (by omega) hI hK hM) ?_
    rintro ⟨y5_1, y5_2⟩ ⟨y5_1r, y5_2r⟩ ⟨my5_11, my5_12, ey5_2⟩
    obtain rfl : M = y5_1 := my5_11
    obtain rfl : N = y5_1r := my5_12
    obtain rfl : y5_2 = y5_2r := ey5_2
    refine rl_bnd (b_pieceX t i1 (by omega) (by omega)) ?_
    rintro ⟨y6_1, y6_2⟩ ⟨y6_1r, y6_2r⟩ ⟨my6_11, my6_12, ey6_2, iy6_2⟩
    obtain rfl : M = y6_1 := my6_11
    obtain rfl : N = y6_1r := my6_12
    obtain rfl : y6_2 = y6_2r := ey6_2
    refine rl_bnd (b_pieceY t i1 (by omega) (by omega)) ?_
    rintro ⟨y7_1, y7_2⟩ ⟨y7_1r, y7_2r⟩ ⟨my7_11, my7_12, ey7_2, iy7_2⟩
    obtain rfl : M = y7_1 := my7_11
    obtain rfl : N = y7_1r := my7_12
    obtain rfl : y7_2 = y7_2r := ey7_2
    refine rl_ltI (av_sub iy7_2 tn_1 (by omega) (by omega)) (fun x8 ix8 => ?_)
    refine rl_bnd (b_pieceAt t i0 iy6_2 ix8 tn_16 (by omega) (by omega) (by omega) (by omega) (by omega) (by omega) (by omega) (by omega) hw hI) ?_
    rintro ⟨y9_1, y9_2⟩ ⟨y9_1r, y9_2r⟩ ⟨my9_11, my9_12, ey9_2, ly9_2⟩
    obtain rfl : M = y9_1 := my9_11
    obtain rfl : N = y9_1r := my9_12
    obtain rfl : y9_2 = y9_2r := ey9_2
    dsimp only at ly9_2
    have iy9_2 : TI y9_2 y9_2.toInt := rfl
    refine rl_bnd (b_modeAt t iy9_2 (by omega) (by omega) (by omega) hI hK hM) ?_
    rintro ⟨y10_1, y10_2⟩ ⟨y10_1r, y10_2r⟩ ⟨my10_11, my10_12, ey10_2⟩
    obtain rfl : M = y10_1 := my10_11
    obtain rfl : N = y10_1r := my10_12
    obtain rfl : y10_2 = y10_2r := ey10_2
    refine rl_bnd (Q := fun (y z : Int32) => y = z) ?_ ?_
    · refine rl_if (fun c1 => ?_) (fun c1 => ?_)
      · have dc1 := tl_lt (rfl : TI y5_2 y5_2.toInt) tn_0 c1
        exact rl_some rfl
      · have dc1 := tl_nlt (rfl : TI y5_2 y5_2.toInt) tn_0 c1
        refine rl_bnd (Q := fun (y z : Int32) => y = z) ?_ ?_
        · refine rl_if (fun c2 => ?_) (fun c2 => ?_)
          · have dc2 := tl_le tn_0 (rfl : TI y10_2 y10_2.toInt) c2
            refine rl_bnd (Q := fun (y z : Int32) => y = z) ?_ ?_
            · refine rl_if (fun c3 => ?_) (fun c3 => ?_)
              · have dc3 := tl_le (rfl : TI y10_2 y10_2.toInt) (rfl : TI y5_2 y5_2.toInt) c3
                exact rl_some rfl
              · have dc3 := tl_nle (rfl : TI y10_2 y10_2.toInt) (rfl : TI y5_2 y5_2.toInt) c3
                exact rl_some rfl
            · rintro y15 y15r ey15
              obtain rfl : y15 = y15r := ey15
              exact rl_some rfl
          · have dc2 := tl_nle tn_0 (rfl : TI y10_2 y10_2.toInt) c2
            exact rl_some rfl
        · rintro y13 y13r ey13
          obtain rfl : y13 = y13r := ey13
          exact rl_some rfl
    · rintro y11 y11r ey11
      obtain rfl : y11 = y11r := ey11
      exact rl_some ⟨rfl, rfl, rfl⟩
theorem b_totalAt {mu : Nat → Nat} {G H : GG} {M N : DD} {p : Nat} {L : List Nat} {mb lim : Int} (t : BX mu G H M N p L) {p0 : Int32} {a0 : Int} (i0 : TI p0 a0) {p1 : Int32} {a1 : Int} (i1 : TI p1 a1) (h0 : -1 ≤ a0) (h1 : a0 ≤ 63) (h2 : -1 ≤ a1) (h3 : a1 ≤ 23) (h4 : 0 ≤ a0 → a0 / 16 ≠ mb ∨ ((0 ≤ a1 → a1 < lim) ∧ (a1 < 0 → a0 % 16 < lim))) (hT : FG mu M N 131 (CTo mb lim)) : LKS (FX9_totalAt G M 125 p0 p1) (FX9_totalAt H N (mu 125) p0 p1) (fun y z => M = y.1 ∧ N = z.1 ∧ y.2 = z.2) := by
  unfold FX9_totalAt
  refine rl_bnd (Q := fun (y z : Int32) => y = z) ?_ ?_
  · refine rl_if (fun c1 => ?_) (fun c1 => ?_)
    · have dc1 := tl_le tn_0 i0 c1
      refine rl_ltI (av_sar 4 i0 (by decide)) (fun x3 ix3 => ?_)
      refine rl_ltI (av_mul tn_24 ix3 (by omega) (by omega)) (fun x4 ix4 => ?_)
      refine rl_bnd (Q := fun (y z : Int32) => y = z ∧ (0 ≤ y.toInt ∧ y.toInt ≤ 23) ∧ ((0 ≤ a1 → y.toInt = a1) ∧ (a1 < 0 → y.toInt = a0 % 16))) ?_ ?_
      · refine rl_if (fun c2 => ?_) (fun c2 => ?_)
        · have dc2 := tl_le tn_0 i1 c2
          exact rl_some ⟨rfl, (ti_bd i1 (by omega) (by omega)), (by have q : _ = _ := i1; (try dsimp only) <;> omega)⟩
        · have dc2 := tl_nle tn_0 i1 c2
          refine rl_ltI (av_and 4 i0 (by decide) (by decide)) (fun x10 ix10 => ?_)
          exact rl_some ⟨rfl, (ti_bd ix10 (by omega) (by omega)), (by have q : _ = _ := ix10; (try dsimp only) <;> omega)⟩
      · rintro y5 y5r ⟨ey5, ly5, jy5⟩
        obtain rfl : y5 = y5r := ey5
        have ly5 : 0 ≤ y5.toInt ∧ y5.toInt ≤ 23 := ly5
        have iy5 : TI y5 y5.toInt := rfl
        have jy5 : (0 ≤ a1 → y5.toInt = a1) ∧ (a1 < 0 → y5.toInt = a0 % 16) := jy5
        refine rl_ltI (av_add ix4 iy5 (by omega) (by omega)) (fun x6 ix6 => ?_)
        refine rl_dr (by_U t) (bz_c (a := 125) (k := 8) (b := 131) t (Or.inl rfl) rfl (by decide)) (fun gb7 => ?_)
        refine rl_chk (chkl (by_U t) gb7) (fun k3 => ?_)
        refine rl_rd (fg_use hT ix6 (by omega) (fun k hk => by unfold CTo; omega)) (fun x8 => ?_)
        exact rl_some rfl
    · have dc1 := tl_nle tn_0 i0 c1
      exact rl_some rfl
  · rintro y1 y1r ey1
    obtain rfl : y1 = y1r := ey1
    exact rl_some ⟨rfl, rfl, rfl⟩
theorem b_referenceAt {mu : Nat → Nat} {G H : GG} {M N : DD} {p : Nat} {L : List Nat} {mb lim : Int} (t : BX mu G H M N p L) {p0 : Int32} {a0 : Int} (i0 : TI p0 a0) {p1 : Int32} {a1 : Int} (i1 : TI p1 a1) (h0 : 0 ≤ a0) (h1 : a0 ≤ 1) (h2 : -1 ≤ a1) (h3 : a1 ≤ 63) (h4 : 0 ≤ a1 → a1 / 16 ≠ mb ∨ a1 % 16 < lim) (hR : FG mu M N (p + 6) (CRo mb lim)) : LKS (FX9_referenceAt G M 125 p0 p1) (FX9_referenceAt H N (mu 125) p0 p1) (fun y z => M = y.1 ∧ N = z.1 ∧ y.2 = z.2) := by
  unfold FX9_referenceAt
  refine rl_bnd (Q := fun (y z : Int32) => y = z) ?_ ?_
  · refine rl_if (fun c1 => ?_) (fun c1 => ?_)
    · have dc1 := tl_le tn_0 i1 c1
      refine rl_dr (by_U t) (bz_p t) (fun gb3 => ?_)
      refine rl_ltI (av_mul tn_512 i0 (by omega) (by omega)) (fun x4 ix4 => ?_)
      refine rl_ltI (av_add ix4 i1 (by omega) (by omega)) (fun x5 ix5 => ?_)
      refine rl_dr (by_U t) (bz_5 t (by_p t)) (fun gb6 => ?_)
      refine rl_chk (chkl (by_U t) gb6) (fun k2 => ?_)
      refine rl_rd (fg_use hR ix5 (by omega) (fun k hk => by unfold CRo; omega)) (fun x7 => ?_)
      exact rl_some rfl
    · have dc1 := tl_nle tn_0 i1 c1
      exact rl_some rfl
  · rintro y1 y1r ey1
    obtain rfl : y1 = y1r := ey1
    exact rl_some ⟨rfl, rfl, rfl⟩
theorem b_isAtRest {mu : Nat → Nat} {G H : GG} {M N : DD} {p : Nat} {L : List Nat} {mb lim : Int} (t : BX mu G H M N p L) {p0 : Int32} {a0 : Int} (i0 : TI p0 a0) (h0 : 0 ≤ a0) (h1 : a0 ≤ 63) (h2 : 0 ≤ a0 → a0 / 16 ≠ mb ∨ a0 % 16 < lim) (hR : FG mu M N (p + 6) (CRo mb lim)) (hV : FG mu M N (p + 8) (CVo mb lim)) : LKS (FX9_isAtRest G M 125 p0) (FX9_isAtRest H N (mu 125) p0) (fun y z => M = y.1 ∧ N = z.1 ∧ y.2 = z.2) := by
  unfold FX9_isAtRest
  refine rl_dr (by_U t) (bz_p t) (fun gb1 => ?_)
  refine rl_dr (by_U t) (bz_5 t (by_p t)) (fun gb2 => ?_)
  refine rl_chk (chkl (by_U t) gb2) (fun k1 => ?_)
  refine rl_rd (fg_use hR i0 (by omega) (fun k hk => by unfold CRo; omega)) (fun x3 => ?_)
  refine rl_bnd (Q := fun (y z : Int32) => y = z ∧ (0 ≤ y.toInt ∧ y.toInt ≤ 1)) ?_ ?_
  · refine rl_if (fun c2 => ?_) (fun c2 => ?_)
    · have dc2 := tl_eq (rfl : TI x3 x3.toInt) tn_0 c2
      refine rl_ltI (av_mul tn_2 i0 (by omega) (by omega)) (fun x6 ix6 => ?_)
      refine rl_dr (by_U t) (bz_7 t (by_p t)) (fun gb7 => ?_)
      refine rl_chk (chkl (by_U t) gb7) (fun k3 => ?_)
      refine rl_rd (fg_use hV ix6 (by omega) (fun k hk => by unfold CVo; omega)) (fun x8 => ?_)
      refine rl_bnd (Q := fun (y z : Int32) => y = z ∧ (0 ≤ y.toInt ∧ y.toInt ≤ 1)) ?_ ?_
      · refine rl_if (fun c4 => ?_) (fun c4 => ?_)
        · have dc4 := tl_eq (rfl : TI x8 x8.toInt) tn_0 c4
          refine rl_ltI (av_mul tn_2 i0 (by omega) (by omega)) (fun x11 ix11 => ?_)
          refine rl_ltI (av_add ix11 tn_1 (by omega) (by omega)) (fun x12 ix12 => ?_)
          refine rl_chk (chkl (by_U t) gb7) (fun k5 => ?_)
          refine rl_rd (fg_use hV ix12 (by omega) (fun k hk => by unfold CVo; omega)) (fun x13 => ?_)
          refine rl_bnd (Q := fun (y z : Int32) => y = z ∧ (0 ≤ y.toInt ∧ y.toInt ≤ 1)) ?_ ?_
          · refine rl_if (fun c6 => ?_) (fun c6 => ?_)
            · have dc6 := tl_eq (rfl : TI x13 x13.toInt) tn_0 c6
              exact rl_some ⟨rfl, (ti_bd tn_1 (by omega) (by omega))⟩
            · exact rl_some ⟨rfl, (ti_bd tn_0 (by omega) (by omega))⟩
          · rintro y14 y14r ⟨ey14, ly14⟩
            obtain rfl : y14 = y14r := ey14
            have ly14 : 0 ≤ y14.toInt ∧ y14.toInt ≤ 1 := ly14
            have iy14 : TI y14 y14.toInt := rfl
            exact rl_some ⟨rfl, (ti_bd iy14 (by omega) (by omega))⟩
        · exact rl_some ⟨rfl, (ti_bd tn_0 (by omega) (by omega))⟩
      · rintro y9 y9r ⟨ey9, ly9⟩
        obtain rfl : y9 = y9r := ey9
        have ly9 : 0 ≤ y9.toInt ∧ y9.toInt ≤ 1 := ly9
        have iy9 : TI y9 y9.toInt := rfl
        exact rl_some ⟨rfl, (ti_bd iy9 (by omega) (by omega))⟩
    · exact rl_some ⟨rfl, (ti_bd tn_0 (by omega) (by omega))⟩
  · rintro y4 y4r ⟨ey4, ly4⟩
    obtain rfl : y4 = y4r := ey4
    have ly4 : 0 ≤ y4.toInt ∧ y4.toInt ≤ 1 := ly4
    have iy4 : TI y4 y4.toInt := rfl
    refine rl_chk (fun h => h) (fun k7 => ?_)
    exact rl_some ⟨rfl, rfl, rfl⟩
theorem b_adopt {mu : Nat → Nat} {G H : GG} {M N : DD} {p : Nat} {L : List Nat} {mb lim : Int} (t : BX mu G H M N p L) {p0 : Int32} {a0 : Int} (i0 : TI p0 a0) {p1 : Int32} {a1 : Int} (i1 : TI p1 a1) (h0 : 0 ≤ a0) (h1 : a0 ≤ 1) (h2 : -1 ≤ a1) (h3 : a1 ≤ 63) (h4 : mb ≤ 3) (h5 : 0 ≤ a1 → a1 / 16 ≠ mb ∨ a1 % 16 < lim) (hV : FG mu M N (p + 8) (CVo mb lim)) : LKS (FX9_adopt G M 125 p0 p1) (FX9_adopt H N (mu 125) p0 p1) (fun y z => Up mu p M N y z ∧ Ag mu y z 125 18 ∧ Ag mu y z 125 19) := by
  unfold FX9_adopt
  refine rl_ltI (av_mul tn_512 i0 (by omega) (by omega)) (fun x1 ix1 => ?_)
  refine rl_ltI (av_add ix1 i1 (by omega) (by omega)) (fun x2 ix2 => ?_)
  refine rl_ltI (av_mul tn_2 ix2 (by omega) (by omega)) (fun x3 ix3 => ?_)
  refine rl_dr (by_U t) (bz_p t) (fun gb4 => ?_)
  refine rl_dr (by_U t) (bz_7 t (by_p t)) (fun gb5 => ?_)
  refine rl_chk (chkl (by_U t) gb5) (fun k1 => ?_)
  refine rl_rd (fg_usk hV ix3 k1 (fun k hk => by unfold CVo; omega)) (fun x6 => ?_)
  refine rl_w (κ := p) (by_U t) (by have := by_q0 t (by_p t); omega) (fun M7 M7r uM7 AM7 nM7 => ?_)
  have tM7 := by_up t uM7
  have wV_M7 := fg_up uM7 hV
  refine rl_dr (by_U tM7) (bz_p tM7) (fun gb8 => ?_)
  refine rl_ltI (av_add ix3 tn_1 (by omega) (by omega)) (fun x9 ix9 => ?_)
  refine rl_dr (by_U tM7) (bz_7 tM7 (by_p t)) (fun gb10 => ?_)
  refine rl_chk (chkl (by_U tM7) gb10) (fun k2 => ?_)
  refine rl_rd (fg_usk wV_M7 ix9 k2 (fun k hk => by unfold CVo; omega)) (fun x11 => ?_)
  refine rl_w (κ := p) (by_U tM7) (by have := by_q0 tM7 (by_p tM7); omega) (fun M12 M12r uM12 AM12 nM12 => ?_)
  have tM12 := by_up tM7 uM12
  have wV_M12 := fg_up uM12 wV_M7
  have wP125_18_M12 := ag_up uM12 AM7
  exact rl_some ⟨(up_tr uM7 uM12), wP125_18_M12, AM12⟩
theorem b_adoptMedian {mu : Nat → Nat} {G H : GG} {M N : DD} {p : Nat} {L : List Nat} {mb lim : Int} (t : BX mu G H M N p L) {p0 : Int32} {a0 : Int} (i0 : TI p0 a0) {p1 : Int32} {a1 : Int} (i1 : TI p1 a1) {p2 : Int32} {a2 : Int} (i2 : TI p2 a2) {p3 : Int32} {a3 : Int} (i3 : TI p3 a3) (h0 : 0 ≤ a0) (h1 : a0 ≤ 1) (h2 : -1 ≤ a1) (h3 : a1 ≤ 63) (h4 : -1 ≤ a2) (h5 : a2 ≤ 63) (h6 : -1 ≤ a3) (h7 : a3 ≤ 63) (h8 : 0 ≤ a1 → a1 / 16 ≠ mb ∨ a1 % 16 < lim) (h9 : 0 ≤ a2 → a2 / 16 ≠ mb ∨ a2 % 16 < lim) (h10 : 0 ≤ a3 → a3 / 16 ≠ mb ∨ a3 % 16 < lim) (hV : FG mu M N (p + 8) (CVo mb lim)) : LKS (FX9_adoptMedian G M 125 p0 p1 p2 p3) (FX9_adoptMedian H N (mu 125) p0 p1 p2 p3) (fun y z => Up mu p M N y z ∧ Ag mu y z 125 18 ∧ Ag mu y z 125 19) := by
  unfold FX9_adoptMedian
  refine rl_ltI (av_mul tn_1024 i0 (by omega) (by omega)) (fun x1 ix1 => ?_)
  refine rl_bnd (Q := fun (y z : Int32 × Int32 × Int32) => y.1 = z.1 ∧ y.2.1 = z.2.1 ∧ y.2.2 = z.2.2 ∧ (0 ≤ y.2.2.toInt ∧ y.2.2.toInt ≤ 2)) (rl_itr (fun (y z : Int32 × Int32 × Int32) => y.1 = z.1 ∧ y.2.1 = z.2.1 ∧ y.2.2 = z.2.2 ∧ (0 ≤ y.2.2.toInt ∧ y.2.2.toInt ≤ 2)) _ ?_ _ _ _ ?_) ?_
  · rintro ⟨s3_1, s3_2_1, s3_2_2⟩ ⟨s3_1r, s3_2_1r, s3_2_2r⟩ ⟨es3_1, es3_2_1, es3_2_2, ls3_2_2⟩
    obtain rfl : s3_1 = s3_1r := es3_1
    obtain rfl : s3_2_1 = s3_2_1r := es3_2_1
    obtain rfl : s3_2_2 = s3_2_2r := es3_2_2
    have ls3_2_2 : 0 ≤ s3_2_2.toInt ∧ s3_2_2.toInt ≤ 2 := ls3_2_2
    have is3_2_2 : TI s3_2_2 s3_2_2.toInt := rfl
    refine rl_if (fun c1 => ?_) (fun c1 => ?_)
    · have dc1 := tl_le tn_2 is3_2_2 c1
      exact rl_inr ⟨rfl, rfl, rfl, (ti_bd is3_2_2 (by omega) (by omega))⟩
    · have dc1 := tl_nle tn_2 is3_2_2 c1
      refine rl_bnd (Q := fun (y z : Int32) => y = z) ?_ ?_
      · refine rl_if (fun c2 => ?_) (fun c2 => ?_)
        · have dc2 := tl_le tn_0 i1 c2
          refine rl_dr (by_U t) (bz_p t) (fun gb38 => ?_)
          refine rl_ltI (av_mul tn_2 i1 (by omega) (by omega)) (fun x39 ix39 => ?_)
          refine rl_ltI (av_add ix1 ix39 (by omega) (by omega)) (fun x40 ix40 => ?_)
          refine rl_ltI (av_add ix40 is3_2_2 (by omega) (by omega)) (fun x41 ix41 => ?_)
          refine rl_dr (by_U t) (bz_7 t (by_p t)) (fun gb42 => ?_)
          refine rl_chk (chkl (by_U t) gb42) (fun k3 => ?_)
          refine rl_rd (fg_use hV ix41 (by omega) (fun k hk => by unfold CVo; omega)) (fun x43 => ?_)
          exact rl_some rfl
        · have dc2 := tl_nle tn_0 i1 c2
          exact rl_some rfl
      · rintro y9 y9r ey9
        obtain rfl : y9 = y9r := ey9
        refine rl_bnd (Q := fun (y z : Int32) => y = z) ?_ ?_
        · refine rl_if (fun c4 => ?_) (fun c4 => ?_)
          · have dc4 := tl_le tn_0 i2 c4
            refine rl_dr (by_U t) (bz_p t) (fun gb31 => ?_)
            refine rl_ltI (av_mul tn_2 i2 (by omega) (by omega)) (fun x32 ix32 => ?_)
            refine rl_ltI (av_add ix1 ix32 (by omega) (by omega)) (fun x33 ix33 => ?_)
            refine rl_ltI (av_add ix33 is3_2_2 (by omega) (by omega)) (fun x34 ix34 => ?_)
            refine rl_dr (by_U t) (bz_7 t (by_p t)) (fun gb35 => ?_)
            refine rl_chk (chkl (by_U t) gb35) (fun k5 => ?_)
            refine rl_rd (fg_use hV ix34 (by omega) (fun k hk => by unfold CVo; omega)) (fun x36 => ?_)
            exact rl_some rfl
          · have dc4 := tl_nle tn_0 i2 c4
            exact rl_some rfl
        · rintro y10 y10r ey10
          obtain rfl : y10 = y10r := ey10
          refine rl_bnd (Q := fun (y z : Int32) => y = z) ?_ ?_
          · refine rl_if (fun c6 => ?_) (fun c6 => ?_)
            · have dc6 := tl_le tn_0 i3 c6
              refine rl_dr (by_U t) (bz_p t) (fun gb24 => ?_)
              refine rl_ltI (av_mul tn_2 i3 (by omega) (by omega)) (fun x25 ix25 => ?_)
              refine rl_ltI (av_add ix1 ix25 (by omega) (by omega)) (fun x26 ix26 => ?_)
              refine rl_ltI (av_add ix26 is3_2_2 (by omega) (by omega)) (fun x27 ix27 => ?_)
              refine rl_dr (by_U t) (bz_7 t (by_p t)) (fun gb28 => ?_)
              refine rl_chk (chkl (by_U t) gb28) (fun k7 => ?_)
              refine rl_rd (fg_use hV ix27 (by omega) (fun k hk => by unfold CVo; omega)) (fun x29 => ?_)
              exact rl_some rfl
            · have dc6 := tl_nle tn_0 i3 c6
              exact rl_some rfl
          · rintro y11 y11r ey11
            obtain rfl : y11 = y11r := ey11
            refine rl_bnd (Q := fun (y z : Int32) => y = z) ?_ ?_
            · refine rl_if (fun c8 => ?_) (fun c8 => ?_)
              · have dc8 := tl_le (rfl : TI y10 y10.toInt) (rfl : TI y9 y9.toInt) c8
                exact rl_some rfl
              · have dc8 := tl_nle (rfl : TI y10 y10.toInt) (rfl : TI y9 y9.toInt) c8
                exact rl_some rfl
            · rintro y12 y12r ey12
              obtain rfl : y12 = y12r := ey12
              refine rl_bnd (Q := fun (y z : Int32) => y = z) ?_ ?_
              · refine rl_if (fun c9 => ?_) (fun c9 => ?_)
                · have dc9 := tl_le (rfl : TI y10 y10.toInt) (rfl : TI y9 y9.toInt) c9
                  exact rl_some rfl
                · have dc9 := tl_nle (rfl : TI y10 y10.toInt) (rfl : TI y9 y9.toInt) c9
                  exact rl_some rfl
              · rintro y13 y13r ey13
                obtain rfl : y13 = y13r := ey13
                refine rl_bnd (Q := fun (y z : Int32) => y = z) ?_ ?_
                · refine rl_if (fun c10 => ?_) (fun c10 => ?_)
                  · have dc10 := tl_le (rfl : TI y12 y12.toInt) (rfl : TI y11 y11.toInt) c10
                    refine rl_bnd (Q := fun (y z : Int32) => y = z) ?_ ?_
                    · refine rl_if (fun c11 => ?_) (fun c11 => ?_)
                      · have dc11 := tl_le (rfl : TI y11 y11.toInt) (rfl : TI y13 y13.toInt) c11
                        exact rl_some rfl
                      · have dc11 := tl_nle (rfl : TI y11 y11.toInt) (rfl : TI y13 y13.toInt) c11
                        exact rl_some rfl
                    · rintro y19 y19r ey19
                      obtain rfl : y19 = y19r := ey19
                      exact rl_some rfl
                  · have dc10 := tl_nle (rfl : TI y12 y12.toInt) (rfl : TI y11 y11.toInt) c10
                    exact rl_some rfl
                · rintro y14 y14r ey14
                  obtain rfl : y14 = y14r := ey14
                  refine rl_bnd (Q := fun (y z : Int32) => y = z) ?_ ?_
                  · refine rl_if (fun c12 => ?_) (fun c12 => ?_)
                    · have dc12 := tl_eq is3_2_2 tn_0 c12
                      exact rl_some rfl
                    · exact rl_some rfl
                  · rintro y15 y15r ey15
                    obtain rfl : y15 = y15r := ey15
                    refine rl_ltI (av_add is3_2_2 tn_1 (by omega) (by omega)) (fun x16 ix16 => ?_)
                    exact rl_inl ⟨rfl, rfl, rfl, (ti_bd ix16 (by omega) (by omega))⟩
  · exact ⟨rfl, rfl, rfl, (ti_bd tn_0 (by omega) (by omega))⟩
  · rintro ⟨y2_1, y2_2_1, y2_2_2⟩ ⟨y2_1r, y2_2_1r, y2_2_2r⟩ ⟨ey2_1, ey2_2_1, ey2_2_2, ly2_2_2⟩
    obtain rfl : y2_1 = y2_1r := ey2_1
    obtain rfl : y2_2_1 = y2_2_1r := ey2_2_1
    obtain rfl : y2_2_2 = y2_2_2r := ey2_2_2
    have ly2_2_2 : 0 ≤ y2_2_2.toInt ∧ y2_2_2.toInt ≤ 2 := ly2_2_2
    have iy2_2_2 : TI y2_2_2 y2_2_2.toInt := rfl
    refine rl_w (κ := p) (by_U t) (by have := by_q0 t (by_p t); omega) (fun M5 M5r uM5 AM5 nM5 => ?_)
    have tM5 := by_up t uM5
    have wV_M5 := fg_up uM5 hV
    refine rl_w (κ := p) (by_U tM5) (by have := by_q0 tM5 (by_p tM5); omega) (fun M6 M6r uM6 AM6 nM6 => ?_)
    have tM6 := by_up tM5 uM6
    have wV_M6 := fg_up uM6 wV_M5
    have wP125_18_M6 := ag_up uM6 AM5
    exact rl_some ⟨(up_tr uM5 uM6), wP125_18_M6, AM6⟩
