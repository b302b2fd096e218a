/-! safety of the coder's functions, printed out of their trees -/
theorem s_meanAround {G : GG} {M : DD} {p : Nat} {w : Int} {L : List Nat} (t : TT G M p w L) {p0 : Int32} : OK (FX6_meanAround G M 138 p0) (fun y => TT G y.1 p w L ∧ Fr p [] M y.1 ∧ True) := by
  unfold FX6_meanAround
  have hw12 : 1 ≤ w ∧ w ≤ 2 := by rcases tt_w t with h | h <;> omega
  refine ok_dr (f_r (b := 147) t rfl (by decide)) (g_lt t (by decide)) (g_k t (by decide) rfl) ?_
  refine ok_chk (nxg (g_n (i := 147) (n := 34) t (by decide) rfl) tn_0 (by omega) (by omega)) ?_
  refine ok_ltA (fun x2 => ?_)
  refine ok_chk (nxg (g_n (i := 147) (n := 34) t (by decide) rfl) tn_1 (by omega) (by omega)) ?_
  refine ok_ltA (fun x3 => ?_)
  refine ok_ltA (fun x4 => ?_)
  refine ok_chk (nxg (g_n (i := 147) (n := 34) t (by decide) rfl) tn_2 (by omega) (by omega)) ?_
  refine ok_ltA (fun x5 => ?_)
  refine ok_ltA (fun x6 => ?_)
  refine ok_chk (nxg (g_n (i := 147) (n := 34) t (by decide) rfl) tn_3 (by omega) (by omega)) ?_
  refine ok_ltA (fun x7 => ?_)
  refine ok_ltA (fun x8 => ?_)
  refine ok_chk (nxg (g_n (i := 147) (n := 34) t (by decide) rfl) tn_5 (by omega) (by omega)) ?_
  refine ok_ltA (fun x9 => ?_)
  refine ok_chk (nxg (g_n (i := 147) (n := 34) t (by decide) rfl) tn_6 (by omega) (by omega)) ?_
  refine ok_ltA (fun x10 => ?_)
  refine ok_ltA (fun x11 => ?_)
  refine ok_chk (nxg (g_n (i := 147) (n := 34) t (by decide) rfl) tn_7 (by omega) (by omega)) ?_
  refine ok_ltA (fun x12 => ?_)
  refine ok_ltA (fun x13 => ?_)
  refine ok_chk (nxg (g_n (i := 147) (n := 34) t (by decide) rfl) tn_8 (by omega) (by omega)) ?_
  refine ok_ltA (fun x14 => ?_)
  refine ok_ltA (fun x15 => ?_)
  refine ok_ltI (av_and 2 (rfl : TI p0 p0.toInt) (by decide) (by decide)) (fun x16 ix16 => ?_)
  refine ok_if (fun c1 => ?_) (fun c1 => ?_)
  · have dc1 := tl_eq ix16 tn_0 c1
    exact ok_some ⟨t, (fr_0 p [] M), trivial⟩
  · have dc1 := tl_ne ix16 tn_0 c1
    refine ok_if (fun c2 => ?_) (fun c2 => ?_)
    · have dc2 := tl_eq ix16 tn_1 c2
      refine ok_ltA (fun x19 => ?_)
      refine ok_ltA (fun x20 => ?_)
      exact ok_some ⟨t, (fr_0 p [] M), trivial⟩
    · have dc2 := tl_ne ix16 tn_1 c2
      refine ok_if (fun c3 => ?_) (fun c3 => ?_)
      · have dc3 := tl_eq ix16 tn_2 c3
        refine ok_ltA (fun x22 => ?_)
        refine ok_ltA (fun x23 => ?_)
        exact ok_some ⟨t, (fr_0 p [] M), trivial⟩
      · have dc3 := tl_ne ix16 tn_2 c3
        refine ok_chk (by have q : _ = _ := ix16; omega) ?_
        refine ok_ltA (fun x24 => ?_)
        refine ok_ltA (fun x25 => ?_)
        refine ok_ltA (fun x26 => ?_)
        exact ok_some ⟨t, (fr_0 p [] M), trivial⟩
theorem s_sides {G : GG} {M : DD} {p : Nat} {w : Int} {L : List Nat} (t : TT G M p w L) {p0 : Int32} {a0 : Int} (i0 : TI p0 a0) (h0 : 0 ≤ a0) (h1 : a0 < 2 * w) : OK (FX9_sides G M 125 p0) (fun y => TT G y.1 p w L ∧ Fr p [] M y.1 ∧ ((0 ≤ y.2.toInt ∧ y.2.toInt ≤ 15) ∧ (y.2.toInt % 2 = 1 → 1 ≤ a0 % w) ∧ (y.2.toInt / 2 % 2 = 1 → w ≤ a0) ∧ (y.2.toInt / 4 % 2 = 1 → 1 ≤ a0 % w ∧ w ≤ a0) ∧ (y.2.toInt / 8 % 2 = 1 → w ≤ a0))) := by
  unfold FX9_sides
  have hw12 : 1 ≤ w ∧ w ≤ 2 := by rcases tt_w t with h | h <;> omega
  rcases tt_w t with rfl | rfl
  · refine ok_bnd (s_pieceAt t i0 tn_m1 tn_0 tn_0 (by omega) (by omega) (by omega) (by omega) (by omega) (by omega)) ?_
    intro y1 hyy1
    obtain ⟨ty1, gy1, ly1⟩ := hyy1
    have fy1 := fr_tr (fr_0 p [] M) gy1 rfl
    have iy1 : TI y1.2 y1.2.toInt := rfl
    refine ok_bnd (s_mayUse ty1 iy1 (by omega) (by omega)) ?_
    intro y2 hyy2
    obtain ⟨ty2, gy2, ly2⟩ := hyy2
    have fy2 := fr_tr fy1 gy2 rfl
    have iy2 : TI y2.2 y2.2.toInt := rfl
    refine ok_bnd (Q := fun (z : Int32) => (0 ≤ z.toInt ∧ z.toInt ≤ 1) ∧ ((z.toInt = 0 ∨ z.toInt = 1) ∧ (z.toInt = 1 → 1 ≤ a0 % 1))) ?_ ?_
    · refine ok_if (fun c1 => ?_) (fun c1 => ?_)
      · have dc1 := tl_eq iy2 tn_0 c1
        exact ok_some ⟨(ti_bd tn_0 (by omega) (by omega)), (by have q : _ = _ := tn_0; (try dsimp only); omega)⟩
      · have dc1 := tl_ne iy2 tn_0 c1
        exact ok_some ⟨(ti_bd tn_1 (by omega) (by omega)), (by have q : _ = _ := tn_1; (try dsimp only); omega)⟩
    · intro y3 hyy3
      obtain ⟨ly3, jy3⟩ := hyy3
      have iy3 : TI y3 y3.toInt := rfl
      refine ok_bnd (s_pieceAt ty2 i0 tn_0 tn_m1 tn_0 (by omega) (by omega) (by omega) (by omega) (by omega) (by omega)) ?_
      intro y4 hyy4
      obtain ⟨ty4, gy4, ly4⟩ := hyy4
      have fy4 := fr_tr fy2 gy4 rfl
      have iy4 : TI y4.2 y4.2.toInt := rfl
      refine ok_bnd (s_mayUse ty4 iy4 (by omega) (by omega)) ?_
      intro y5 hyy5
      obtain ⟨ty5, gy5, ly5⟩ := hyy5
      have fy5 := fr_tr fy4 gy5 rfl
      have iy5 : TI y5.2 y5.2.toInt := rfl
      refine ok_bnd (Q := fun (z : Int32) => (0 ≤ z.toInt ∧ z.toInt ≤ 2) ∧ ((z.toInt = 0 ∨ z.toInt = 2) ∧ (z.toInt = 2 → 1 ≤ a0))) ?_ ?_
      · refine ok_if (fun c2 => ?_) (fun c2 => ?_)
        · have dc2 := tl_eq iy5 tn_0 c2
          exact ok_some ⟨(ti_bd tn_0 (by omega) (by omega)), (by have q : _ = _ := tn_0; (try dsimp only); omega)⟩
        · have dc2 := tl_ne iy5 tn_0 c2
          exact ok_some ⟨(ti_bd tn_2 (by omega) (by omega)), (by have q : _ = _ := tn_2; (try dsimp only); omega)⟩
      · intro y6 hyy6
        obtain ⟨ly6, jy6⟩ := hyy6
        have iy6 : TI y6 y6.toInt := rfl
        refine ok_ltI (av_or 1 iy3 iy6 (by omega) (by omega) (by omega) (by omega)) (fun x7 ix7 => ?_)
        refine ok_bnd (s_pieceAt ty5 i0 tn_m1 tn_m1 tn_0 (by omega) (by omega) (by omega) (by omega) (by omega) (by omega)) ?_
        intro y8 hyy8
        obtain ⟨ty8, gy8, ly8⟩ := hyy8
        have fy8 := fr_tr fy5 gy8 rfl
        have iy8 : TI y8.2 y8.2.toInt := rfl
        refine ok_bnd (s_mayUse ty8 iy8 (by omega) (by omega)) ?_
        intro y9 hyy9
        obtain ⟨ty9, gy9, ly9⟩ := hyy9
        have fy9 := fr_tr fy8 gy9 rfl
        have iy9 : TI y9.2 y9.2.toInt := rfl
        refine ok_bnd (Q := fun (z : Int32) => (0 ≤ z.toInt ∧ z.toInt ≤ 4) ∧ ((z.toInt = 0 ∨ z.toInt = 4) ∧ (z.toInt = 4 → 1 ≤ a0 % 1 ∧ 1 ≤ a0))) ?_ ?_
        · refine ok_if (fun c3 => ?_) (fun c3 => ?_)
          · have dc3 := tl_eq iy9 tn_0 c3
            exact ok_some ⟨(ti_bd tn_0 (by omega) (by omega)), (by have q : _ = _ := tn_0; (try dsimp only); omega)⟩
          · have dc3 := tl_ne iy9 tn_0 c3
            exact ok_some ⟨(ti_bd tn_4 (by omega) (by omega)), (by have q : _ = _ := tn_4; (try dsimp only); omega)⟩
        · intro y10 hyy10
          obtain ⟨ly10, jy10⟩ := hyy10
          have iy10 : TI y10 y10.toInt := rfl
          refine ok_ltI (av_or 2 ix7 iy10 (by omega) (by omega) (by omega) (by omega)) (fun x11 ix11 => ?_)
          refine ok_bnd (s_pieceAt ty9 i0 tn_16 tn_m1 tn_0 (by omega) (by omega) (by omega) (by omega) (by omega) (by omega)) ?_
          intro y12 hyy12
          obtain ⟨ty12, gy12, ly12⟩ := hyy12
          have fy12 := fr_tr fy9 gy12 rfl
          have iy12 : TI y12.2 y12.2.toInt := rfl
          refine ok_bnd (s_mayUse ty12 iy12 (by omega) (by omega)) ?_
          intro y13 hyy13
          obtain ⟨ty13, gy13, ly13⟩ := hyy13
          have fy13 := fr_tr fy12 gy13 rfl
          have iy13 : TI y13.2 y13.2.toInt := rfl
          refine ok_bnd (Q := fun (z : Int32) => (0 ≤ z.toInt ∧ z.toInt ≤ 8) ∧ ((z.toInt = 0 ∨ z.toInt = 8) ∧ (z.toInt = 8 → 1 ≤ a0))) ?_ ?_
          · refine ok_if (fun c4 => ?_) (fun c4 => ?_)
            · have dc4 := tl_eq iy13 tn_0 c4
              exact ok_some ⟨(ti_bd tn_0 (by omega) (by omega)), (by have q : _ = _ := tn_0; (try dsimp only); omega)⟩
            · have dc4 := tl_ne iy13 tn_0 c4
              exact ok_some ⟨(ti_bd tn_8 (by omega) (by omega)), (by have q : _ = _ := tn_8; (try dsimp only); omega)⟩
          · intro y14 hyy14
            obtain ⟨ly14, jy14⟩ := hyy14
            have iy14 : TI y14 y14.toInt := rfl
            refine ok_ltI (av_or 3 ix11 iy14 (by omega) (by omega) (by omega) (by omega)) (fun x15 ix15 => ?_)
            exact ok_some ⟨ty13, fy13, (by have q : _ = _ := ix15; (try dsimp only); omega)⟩
  · refine ok_bnd (s_pieceAt t i0 tn_m1 tn_0 tn_0 (by omega) (by omega) (by omega) (by omega) (by omega) (by omega)) ?_
    intro y1 hyy1
    obtain ⟨ty1, gy1, ly1⟩ := hyy1
    have fy1 := fr_tr (fr_0 p [] M) gy1 rfl
    have iy1 : TI y1.2 y1.2.toInt := rfl
    refine ok_bnd (s_mayUse ty1 iy1 (by omega) (by omega)) ?_
    intro y2 hyy2
    obtain ⟨ty2, gy2, ly2⟩ := hyy2
    have fy2 := fr_tr fy1 gy2 rfl
    have iy2 : TI y2.2 y2.2.toInt := rfl
    refine ok_bnd (Q := fun (z : Int32) => (0 ≤ z.toInt ∧ z.toInt ≤ 1) ∧ ((z.toInt = 0 ∨ z.toInt = 1) ∧ (z.toInt = 1 → 1 ≤ a0 % 2))) ?_ ?_
    · refine ok_if (fun c1 => ?_) (fun c1 => ?_)
      · have dc1 := tl_eq iy2 tn_0 c1
        exact ok_some ⟨(ti_bd tn_0 (by omega) (by omega)), (by have q : _ = _ := tn_0; (try dsimp only); omega)⟩
      · have dc1 := tl_ne iy2 tn_0 c1
        exact ok_some ⟨(ti_bd tn_1 (by omega) (by omega)), (by have q : _ = _ := tn_1; (try dsimp only); omega)⟩
    · intro y3 hyy3
      obtain ⟨ly3, jy3⟩ := hyy3
      have iy3 : TI y3 y3.toInt := rfl
      refine ok_bnd (s_pieceAt ty2 i0 tn_0 tn_m1 tn_0 (by omega) (by omega) (by omega) (by omega) (by omega) (by omega)) ?_
      intro y4 hyy4
      obtain ⟨ty4, gy4, ly4⟩ := hyy4
      have fy4 := fr_tr fy2 gy4 rfl
      have iy4 : TI y4.2 y4.2.toInt := rfl
      refine ok_bnd (s_mayUse ty4 iy4 (by omega) (by omega)) ?_
      intro y5 hyy5
      obtain ⟨ty5, gy5, ly5⟩ := hyy5
      have fy5 := fr_tr fy4 gy5 rfl
      have iy5 : TI y5.2 y5.2.toInt := rfl
      refine ok_bnd (Q := fun (z : Int32) => (0 ≤ z.toInt ∧ z.toInt ≤ 2) ∧ ((z.toInt = 0 ∨ z.toInt = 2) ∧ (z.toInt = 2 → 2 ≤ a0))) ?_ ?_
      · refine ok_if (fun c2 => ?_) (fun c2 => ?_)
        · have dc2 := tl_eq iy5 tn_0 c2
          exact ok_some ⟨(ti_bd tn_0 (by omega) (by omega)), (by have q : _ = _ := tn_0; (try dsimp only); omega)⟩
        · have dc2 := tl_ne iy5 tn_0 c2
          exact ok_some ⟨(ti_bd tn_2 (by omega) (by omega)), (by have q : _ = _ := tn_2; (try dsimp only); omega)⟩
      · intro y6 hyy6
        obtain ⟨ly6, jy6⟩ := hyy6
        have iy6 : TI y6 y6.toInt := rfl
        refine ok_ltI (av_or 1 iy3 iy6 (by omega) (by omega) (by omega) (by omega)) (fun x7 ix7 => ?_)
        refine ok_bnd (s_pieceAt ty5 i0 tn_m1 tn_m1 tn_0 (by omega) (by omega) (by omega) (by omega) (by omega) (by omega)) ?_
        intro y8 hyy8
        obtain ⟨ty8, gy8, ly8⟩ := hyy8
        have fy8 := fr_tr fy5 gy8 rfl
        have iy8 : TI y8.2 y8.2.toInt := rfl
        refine ok_bnd (s_mayUse ty8 iy8 (by omega) (by omega)) ?_
        intro y9 hyy9
        obtain ⟨ty9, gy9, ly9⟩ := hyy9
        have fy9 := fr_tr fy8 gy9 rfl
        have iy9 : TI y9.2 y9.2.toInt := rfl
        refine ok_bnd (Q := fun (z : Int32) => (0 ≤ z.toInt ∧ z.toInt ≤ 4) ∧ ((z.toInt = 0 ∨ z.toInt = 4) ∧ (z.toInt = 4 → 1 ≤ a0 % 2 ∧ 2 ≤ a0))) ?_ ?_
        · refine ok_if (fun c3 => ?_) (fun c3 => ?_)
          · have dc3 := tl_eq iy9 tn_0 c3
            exact ok_some ⟨(ti_bd tn_0 (by omega) (by omega)), (by have q : _ = _ := tn_0; (try dsimp only); omega)⟩
          · have dc3 := tl_ne iy9 tn_0 c3
            exact ok_some ⟨(ti_bd tn_4 (by omega) (by omega)), (by have q : _ = _ := tn_4; (try dsimp only); omega)⟩
        · intro y10 hyy10
          obtain ⟨ly10, jy10⟩ := hyy10
          have iy10 : TI y10 y10.toInt := rfl
          refine ok_ltI (av_or 2 ix7 iy10 (by omega) (by omega) (by omega) (by omega)) (fun x11 ix11 => ?_)
          refine ok_bnd (s_pieceAt ty9 i0 tn_16 tn_m1 tn_0 (by omega) (by omega) (by omega) (by omega) (by omega) (by omega)) ?_
          intro y12 hyy12
          obtain ⟨ty12, gy12, ly12⟩ := hyy12
          have fy12 := fr_tr fy9 gy12 rfl
          have iy12 : TI y12.2 y12.2.toInt := rfl
          refine ok_bnd (s_mayUse ty12 iy12 (by omega) (by omega)) ?_
          intro y13 hyy13
          obtain ⟨ty13, gy13, ly13⟩ := hyy13
          have fy13 := fr_tr fy12 gy13 rfl
          have iy13 : TI y13.2 y13.2.toInt := rfl
          refine ok_bnd (Q := fun (z : Int32) => (0 ≤ z.toInt ∧ z.toInt ≤ 8) ∧ ((z.toInt = 0 ∨ z.toInt = 8) ∧ (z.toInt = 8 → 2 ≤ a0))) ?_ ?_
          · refine ok_if (fun c4 => ?_) (fun c4 => ?_)
            · have dc4 := tl_eq iy13 tn_0 c4
              exact ok_some ⟨(ti_bd tn_0 (by omega) (by omega)), (by have q : _ = _ := tn_0; (try dsimp only); omega)⟩
            · have dc4 := tl_ne iy13 tn_0 c4
              exact ok_some ⟨(ti_bd tn_8 (by omega) (by omega)), (by have q : _ = _ := tn_8; (try dsimp only); omega)⟩
          · intro y14 hyy14
            obtain ⟨ly14, jy14⟩ := hyy14
            have iy14 : TI y14 y14.toInt := rfl
            refine ok_ltI (av_or 3 ix11 iy14 (by omega) (by omega) (by omega) (by omega)) (fun x15 ix15 => ?_)
            exact ok_some ⟨ty13, fy13, (by have q : _ = _ := ix15; (try dsimp only); omega)⟩
theorem s_sidesOf {G : GG} {M : DD} {p : Nat} {w : Int} {L : List Nat} (t : TT G M p w L) {mb : Int} {p0 : Int32} {a0 : Int} (i0 : TI p0 a0) {p1 : Int32} {a1 : Int} (i1 : TI p1 a1) (h0 : 0 ≤ a0) (h1 : a0 ≤ 15) (h2 : 0 ≤ a1) (h3 : a1 ≤ 15) (h4 : a1 % 2 = 1 → 1 ≤ mb % w) (h5 : a1 / 2 % 2 = 1 → w ≤ mb) (h6 : a1 / 4 % 2 = 1 → 1 ≤ mb % w ∧ w ≤ mb) (h7 : a1 / 8 % 2 = 1 → w ≤ mb) : OK (FX9_sidesOf G M p0 p1) (fun y => TT G y.1 p w L ∧ Fr p [] M y.1 ∧ ((0 ≤ y.2.toInt ∧ y.2.toInt ≤ 15) ∧ (y.2.toInt % 2 = 1 → 0 < (8 * (a0 / 4 % 2) + 4 * (a0 % 2)) ∨ 1 ≤ mb % w) ∧ (y.2.toInt / 2 % 2 = 1 → 0 < (8 * (a0 / 8) + 4 * (a0 / 2 % 2)) ∨ w ≤ mb) ∧ (y.2.toInt / 4 % 2 = 1 → (0 < (8 * (a0 / 4 % 2) + 4 * (a0 % 2)) ∨ 1 ≤ mb % w) ∧ (0 < (8 * (a0 / 8) + 4 * (a0 / 2 % 2)) ∨ w ≤ mb)) ∧ (y.2.toInt / 8 % 2 = 1 → 0 < (8 * (a0 / 8) + 4 * (a0 / 2 % 2)) ∨ w ≤ mb))) := by
  unfold FX9_sidesOf
  have hw12 : 1 ≤ w ∧ w ≤ 2 := by rcases tt_w t with h | h <;> omega
  refine ok_bnd (s_pieceX t i0 (by omega) (by omega)) ?_
  intro y1 hyy1
  obtain ⟨ty1, gy1, iy1⟩ := hyy1
  have fy1 := fr_tr (fr_0 p [] M) gy1 rfl
  refine ok_bnd (s_pieceY ty1 i0 (by omega) (by omega)) ?_
  intro y2 hyy2
  obtain ⟨ty2, gy2, iy2⟩ := hyy2
  have fy2 := fr_tr fy1 gy2 rfl
  refine ok_bnd (Q := fun (z : Int32) => (0 ≤ z.toInt ∧ z.toInt ≤ 1) ∧ ((z.toInt = 0 ∨ z.toInt = 1) ∧ (z.toInt = 1 → 0 < (8 * (a0 / 4 % 2) + 4 * (a0 % 2)) ∨ 1 ≤ mb % w))) ?_ ?_
  · refine ok_if (fun c1 => ?_) (fun c1 => ?_)
    · have dc1 := tl_lt tn_0 iy1 c1
      exact ok_some ⟨(ti_bd tn_1 (by omega) (by omega)), (by have q : _ = _ := tn_1; (try dsimp only); omega)⟩
    · have dc1 := tl_nlt tn_0 iy1 c1
      refine ok_ltI (av_and 1 i1 (by decide) (by decide)) (fun x42 ix42 => ?_)
      refine ok_bnd (Q := fun (z : Int32) => (0 ≤ z.toInt ∧ z.toInt ≤ 1) ∧ ((z.toInt = 0 ∨ z.toInt = 1) ∧ (z.toInt = 1 → 0 < (8 * (a0 / 4 % 2) + 4 * (a0 % 2)) ∨ 1 ≤ mb % w))) ?_ ?_
      · refine ok_if (fun c2 => ?_) (fun c2 => ?_)
        · have dc2 := tl_eq ix42 tn_0 c2
          exact ok_some ⟨(ti_bd tn_0 (by omega) (by omega)), (by have q : _ = _ := tn_0; (try dsimp only); omega)⟩
        · have dc2 := tl_ne ix42 tn_0 c2
          exact ok_some ⟨(ti_bd tn_1 (by omega) (by omega)), (by have q : _ = _ := tn_1; (try dsimp only); omega)⟩
      · intro y43 hyy43
        obtain ⟨ly43, jy43⟩ := hyy43
        have iy43 : TI y43 y43.toInt := rfl
        exact ok_some ⟨(ti_bd iy43 (by omega) (by omega)), (by have q : _ = _ := iy43; (try dsimp only); omega)⟩
  · intro y3 hyy3
    obtain ⟨ly3, jy3⟩ := hyy3
    have iy3 : TI y3 y3.toInt := rfl
    refine ok_bnd (Q := fun (z : Int32) => (0 ≤ z.toInt ∧ z.toInt ≤ 1) ∧ ((z.toInt = 0 ∨ z.toInt = 1) ∧ (z.toInt = 1 → 0 < (8 * (a0 / 8) + 4 * (a0 / 2 % 2)) ∨ w ≤ mb))) ?_ ?_
    · refine ok_if (fun c3 => ?_) (fun c3 => ?_)
      · have dc3 := tl_lt tn_0 iy2 c3
        exact ok_some ⟨(ti_bd tn_1 (by omega) (by omega)), (by have q : _ = _ := tn_1; (try dsimp only); omega)⟩
      · have dc3 := tl_nlt tn_0 iy2 c3
        refine ok_ltI (av_bit 1 i1 (by omega) (by decide) (by decide)) (fun x38 ix38 => ?_)
        refine ok_bnd (Q := fun (z : Int32) => (0 ≤ z.toInt ∧ z.toInt ≤ 1) ∧ ((z.toInt = 0 ∨ z.toInt = 1) ∧ (z.toInt = 1 → 0 < (8 * (a0 / 8) + 4 * (a0 / 2 % 2)) ∨ w ≤ mb))) ?_ ?_
        · refine ok_if (fun c4 => ?_) (fun c4 => ?_)
          · have dc4 := tl_eq ix38 tn_0 c4
            exact ok_some ⟨(ti_bd tn_0 (by omega) (by omega)), (by have q : _ = _ := tn_0; (try dsimp only); omega)⟩
          · have dc4 := tl_ne ix38 tn_0 c4
            exact ok_some ⟨(ti_bd tn_1 (by omega) (by omega)), (by have q : _ = _ := tn_1; (try dsimp only); omega)⟩
        · intro y39 hyy39
          obtain ⟨ly39, jy39⟩ := hyy39
          have iy39 : TI y39 y39.toInt := rfl
          exact ok_some ⟨(ti_bd iy39 (by omega) (by omega)), (by have q : _ = _ := iy39; (try dsimp only); omega)⟩
    · intro y4 hyy4
      obtain ⟨ly4, jy4⟩ := hyy4
      have iy4 : TI y4 y4.toInt := rfl
      refine ok_bnd (Q := fun (z : Int32) => (0 ≤ z.toInt ∧ z.toInt ≤ 1) ∧ ((z.toInt = 0 ∨ z.toInt = 1) ∧ (z.toInt = 1 → (0 < (8 * (a0 / 4 % 2) + 4 * (a0 % 2)) ∨ 1 ≤ mb % w) ∧ (0 < (8 * (a0 / 8) + 4 * (a0 / 2 % 2)) ∨ w ≤ mb)))) ?_ ?_
      · refine ok_if (fun c5 => ?_) (fun c5 => ?_)
        · have dc5 := tl_le iy1 tn_0 c5
          refine ok_bnd (Q := fun (z : Int32) => (0 ≤ z.toInt ∧ z.toInt ≤ 1) ∧ ((z.toInt = 0 ∨ z.toInt = 1) ∧ (z.toInt = 1 → (0 < (8 * (a0 / 4 % 2) + 4 * (a0 % 2)) ∨ 1 ≤ mb % w) ∧ (0 < (8 * (a0 / 8) + 4 * (a0 / 2 % 2)) ∨ w ≤ mb)))) ?_ ?_
          · refine ok_if (fun c6 => ?_) (fun c6 => ?_)
            · have dc6 := tl_le iy2 tn_0 c6
              refine ok_ltI (av_bit 2 i1 (by omega) (by decide) (by decide)) (fun x34 ix34 => ?_)
              refine ok_bnd (Q := fun (z : Int32) => (0 ≤ z.toInt ∧ z.toInt ≤ 1) ∧ ((z.toInt = 0 ∨ z.toInt = 1) ∧ (z.toInt = 1 → (0 < (8 * (a0 / 4 % 2) + 4 * (a0 % 2)) ∨ 1 ≤ mb % w) ∧ (0 < (8 * (a0 / 8) + 4 * (a0 / 2 % 2)) ∨ w ≤ mb)))) ?_ ?_
              · refine ok_if (fun c7 => ?_) (fun c7 => ?_)
                · have dc7 := tl_eq ix34 tn_0 c7
                  exact ok_some ⟨(ti_bd tn_0 (by omega) (by omega)), (by have q : _ = _ := tn_0; (try dsimp only); omega)⟩
                · have dc7 := tl_ne ix34 tn_0 c7
                  exact ok_some ⟨(ti_bd tn_1 (by omega) (by omega)), (by have q : _ = _ := tn_1; (try dsimp only); omega)⟩
              · intro y35 hyy35
                obtain ⟨ly35, jy35⟩ := hyy35
                have iy35 : TI y35 y35.toInt := rfl
                exact ok_some ⟨(ti_bd iy35 (by omega) (by omega)), (by have q : _ = _ := iy35; (try dsimp only); omega)⟩
            · have dc6 := tl_nle iy2 tn_0 c6
              exact ok_some ⟨(ti_bd iy3 (by omega) (by omega)), (by have q : _ = _ := iy3; (try dsimp only); omega)⟩
          · intro y32 hyy32
            obtain ⟨ly32, jy32⟩ := hyy32
            have iy32 : TI y32 y32.toInt := rfl
            exact ok_some ⟨(ti_bd iy32 (by omega) (by omega)), (by have q : _ = _ := iy32; (try dsimp only); omega)⟩
        · have dc5 := tl_nle iy1 tn_0 c5
          exact ok_some ⟨(ti_bd iy4 (by omega) (by omega)), (by have q : _ = _ := iy4; (try dsimp only); omega)⟩
      · intro y5 hyy5
        obtain ⟨ly5, jy5⟩ := hyy5
        have iy5 : TI y5 y5.toInt := rfl
        refine ok_bnd (Q := fun (z : Int32) => (0 ≤ z.toInt ∧ z.toInt ≤ 1) ∧ ((z.toInt = 0 ∨ z.toInt = 1) ∧ (z.toInt = 1 → 0 < (8 * (a0 / 8) + 4 * (a0 / 2 % 2)) ∨ w ≤ mb))) ?_ ?_
        · refine ok_if (fun c8 => ?_) (fun c8 => ?_)
          · have dc8 := tl_eq i0 tn_5 c8
            refine ok_ltI (av_bit 3 i1 (by omega) (by decide) (by decide)) (fun x28 ix28 => ?_)
            refine ok_bnd (Q := fun (z : Int32) => (0 ≤ z.toInt ∧ z.toInt ≤ 1) ∧ ((z.toInt = 0 ∨ z.toInt = 1) ∧ (z.toInt = 1 → 0 < (8 * (a0 / 8) + 4 * (a0 / 2 % 2)) ∨ w ≤ mb))) ?_ ?_
            · refine ok_if (fun c9 => ?_) (fun c9 => ?_)
              · have dc9 := tl_eq ix28 tn_0 c9
                exact ok_some ⟨(ti_bd tn_0 (by omega) (by omega)), (by have q : _ = _ := tn_0; (try dsimp only); omega)⟩
              · have dc9 := tl_ne ix28 tn_0 c9
                exact ok_some ⟨(ti_bd tn_1 (by omega) (by omega)), (by have q : _ = _ := tn_1; (try dsimp only); omega)⟩
            · intro y29 hyy29
              obtain ⟨ly29, jy29⟩ := hyy29
              have iy29 : TI y29 y29.toInt := rfl
              exact ok_some ⟨(ti_bd iy29 (by omega) (by omega)), (by have q : _ = _ := iy29; (try dsimp only); omega)⟩
          · have dc8 := tl_ne i0 tn_5 c8
            refine ok_bnd (Q := fun (z : Int32) => (0 ≤ z.toInt ∧ z.toInt ≤ 1) ∧ ((z.toInt = 0 ∨ z.toInt = 1) ∧ (z.toInt = 1 → 0 < (8 * (a0 / 8) + 4 * (a0 / 2 % 2)) ∨ w ≤ mb))) ?_ ?_
            · refine ok_if (fun c10 => ?_) (fun c10 => ?_)
              · have dc10 := tl_eq i0 tn_3 c10
                exact ok_some ⟨(ti_bd tn_0 (by omega) (by omega)), (by have q : _ = _ := tn_0; (try dsimp only); omega)⟩
              · have dc10 := tl_ne i0 tn_3 c10
                refine ok_bnd (Q := fun (z : Int32) => (0 ≤ z.toInt ∧ z.toInt ≤ 1) ∧ ((z.toInt = 0 ∨ z.toInt = 1) ∧ (z.toInt = 1 → 0 < (8 * (a0 / 8) + 4 * (a0 / 2 % 2)) ∨ w ≤ mb))) ?_ ?_
                · refine ok_if (fun c11 => ?_) (fun c11 => ?_)
                  · have dc11 := tl_eq i0 tn_11 c11
                    exact ok_some ⟨(ti_bd tn_0 (by omega) (by omega)), (by have q : _ = _ := tn_0; (try dsimp only); omega)⟩
                  · have dc11 := tl_ne i0 tn_11 c11
                    refine ok_ltI (av_mod i0 tn_8 (by omega) (by omega)) (fun x23 ix23 => ?_)
                    refine ok_bnd (Q := fun (z : Int32) => (0 ≤ z.toInt ∧ z.toInt ≤ 1) ∧ ((z.toInt = 0 ∨ z.toInt = 1) ∧ (z.toInt = 1 → 0 < (8 * (a0 / 8) + 4 * (a0 / 2 % 2)) ∨ w ≤ mb))) ?_ ?_
                    · refine ok_if (fun c12 => ?_) (fun c12 => ?_)
                      · have dc12 := tl_eq ix23 tn_7 c12
                        exact ok_some ⟨(ti_bd tn_0 (by omega) (by omega)), (by have q : _ = _ := tn_0; (try dsimp only); omega)⟩
                      · have dc12 := tl_ne ix23 tn_7 c12
                        refine ok_bnd (Q := fun (z : Int32) => (0 ≤ z.toInt ∧ z.toInt ≤ 1) ∧ ((z.toInt = 0 ∨ z.toInt = 1) ∧ (z.toInt = 1 → 0 < (8 * (a0 / 8) + 4 * (a0 / 2 % 2)) ∨ w ≤ mb))) ?_ ?_
                        · refine ok_if (fun c13 => ?_) (fun c13 => ?_)
                          · have dc13 := tl_eq i0 tn_13 c13
                            exact ok_some ⟨(ti_bd tn_0 (by omega) (by omega)), (by have q : _ = _ := tn_0; (try dsimp only); omega)⟩
                          · have dc13 := tl_ne i0 tn_13 c13
                            exact ok_some ⟨(ti_bd iy4 (by omega) (by omega)), (by have q : _ = _ := iy4; (try dsimp only); omega)⟩
                        · intro y26 hyy26
                          obtain ⟨ly26, jy26⟩ := hyy26
                          have iy26 : TI y26 y26.toInt := rfl
                          exact ok_some ⟨(ti_bd iy26 (by omega) (by omega)), (by have q : _ = _ := iy26; (try dsimp only); omega)⟩
                    · intro y24 hyy24
                      obtain ⟨ly24, jy24⟩ := hyy24
                      have iy24 : TI y24 y24.toInt := rfl
                      exact ok_some ⟨(ti_bd iy24 (by omega) (by omega)), (by have q : _ = _ := iy24; (try dsimp only); omega)⟩
                · intro y21 hyy21
                  obtain ⟨ly21, jy21⟩ := hyy21
                  have iy21 : TI y21 y21.toInt := rfl
                  exact ok_some ⟨(ti_bd iy21 (by omega) (by omega)), (by have q : _ = _ := iy21; (try dsimp only); omega)⟩
            · intro y19 hyy19
              obtain ⟨ly19, jy19⟩ := hyy19
              have iy19 : TI y19 y19.toInt := rfl
              exact ok_some ⟨(ti_bd iy19 (by omega) (by omega)), (by have q : _ = _ := iy19; (try dsimp only); omega)⟩
        · intro y6 hyy6
          obtain ⟨ly6, jy6⟩ := hyy6
          have iy6 : TI y6 y6.toInt := rfl
          refine ok_bnd (Q := fun (z : Int32) => (0 ≤ z.toInt ∧ z.toInt ≤ 1) ∧ ((z.toInt = 0 ∨ z.toInt = 1) ∧ (z.toInt = 1 → 0 < (8 * (a0 / 4 % 2) + 4 * (a0 % 2)) ∨ 1 ≤ mb % w))) ?_ ?_
          · refine ok_if (fun c14 => ?_) (fun c14 => ?_)
            · have dc14 := tl_eq iy3 tn_0 c14
              exact ok_some ⟨(ti_bd tn_0 (by omega) (by omega)), (by have q : _ = _ := tn_0; (try dsimp only); omega)⟩
            · have dc14 := tl_ne iy3 tn_0 c14
              exact ok_some ⟨(ti_bd tn_1 (by omega) (by omega)), (by have q : _ = _ := tn_1; (try dsimp only); omega)⟩
          · intro y7 hyy7
            obtain ⟨ly7, jy7⟩ := hyy7
            have iy7 : TI y7 y7.toInt := rfl
            refine ok_bnd (Q := fun (z : Int32) => (0 ≤ z.toInt ∧ z.toInt ≤ 2) ∧ ((z.toInt = 0 ∨ z.toInt = 2) ∧ (z.toInt = 2 → 0 < (8 * (a0 / 8) + 4 * (a0 / 2 % 2)) ∨ w ≤ mb))) ?_ ?_
            · refine ok_if (fun c15 => ?_) (fun c15 => ?_)
              · have dc15 := tl_eq iy4 tn_0 c15
                exact ok_some ⟨(ti_bd tn_0 (by omega) (by omega)), (by have q : _ = _ := tn_0; (try dsimp only); omega)⟩
              · have dc15 := tl_ne iy4 tn_0 c15
                exact ok_some ⟨(ti_bd tn_2 (by omega) (by omega)), (by have q : _ = _ := tn_2; (try dsimp only); omega)⟩
            · intro y8 hyy8
              obtain ⟨ly8, jy8⟩ := hyy8
              have iy8 : TI y8 y8.toInt := rfl
              refine ok_ltI (av_or 1 iy7 iy8 (by omega) (by omega) (by omega) (by omega)) (fun x9 ix9 => ?_)
              refine ok_bnd (Q := fun (z : Int32) => (0 ≤ z.toInt ∧ z.toInt ≤ 4) ∧ ((z.toInt = 0 ∨ z.toInt = 4) ∧ (z.toInt = 4 → (0 < (8 * (a0 / 4 % 2) + 4 * (a0 % 2)) ∨ 1 ≤ mb % w) ∧ (0 < (8 * (a0 / 8) + 4 * (a0 / 2 % 2)) ∨ w ≤ mb)))) ?_ ?_
              · refine ok_if (fun c16 => ?_) (fun c16 => ?_)
                · have dc16 := tl_eq iy5 tn_0 c16
                  exact ok_some ⟨(ti_bd tn_0 (by omega) (by omega)), (by have q : _ = _ := tn_0; (try dsimp only); omega)⟩
                · have dc16 := tl_ne iy5 tn_0 c16
                  exact ok_some ⟨(ti_bd tn_4 (by omega) (by omega)), (by have q : _ = _ := tn_4; (try dsimp only); omega)⟩
              · intro y10 hyy10
                obtain ⟨ly10, jy10⟩ := hyy10
                have iy10 : TI y10 y10.toInt := rfl
                refine ok_ltI (av_or 2 ix9 iy10 (by omega) (by omega) (by omega) (by omega)) (fun x11 ix11 => ?_)
                refine ok_bnd (Q := fun (z : Int32) => (0 ≤ z.toInt ∧ z.toInt ≤ 8) ∧ ((z.toInt = 0 ∨ z.toInt = 8) ∧ (z.toInt = 8 → 0 < (8 * (a0 / 8) + 4 * (a0 / 2 % 2)) ∨ w ≤ mb))) ?_ ?_
                · refine ok_if (fun c17 => ?_) (fun c17 => ?_)
                  · have dc17 := tl_eq iy6 tn_0 c17
                    exact ok_some ⟨(ti_bd tn_0 (by omega) (by omega)), (by have q : _ = _ := tn_0; (try dsimp only); omega)⟩
                  · have dc17 := tl_ne iy6 tn_0 c17
                    exact ok_some ⟨(ti_bd tn_8 (by omega) (by omega)), (by have q : _ = _ := tn_8; (try dsimp only); omega)⟩
                · intro y12 hyy12
                  obtain ⟨ly12, jy12⟩ := hyy12
                  have iy12 : TI y12 y12.toInt := rfl
                  refine ok_ltI (av_or 3 ix11 iy12 (by omega) (by omega) (by omega) (by omega)) (fun x13 ix13 => ?_)
                  exact ok_some ⟨ty2, fy2, (by have q : _ = _ := ix13; (try dsimp only); omega)⟩
theorem s_takeAround {G : GG} {M : DD} {p : Nat} {w : Int} {L : List Nat} (t : TT G M p w L) {p0 : Option Nat} {q0 : Nat} (e0 : p0 = some q0) (hq0 : q0 ∈ L) {p1 : Int32} {a1 : Int} (i1 : TI p1 a1) {p2 : Int32} {a2 : Int} (i2 : TI p2 a2) (h0 : 0 ≤ a1) (h1 : a1 + 48 * w + 3 < 512 * w) (h2 : 0 ≤ a2) (h3 : a2 ≤ 15) (h4 : a2 % 2 = 1 → 1 ≤ a1) (h5 : a2 / 2 % 2 = 1 → 16 * w ≤ a1) (h6 : a2 / 4 % 2 = 1 → 16 * w + 1 ≤ a1) (h7 : a2 / 8 % 2 = 1 → 16 * w ≤ a1) : OK (FX6_takeAround G M 138 p0 p1 p2) (fun y => TT G y p w L ∧ Fr p [1] M y) := by
  unfold FX6_takeAround
  subst e0
  have hw12 : 1 ≤ w ∧ w ≤ 2 := by rcases tt_w t with h | h <;> omega
  rcases tt_w t with rfl | rfl
  · refine ok_dr rfl (by have q := (tt_q0b t hq0); omega) (gk_0 t hq0) ?_
    refine ok_dr (pr_4 t hq0) (by have q := (tt_q0b t hq0); omega) (gk_2 t hq0) ?_
    refine ok_chk (nxg (gl_2 t hq0) tn_0 (by omega) (by omega)) ?_
    refine ok_ltI (tw_q t hq0) (fun x3 ix3 => ?_)
    refine ok_ltI (av_mul tn_16 ix3 (by omega) (by omega)) (fun x4 ix4 => ?_)
    refine ok_bnd (Q := fun (z : Int32 × DD) => (0 ≤ z.1.toInt ∧ z.1.toInt ≤ 4) ∧ TT G z.2 p 1 L ∧ Fr p [1] M z.2) (ok_itr (fun (z : Int32 × DD) => (0 ≤ z.1.toInt ∧ z.1.toInt ≤ 4) ∧ TT G z.2 p 1 L ∧ Fr p [1] M z.2) (fun z => (4 - z.1.toInt).toNat) ?_ _ _ ?_ ?_) ?_
    · intro s6 hys6
      obtain ⟨ls6_1, ts6_2, fs6_2⟩ := hys6
      have is6_1 : TI s6.1 s6.1.toInt := rfl
      refine ok_if (fun c1 => ?_) (fun c1 => ?_)
      · have dc1 := tl_le tn_4 is6_1 c1
        exact ok_some ⟨(ti_bd is6_1 (by omega) (by omega)), ts6_2, fs6_2⟩
      · have dc1 := tl_nle tn_4 is6_1 c1
        refine ok_ltI (av_sub tn_3 is6_1 (by omega) (by omega)) (fun x37 ix37 => ?_)
        refine ok_ltI (av_and 1 i2 (by decide) (by decide)) (fun x38 ix38 => ?_)
        refine ok_bnd (Q := fun (z : Int32) => True) ?_ ?_
        · refine ok_if (fun c2 => ?_) (fun c2 => ?_)
          · have dc2 := tl_eq ix38 tn_0 c2
            exact ok_some trivial
          · have dc2 := tl_ne ix38 tn_0 c2
            refine ok_ltI (av_mul is6_1 ix4 (by omega) (by omega)) (fun x54 ix54 => ?_)
            refine ok_ltI (av_add i1 ix54 (by omega) (by omega)) (fun x55 ix55 => ?_)
            refine ok_ltI (av_sub ix55 tn_1 (by omega) (by omega)) (fun x56 ix56 => ?_)
            refine ok_dp0 t hq0 ?_
            refine ok_chk (nxi (gl_9 t hq0) ix56 (by omega) (by omega)) ?_
            refine ok_ltA (fun x58 => ?_)
            exact ok_some trivial
        · intro y39 hyy39
          have u_y39 := hyy39
          refine ok_dr (f_r (b := 147) ts6_2 rfl (by decide)) (g_lt ts6_2 (by decide)) (g_k ts6_2 (by decide) rfl) ?_
          refine ok_chk (nxg (g_n (i := 147) (n := 34) ts6_2 (by decide) rfl) ix37 (by omega) (by omega)) ?_
          refine ok_ltt (fun M41 eM41 => ?_)
          have tM41 : TT G M41 p 1 L := by rw [eM41]; exact (tt_w0 ts6_2 rfl)
          have fM41 : Fr p [1] M M41 := by rw [eM41]; exact (fr_w fs6_2 rfl)
          clear eM41
          refine ok_ltI (av_add tn_5 is6_1 (by omega) (by omega)) (fun x42 ix42 => ?_)
          refine ok_ltI (av_bit 1 i2 (by omega) (by decide) (by decide)) (fun x43 ix43 => ?_)
          refine ok_bnd (Q := fun (z : Int32) => True) ?_ ?_
          · refine ok_if (fun c3 => ?_) (fun c3 => ?_)
            · have dc3 := tl_eq ix43 tn_0 c3
              exact ok_some trivial
            · have dc3 := tl_ne ix43 tn_0 c3
              refine ok_ltI (av_sub i1 ix4 (by omega) (by omega)) (fun x49 ix49 => ?_)
              refine ok_ltI (av_add ix49 is6_1 (by omega) (by omega)) (fun x50 ix50 => ?_)
              refine ok_dp0 t hq0 ?_
              refine ok_chk (nxi (gl_9 t hq0) ix50 (by omega) (by omega)) ?_
              refine ok_ltA (fun x52 => ?_)
              exact ok_some trivial
          · intro y44 hyy44
            have u_y44 := hyy44
            refine ok_dr (f_r (b := 147) tM41 rfl (by decide)) (g_lt tM41 (by decide)) (g_k tM41 (by decide) rfl) ?_
            refine ok_chk (nxg (g_n (i := 147) (n := 34) tM41 (by decide) rfl) ix42 (by omega) (by omega)) ?_
            refine ok_ltt (fun M46 eM46 => ?_)
            have tM46 : TT G M46 p 1 L := by rw [eM46]; exact (tt_w0 tM41 rfl)
            have fM46 : Fr p [1] M M46 := by rw [eM46]; exact (fr_w fM41 rfl)
            clear eM46
            refine ok_ltI (av_add is6_1 tn_1 (by omega) (by omega)) (fun x47 ix47 => ?_)
            exact ok_some ⟨⟨(ti_bd ix47 (by omega) (by omega)), tM46, fM46⟩, (mu_up ix47 (by omega) (by omega))⟩
    · exact ⟨(ti_bd tn_0 (by omega) (by omega)), t, (fr_0 p [1] M)⟩
    · exact mu_0 tn_0 (by omega)
    · intro y5 hyy5
      obtain ⟨ly5_1, ty5_2, fy5_2⟩ := hyy5
      have iy5_1 : TI y5.1 y5.1.toInt := rfl
      refine ok_ltI (av_bit 2 i2 (by omega) (by decide) (by decide)) (fun x8 ix8 => ?_)
      refine ok_bnd (Q := fun (z : Int32) => True) ?_ ?_
      · refine ok_if (fun c4 => ?_) (fun c4 => ?_)
        · have dc4 := tl_eq ix8 tn_0 c4
          exact ok_some trivial
        · have dc4 := tl_ne ix8 tn_0 c4
          refine ok_ltI (av_sub i1 ix4 (by omega) (by omega)) (fun x31 ix31 => ?_)
          refine ok_ltI (av_sub ix31 tn_1 (by omega) (by omega)) (fun x32 ix32 => ?_)
          refine ok_dp0 t hq0 ?_
          refine ok_chk (nxi (gl_9 t hq0) ix32 (by omega) (by omega)) ?_
          refine ok_ltA (fun x34 => ?_)
          exact ok_some trivial
      · intro y9 hyy9
        have u_y9 := hyy9
        refine ok_dr (f_r (b := 147) ty5_2 rfl (by decide)) (g_lt ty5_2 (by decide)) (g_k ty5_2 (by decide) rfl) ?_
        refine ok_chk (nxg (g_n (i := 147) (n := 34) ty5_2 (by decide) rfl) tn_4 (by omega) (by omega)) ?_
        refine ok_ltt (fun M11 eM11 => ?_)
        have tM11 : TT G M11 p 1 L := by rw [eM11]; exact (tt_w0 ty5_2 rfl)
        have fM11 : Fr p [1] M M11 := by rw [eM11]; exact (fr_w fy5_2 rfl)
        clear eM11
        refine ok_bnd (Q := fun (z : Int32 × DD) => (4 ≤ z.1.toInt ∧ z.1.toInt ≤ 8) ∧ TT G z.2 p 1 L ∧ Fr p [1] M z.2) (ok_itr (fun (z : Int32 × DD) => (4 ≤ z.1.toInt ∧ z.1.toInt ≤ 8) ∧ TT G z.2 p 1 L ∧ Fr p [1] M z.2) (fun z => (8 - z.1.toInt).toNat) ?_ _ _ ?_ ?_) ?_
        · intro s13 hys13
          obtain ⟨ls13_1, ts13_2, fs13_2⟩ := hys13
          have is13_1 : TI s13.1 s13.1.toInt := rfl
          refine ok_if (fun c5 => ?_) (fun c5 => ?_)
          · have dc5 := tl_le tn_8 is13_1 c5
            exact ok_some ⟨(ti_bd is13_1 (by omega) (by omega)), ts13_2, fs13_2⟩
          · have dc5 := tl_nle tn_8 is13_1 c5
            refine ok_ltI (av_add tn_5 is13_1 (by omega) (by omega)) (fun x17 ix17 => ?_)
            refine ok_ltI (av_bit 3 i2 (by omega) (by decide) (by decide)) (fun x18 ix18 => ?_)
            refine ok_bnd (Q := fun (z : Int32) => True) ?_ ?_
            · refine ok_if (fun c6 => ?_) (fun c6 => ?_)
              · have dc6 := tl_eq ix18 tn_0 c6
                refine ok_dr (f_r (b := 147) ts13_2 rfl (by decide)) (g_lt ts13_2 (by decide)) (g_k ts13_2 (by decide) rfl) ?_
                refine ok_chk (nxg (g_n (i := 147) (n := 34) ts13_2 (by decide) rfl) tn_8 (by omega) (by omega)) ?_
                refine ok_ltA (fun x25 => ?_)
                exact ok_some trivial
              · have dc6 := tl_ne ix18 tn_0 c6
                refine ok_ltI (av_sub i1 ix4 (by omega) (by omega)) (fun x26 ix26 => ?_)
                refine ok_ltI (av_add ix26 is13_1 (by omega) (by omega)) (fun x27 ix27 => ?_)
                refine ok_dp0 t hq0 ?_
                refine ok_chk (nxi (gl_9 t hq0) ix27 (by omega) (by omega)) ?_
                refine ok_ltA (fun x29 => ?_)
                exact ok_some trivial
            · intro y19 hyy19
              have u_y19 := hyy19
              refine ok_dr (f_r (b := 147) ts13_2 rfl (by decide)) (g_lt ts13_2 (by decide)) (g_k ts13_2 (by decide) rfl) ?_
              refine ok_chk (nxg (g_n (i := 147) (n := 34) ts13_2 (by decide) rfl) ix17 (by omega) (by omega)) ?_
              refine ok_ltt (fun M21 eM21 => ?_)
              have tM21 : TT G M21 p 1 L := by rw [eM21]; exact (tt_w0 ts13_2 rfl)
              have fM21 : Fr p [1] M M21 := by rw [eM21]; exact (fr_w fs13_2 rfl)
              clear eM21
              refine ok_ltI (av_add is13_1 tn_1 (by omega) (by omega)) (fun x22 ix22 => ?_)
              exact ok_some ⟨⟨(ti_bd ix22 (by omega) (by omega)), tM21, fM21⟩, (mu_up ix22 (by omega) (by omega))⟩
        · exact ⟨(ti_bd tn_4 (by omega) (by omega)), tM11, fM11⟩
        · exact mu_0 tn_4 (by omega)
        · intro y12 hyy12
          obtain ⟨ly12_1, ty12_2, fy12_2⟩ := hyy12
          have iy12_1 : TI y12.1 y12.1.toInt := rfl
          exact ok_some ⟨ty12_2, fy12_2⟩
  · refine ok_dr rfl (by have q := (tt_q0b t hq0); omega) (gk_0 t hq0) ?_
    refine ok_dr (pr_4 t hq0) (by have q := (tt_q0b t hq0); omega) (gk_2 t hq0) ?_
    refine ok_chk (nxg (gl_2 t hq0) tn_0 (by omega) (by omega)) ?_
    refine ok_ltI (tw_q t hq0) (fun x3 ix3 => ?_)
    refine ok_ltI (av_mul tn_16 ix3 (by omega) (by omega)) (fun x4 ix4 => ?_)
    refine ok_bnd (Q := fun (z : Int32 × DD) => (0 ≤ z.1.toInt ∧ z.1.toInt ≤ 4) ∧ TT G z.2 p 2 L ∧ Fr p [1] M z.2) (ok_itr (fun (z : Int32 × DD) => (0 ≤ z.1.toInt ∧ z.1.toInt ≤ 4) ∧ TT G z.2 p 2 L ∧ Fr p [1] M z.2) (fun z => (4 - z.1.toInt).toNat) ?_ _ _ ?_ ?_) ?_
    · intro s6 hys6
      obtain ⟨ls6_1, ts6_2, fs6_2⟩ := hys6
      have is6_1 : TI s6.1 s6.1.toInt := rfl
      refine ok_if (fun c1 => ?_) (fun c1 => ?_)
      · have dc1 := tl_le tn_4 is6_1 c1
        exact ok_some ⟨(ti_bd is6_1 (by omega) (by omega)), ts6_2, fs6_2⟩
      · have dc1 := tl_nle tn_4 is6_1 c1
        refine ok_ltI (av_sub tn_3 is6_1 (by omega) (by omega)) (fun x37 ix37 => ?_)
        refine ok_ltI (av_and 1 i2 (by decide) (by decide)) (fun x38 ix38 => ?_)
        refine ok_bnd (Q := fun (z : Int32) => True) ?_ ?_
        · refine ok_if (fun c2 => ?_) (fun c2 => ?_)
          · have dc2 := tl_eq ix38 tn_0 c2
            exact ok_some trivial
          · have dc2 := tl_ne ix38 tn_0 c2
            refine ok_ltI (av_mul is6_1 ix4 (by omega) (by omega)) (fun x54 ix54 => ?_)
            refine ok_ltI (av_add i1 ix54 (by omega) (by omega)) (fun x55 ix55 => ?_)
            refine ok_ltI (av_sub ix55 tn_1 (by omega) (by omega)) (fun x56 ix56 => ?_)
            refine ok_dp0 t hq0 ?_
            refine ok_chk (nxi (gl_9 t hq0) ix56 (by omega) (by omega)) ?_
            refine ok_ltA (fun x58 => ?_)
            exact ok_some trivial
        · intro y39 hyy39
          have u_y39 := hyy39
          refine ok_dr (f_r (b := 147) ts6_2 rfl (by decide)) (g_lt ts6_2 (by decide)) (g_k ts6_2 (by decide) rfl) ?_
          refine ok_chk (nxg (g_n (i := 147) (n := 34) ts6_2 (by decide) rfl) ix37 (by omega) (by omega)) ?_
          refine ok_ltt (fun M41 eM41 => ?_)
          have tM41 : TT G M41 p 2 L := by rw [eM41]; exact (tt_w0 ts6_2 rfl)
          have fM41 : Fr p [1] M M41 := by rw [eM41]; exact (fr_w fs6_2 rfl)
          clear eM41
          refine ok_ltI (av_add tn_5 is6_1 (by omega) (by omega)) (fun x42 ix42 => ?_)
          refine ok_ltI (av_bit 1 i2 (by omega) (by decide) (by decide)) (fun x43 ix43 => ?_)
          refine ok_bnd (Q := fun (z : Int32) => True) ?_ ?_
          · refine ok_if (fun c3 => ?_) (fun c3 => ?_)
            · have dc3 := tl_eq ix43 tn_0 c3
              exact ok_some trivial
            · have dc3 := tl_ne ix43 tn_0 c3
              refine ok_ltI (av_sub i1 ix4 (by omega) (by omega)) (fun x49 ix49 => ?_)
              refine ok_ltI (av_add ix49 is6_1 (by omega) (by omega)) (fun x50 ix50 => ?_)
              refine ok_dp0 t hq0 ?_
              refine ok_chk (nxi (gl_9 t hq0) ix50 (by omega) (by omega)) ?_
              refine ok_ltA (fun x52 => ?_)
              exact ok_some trivial
          · intro y44 hyy44
            have u_y44 := hyy44
            refine ok_dr (f_r (b := 147) tM41 rfl (by decide)) (g_lt tM41 (by decide)) (g_k tM41 (by decide) rfl) ?_
            refine ok_chk (nxg (g_n (i := 147) (n := 34) tM41 (by decide) rfl) ix42 (by omega) (by omega)) ?_
            refine ok_ltt (fun M46 eM46 => ?_)
            have tM46 : TT G M46 p 2 L := by rw [eM46]; exact (tt_w0 tM41 rfl)
            have fM46 : Fr p [1] M M46 := by rw [eM46]; exact (fr_w fM41 rfl)
            clear eM46
            refine ok_ltI (av_add is6_1 tn_1 (by omega) (by omega)) (fun x47 ix47 => ?_)
            exact ok_some ⟨⟨(ti_bd ix47 (by omega) (by omega)), tM46, fM46⟩, (mu_up ix47 (by omega) (by omega))⟩
    · exact ⟨(ti_bd tn_0 (by omega) (by omega)), t, (fr_0 p [1] M)⟩
    · exact mu_0 tn_0 (by omega)
    · intro y5 hyy5
      obtain ⟨ly5_1, ty5_2, fy5_2⟩ := hyy5
      have iy5_1 : TI y5.1 y5.1.toInt := rfl
      refine ok_ltI (av_bit 2 i2 (by omega) (by decide) (by decide)) (fun x8 ix8 => ?_)
      refine ok_bnd (Q := fun (z : Int32) => True) ?_ ?_
      · refine ok_if (fun c4 => ?_) (fun c4 => ?_)
        · have dc4 := tl_eq ix8 tn_0 c4
          exact ok_some trivial
        · have dc4 := tl_ne ix8 tn_0 c4
          refine ok_ltI (av_sub i1 ix4 (by omega) (by omega)) (fun x31 ix31 => ?_)
          refine ok_ltI (av_sub ix31 tn_1 (by omega) (by omega)) (fun x32 ix32 => ?_)
          refine ok_dp0 t hq0 ?_
          refine ok_chk (nxi (gl_9 t hq0) ix32 (by omega) (by omega)) ?_
          refine ok_ltA (fun x34 => ?_)
          exact ok_some trivial
      · intro y9 hyy9
        have u_y9 := hyy9
        refine ok_dr (f_r (b := 147) ty5_2 rfl (by decide)) (g_lt ty5_2 (by decide)) (g_k ty5_2 (by decide) rfl) ?_
        refine ok_chk (nxg (g_n (i := 147) (n := 34) ty5_2 (by decide) rfl) tn_4 (by omega) (by omega)) ?_
        refine ok_ltt (fun M11 eM11 => ?_)
        have tM11 : TT G M11 p 2 L := by rw [eM11]; exact (tt_w0 ty5_2 rfl)
        have fM11 : Fr p [1] M M11 := by rw [eM11]; exact (fr_w fy5_2 rfl)
        clear eM11
        refine ok_bnd (Q := fun (z : Int32 × DD) => (4 ≤ z.1.toInt ∧ z.1.toInt ≤ 8) ∧ TT G z.2 p 2 L ∧ Fr p [1] M z.2) (ok_itr (fun (z : Int32 × DD) => (4 ≤ z.1.toInt ∧ z.1.toInt ≤ 8) ∧ TT G z.2 p 2 L ∧ Fr p [1] M z.2) (fun z => (8 - z.1.toInt).toNat) ?_ _ _ ?_ ?_) ?_
        · intro s13 hys13
          obtain ⟨ls13_1, ts13_2, fs13_2⟩ := hys13
          have is13_1 : TI s13.1 s13.1.toInt := rfl
          refine ok_if (fun c5 => ?_) (fun c5 => ?_)
          · have dc5 := tl_le tn_8 is13_1 c5
            exact ok_some ⟨(ti_bd is13_1 (by omega) (by omega)), ts13_2, fs13_2⟩
          · have dc5 := tl_nle tn_8 is13_1 c5
            refine ok_ltI (av_add tn_5 is13_1 (by omega) (by omega)) (fun x17 ix17 => ?_)
            refine ok_ltI (av_bit 3 i2 (by omega) (by decide) (by decide)) (fun x18 ix18 => ?_)
            refine ok_bnd (Q := fun (z : Int32) => True) ?_ ?_
            · refine ok_if (fun c6 => ?_) (fun c6 => ?_)
              · have dc6 := tl_eq ix18 tn_0 c6
                refine ok_dr (f_r (b := 147) ts13_2 rfl (by decide)) (g_lt ts13_2 (by decide)) (g_k ts13_2 (by decide) rfl) ?_
                refine ok_chk (nxg (g_n (i := 147) (n := 34) ts13_2 (by decide) rfl) tn_8 (by omega) (by omega)) ?_
                refine ok_ltA (fun x25 => ?_)
                exact ok_some trivial
              · have dc6 := tl_ne ix18 tn_0 c6
                refine ok_ltI (av_sub i1 ix4 (by omega) (by omega)) (fun x26 ix26 => ?_)
                refine ok_ltI (av_add ix26 is13_1 (by omega) (by omega)) (fun x27 ix27 => ?_)
                refine ok_dp0 t hq0 ?_
                refine ok_chk (nxi (gl_9 t hq0) ix27 (by omega) (by omega)) ?_
                refine ok_ltA (fun x29 => ?_)
                exact ok_some trivial
            · intro y19 hyy19
              have u_y19 := hyy19
              refine ok_dr (f_r (b := 147) ts13_2 rfl (by decide)) (g_lt ts13_2 (by decide)) (g_k ts13_2 (by decide) rfl) ?_
              refine ok_chk (nxg (g_n (i := 147) (n := 34) ts13_2 (by decide) rfl) ix17 (by omega) (by omega)) ?_
              refine ok_ltt (fun M21 eM21 => ?_)
              have tM21 : TT G M21 p 2 L := by rw [eM21]; exact (tt_w0 ts13_2 rfl)
              have fM21 : Fr p [1] M M21 := by rw [eM21]; exact (fr_w fs13_2 rfl)
              clear eM21
              refine ok_ltI (av_add is13_1 tn_1 (by omega) (by omega)) (fun x22 ix22 => ?_)
              exact ok_some ⟨⟨(ti_bd ix22 (by omega) (by omega)), tM21, fM21⟩, (mu_up ix22 (by omega) (by omega))⟩
        · exact ⟨(ti_bd tn_4 (by omega) (by omega)), tM11, fM11⟩
        · exact mu_0 tn_4 (by omega)
        · intro y12 hyy12
          obtain ⟨ly12_1, ty12_2, fy12_2⟩ := hyy12
          have iy12_1 : TI y12.1 y12.1.toInt := rfl
          exact ok_some ⟨ty12_2, fy12_2⟩
theorem s_takeSides {G : GG} {M : DD} {p : Nat} {w : Int} {L : List Nat} (t : TT G M p w L) {p0 : Option Nat} {j0 : Nat} (e0 : p0 = some (p + j0)) (hj0 : j0 = 9 ∨ j0 = 10 ∨ j0 = 11) {n0 : Int} (hn0 : (G.2.2 (p + j0) : Int) = n0) {p1 : Int32} {a1 : Int} (i1 : TI p1 a1) {p2 : Int32} {a2 : Int} (i2 : TI p2 a2) {p3 : Int32} {a3 : Int} (i3 : TI p3 a3) {p4 : Int32} {a4 : Int} (i4 : TI p4 a4) (h0 : 0 ≤ a1) (h1 : a1 + (a3 - 1) * a2 + a3 ≤ n0) (h2 : 0 ≤ a4) (h3 : a4 ≤ 15) (h4 : a2 = 16 ∧ a3 = 16 ∧ n0 = 512 ∨ a2 = 32 ∧ a3 = 16 ∧ n0 = 1024 ∨ a2 = 8 ∧ a3 = 8 ∧ n0 = 128 ∨ a2 = 16 ∧ a3 = 8 ∧ n0 = 256) (h5 : a4 % 2 = 1 → 1 ≤ a1) (h6 : a4 / 2 % 2 = 1 → a2 ≤ a1) (h7 : a4 / 4 % 2 = 1 → a2 + 1 ≤ a1) : OK (FX6_takeSides G M 138 p0 p1 p2 p3 p4) (fun y => TT G y p w L ∧ Fr p [1] M y) := by
  unfold FX6_takeSides
  subst e0
  have hw12 : 1 ≤ w ∧ w ≤ 2 := by rcases tt_w t with h | h <;> omega
  rcases h4 with ⟨rfl, rfl, rfl⟩ | ⟨rfl, rfl, rfl⟩ | ⟨rfl, rfl, rfl⟩ | ⟨rfl, rfl, rfl⟩
  · refine ok_ltI (av_bit 2 i4 (by omega) (by decide) (by decide)) (fun x1 ix1 => ?_)
    refine ok_bnd (Q := fun (z : Int32) => True) ?_ ?_
    · refine ok_if (fun c1 => ?_) (fun c1 => ?_)
      · have dc1 := tl_eq ix1 tn_0 c1
        exact ok_some trivial
      · have dc1 := tl_ne ix1 tn_0 c1
        refine ok_ltI (av_sub i1 i2 (by omega) (by omega)) (fun x37 ix37 => ?_)
        refine ok_ltI (av_sub ix37 tn_1 (by omega) (by omega)) (fun x38 ix38 => ?_)
        refine ok_dr rfl (by have q := (tt_q0b t (tt_p t)); omega) (gk_s t (tt_p t) hj0) ?_
        refine ok_chk (nxi hn0 ix38 (by omega) (by omega)) ?_
        refine ok_ltA (fun x40 => ?_)
        exact ok_some trivial
    · intro y2 hyy2
      have u_y2 := hyy2
      refine ok_dr (f_r (b := 147) t rfl (by decide)) (g_lt t (by decide)) (g_k t (by decide) rfl) ?_
      refine ok_chk (nxg (g_n (i := 147) (n := 34) t (by decide) rfl) tn_0 (by omega) (by omega)) ?_
      refine ok_ltt (fun M4 eM4 => ?_)
      have tM4 : TT G M4 p w L := by rw [eM4]; exact (tt_w0 t rfl)
      have fM4 : Fr p [1] M M4 := by rw [eM4]; exact (fr_w (fr_0 p [1] M) rfl)
      clear eM4
      refine ok_ltI (av_add i3 tn_1 (by omega) (by omega)) (fun x5 ix5 => ?_)
      refine ok_dr (f_r (b := 147) tM4 rfl (by decide)) (g_lt tM4 (by decide)) (g_k tM4 (by decide) rfl) ?_
      refine ok_chk (nxg (g_n (i := 147) (n := 34) tM4 (by decide) rfl) ix5 (by omega) (by omega)) ?_
      refine ok_ltt (fun M7 eM7 => ?_)
      have tM7 : TT G M7 p w L := by rw [eM7]; exact (tt_w0 tM4 rfl)
      have fM7 : Fr p [1] M M7 := by rw [eM7]; exact (fr_w fM4 rfl)
      clear eM7
      have kp3 : p3.toInt = _ := i3
      refine ok_bnd (Q := fun (z : Int32 × DD) => (0 ≤ z.1.toInt ∧ z.1.toInt ≤ p3.toInt) ∧ TT G z.2 p w L ∧ Fr p [1] M z.2) (ok_itr (fun (z : Int32 × DD) => (0 ≤ z.1.toInt ∧ z.1.toInt ≤ p3.toInt) ∧ TT G z.2 p w L ∧ Fr p [1] M z.2) (fun z => (p3.toInt - z.1.toInt).toNat) ?_ _ _ ?_ ?_) ?_
      · intro s9 hys9
        obtain ⟨ls9_1, ts9_2, fs9_2⟩ := hys9
        have is9_1 : TI s9.1 s9.1.toInt := rfl
        refine ok_if (fun c2 => ?_) (fun c2 => ?_)
        · have dc2 := tl_le i3 is9_1 c2
          exact ok_some ⟨(ti_bd is9_1 (by omega) (by omega)), ts9_2, fs9_2⟩
        · have dc2 := tl_nle i3 is9_1 c2
          refine ok_ltI (av_add tn_1 is9_1 (by omega) (by omega)) (fun x13 ix13 => ?_)
          refine ok_ltI (av_bit 1 i4 (by omega) (by decide) (by decide)) (fun x14 ix14 => ?_)
          refine ok_bnd (Q := fun (z : Int32) => True) ?_ ?_
          · refine ok_if (fun c3 => ?_) (fun c3 => ?_)
            · have dc3 := tl_eq ix14 tn_0 c3
              exact ok_some trivial
            · have dc3 := tl_ne ix14 tn_0 c3
              refine ok_ltI (av_sub i1 i2 (by omega) (by omega)) (fun x32 ix32 => ?_)
              refine ok_ltI (av_add ix32 is9_1 (by omega) (by omega)) (fun x33 ix33 => ?_)
              refine ok_dr rfl (by have q := (tt_q0b ts9_2 (tt_p ts9_2)); omega) (gk_s ts9_2 (tt_p ts9_2) hj0) ?_
              refine ok_chk (nxi hn0 ix33 (by omega) (by omega)) ?_
              refine ok_ltA (fun x35 => ?_)
              exact ok_some trivial
          · intro y15 hyy15
            have u_y15 := hyy15
            refine ok_dr (f_r (b := 147) ts9_2 rfl (by decide)) (g_lt ts9_2 (by decide)) (g_k ts9_2 (by decide) rfl) ?_
            refine ok_chk (nxg (g_n (i := 147) (n := 34) ts9_2 (by decide) rfl) ix13 (by omega) (by omega)) ?_
            refine ok_ltt (fun M17 eM17 => ?_)
            have tM17 : TT G M17 p w L := by rw [eM17]; exact (tt_w0 ts9_2 rfl)
            have fM17 : Fr p [1] M M17 := by rw [eM17]; exact (fr_w fs9_2 rfl)
            clear eM17
            refine ok_ltI (av_add i3 tn_2 (by omega) (by omega)) (fun x18 ix18 => ?_)
            refine ok_ltI (av_add ix18 is9_1 (by omega) (by omega)) (fun x19 ix19 => ?_)
            refine ok_ltI (av_and 1 i4 (by decide) (by decide)) (fun x20 ix20 => ?_)
            refine ok_bnd (Q := fun (z : Int32) => True) ?_ ?_
            · refine ok_if (fun c4 => ?_) (fun c4 => ?_)
              · have dc4 := tl_eq ix20 tn_0 c4
                exact ok_some trivial
              · have dc4 := tl_ne ix20 tn_0 c4
                refine ok_ltI (av_mul is9_1 i2 (by omega) (by omega)) (fun x26 ix26 => ?_)
                refine ok_ltI (av_add i1 ix26 (by omega) (by omega)) (fun x27 ix27 => ?_)
                refine ok_ltI (av_sub ix27 tn_1 (by omega) (by omega)) (fun x28 ix28 => ?_)
                refine ok_dr rfl (by have q := (tt_q0b tM17 (tt_p tM17)); omega) (gk_s tM17 (tt_p tM17) hj0) ?_
                refine ok_chk (nxi hn0 ix28 (by omega) (by omega)) ?_
                refine ok_ltA (fun x30 => ?_)
                exact ok_some trivial
            · intro y21 hyy21
              have u_y21 := hyy21
              refine ok_dr (f_r (b := 147) tM17 rfl (by decide)) (g_lt tM17 (by decide)) (g_k tM17 (by decide) rfl) ?_
              refine ok_chk (nxg (g_n (i := 147) (n := 34) tM17 (by decide) rfl) ix19 (by omega) (by omega)) ?_
              refine ok_ltt (fun M23 eM23 => ?_)
              have tM23 : TT G M23 p w L := by rw [eM23]; exact (tt_w0 tM17 rfl)
              have fM23 : Fr p [1] M M23 := by rw [eM23]; exact (fr_w fM17 rfl)
              clear eM23
              refine ok_ltI (av_add is9_1 tn_1 (by omega) (by omega)) (fun x24 ix24 => ?_)
              exact ok_some ⟨⟨(ti_bd ix24 (by omega) (by omega)), tM23, fM23⟩, (mu_up ix24 (by omega) (by omega))⟩
      · exact ⟨(ti_bd tn_0 (by omega) (by omega)), tM7, fM7⟩
      · exact mu_0 tn_0 (by omega)
      · intro y8 hyy8
        obtain ⟨ly8_1, ty8_2, fy8_2⟩ := hyy8
        have iy8_1 : TI y8.1 y8.1.toInt := rfl
        exact ok_some ⟨ty8_2, fy8_2⟩
  · refine ok_ltI (av_bit 2 i4 (by omega) (by decide) (by decide)) (fun x1 ix1 => ?_)
    refine ok_bnd (Q := fun (z : Int32) => True) ?_ ?_
    · refine ok_if (fun c1 => ?_) (fun c1 => ?_)
      · have dc1 := tl_eq ix1 tn_0 c1
        exact ok_some trivial
      · have dc1 := tl_ne ix1 tn_0 c1
        refine ok_ltI (av_sub i1 i2 (by omega) (by omega)) (fun x37 ix37 => ?_)
        refine ok_ltI (av_sub ix37 tn_1 (by omega) (by omega)) (fun x38 ix38 => ?_)
        refine ok_dr rfl (by have q := (tt_q0b t (tt_p t)); omega) (gk_s t (tt_p t) hj0) ?_
        refine ok_chk (nxi hn0 ix38 (by omega) (by omega)) ?_
        refine ok_ltA (fun x40 => ?_)
        exact ok_some trivial
    · intro y2 hyy2
      have u_y2 := hyy2
      refine ok_dr (f_r (b := 147) t rfl (by decide)) (g_lt t (by decide)) (g_k t (by decide) rfl) ?_
      refine ok_chk (nxg (g_n (i := 147) (n := 34) t (by decide) rfl) tn_0 (by omega) (by omega)) ?_
      refine ok_ltt (fun M4 eM4 => ?_)
      have tM4 : TT G M4 p w L := by rw [eM4]; exact (tt_w0 t rfl)
      have fM4 : Fr p [1] M M4 := by rw [eM4]; exact (fr_w (fr_0 p [1] M) rfl)
      clear eM4
      refine ok_ltI (av_add i3 tn_1 (by omega) (by omega)) (fun x5 ix5 => ?_)
      refine ok_dr (f_r (b := 147) tM4 rfl (by decide)) (g_lt tM4 (by decide)) (g_k tM4 (by decide) rfl) ?_
      refine ok_chk (nxg (g_n (i := 147) (n := 34) tM4 (by decide) rfl) ix5 (by omega) (by omega)) ?_
      refine ok_ltt (fun M7 eM7 => ?_)
      have tM7 : TT G M7 p w L := by rw [eM7]; exact (tt_w0 tM4 rfl)
      have fM7 : Fr p [1] M M7 := by rw [eM7]; exact (fr_w fM4 rfl)
      clear eM7
      have kp3 : p3.toInt = _ := i3
      refine ok_bnd (Q := fun (z : Int32 × DD) => (0 ≤ z.1.toInt ∧ z.1.toInt ≤ p3.toInt) ∧ TT G z.2 p w L ∧ Fr p [1] M z.2) (ok_itr (fun (z : Int32 × DD) => (0 ≤ z.1.toInt ∧ z.1.toInt ≤ p3.toInt) ∧ TT G z.2 p w L ∧ Fr p [1] M z.2) (fun z => (p3.toInt - z.1.toInt).toNat) ?_ _ _ ?_ ?_) ?_
      · intro s9 hys9
        obtain ⟨ls9_1, ts9_2, fs9_2⟩ := hys9
        have is9_1 : TI s9.1 s9.1.toInt := rfl
        refine ok_if (fun c2 => ?_) (fun c2 => ?_)
        · have dc2 := tl_le i3 is9_1 c2
          exact ok_some ⟨(ti_bd is9_1 (by omega) (by omega)), ts9_2, fs9_2⟩
        · have dc2 := tl_nle i3 is9_1 c2
          refine ok_ltI (av_add tn_1 is9_1 (by omega) (by omega)) (fun x13 ix13 => ?_)
          refine ok_ltI (av_bit 1 i4 (by omega) (by decide) (by decide)) (fun x14 ix14 => ?_)
          refine ok_bnd (Q := fun (z : Int32) => True) ?_ ?_
          · refine ok_if (fun c3 => ?_) (fun c3 => ?_)
            · have dc3 := tl_eq ix14 tn_0 c3
              exact ok_some trivial
            · have dc3 := tl_ne ix14 tn_0 c3
              refine ok_ltI (av_sub i1 i2 (by omega) (by omega)) (fun x32 ix32 => ?_)
              refine ok_ltI (av_add ix32 is9_1 (by omega) (by omega)) (fun x33 ix33 => ?_)
              refine ok_dr rfl (by have q := (tt_q0b ts9_2 (tt_p ts9_2)); omega) (gk_s ts9_2 (tt_p ts9_2) hj0) ?_
              refine ok_chk (nxi hn0 ix33 (by omega) (by omega)) ?_
              refine ok_ltA (fun x35 => ?_)
              exact ok_some trivial
          · intro y15 hyy15
            have u_y15 := hyy15
            refine ok_dr (f_r (b := 147) ts9_2 rfl (by decide)) (g_lt ts9_2 (by decide)) (g_k ts9_2 (by decide) rfl) ?_
            refine ok_chk (nxg (g_n (i := 147) (n := 34) ts9_2 (by decide) rfl) ix13 (by omega) (by omega)) ?_
            refine ok_ltt (fun M17 eM17 => ?_)
            have tM17 : TT G M17 p w L := by rw [eM17]; exact (tt_w0 ts9_2 rfl)
            have fM17 : Fr p [1] M M17 := by rw [eM17]; exact (fr_w fs9_2 rfl)
            clear eM17
            refine ok_ltI (av_add i3 tn_2 (by omega) (by omega)) (fun x18 ix18 => ?_)
            refine ok_ltI (av_add ix18 is9_1 (by omega) (by omega)) (fun x19 ix19 => ?_)
            refine ok_ltI (av_and 1 i4 (by decide) (by decide)) (fun x20 ix20 => ?_)
            refine ok_bnd (Q := fun (z : Int32) => True) ?_ ?_
            · refine ok_if (fun c4 => ?_) (fun c4 => ?_)
              · have dc4 := tl_eq ix20 tn_0 c4
                exact ok_some trivial
              · have dc4 := tl_ne ix20 tn_0 c4
                refine ok_ltI (av_mul is9_1 i2 (by omega) (by omega)) (fun x26 ix26 => ?_)
                refine ok_ltI (av_add i1 ix26 (by omega) (by omega)) (fun x27 ix27 => ?_)
                refine ok_ltI (av_sub ix27 tn_1 (by omega) (by omega)) (fun x28 ix28 => ?_)
                refine ok_dr rfl (by have q := (tt_q0b tM17 (tt_p tM17)); omega) (gk_s tM17 (tt_p tM17) hj0) ?_
                refine ok_chk (nxi hn0 ix28 (by omega) (by omega)) ?_
                refine ok_ltA (fun x30 => ?_)
                exact ok_some trivial
            · intro y21 hyy21
              have u_y21 := hyy21
              refine ok_dr (f_r (b := 147) tM17 rfl (by decide)) (g_lt tM17 (by decide)) (g_k tM17 (by decide) rfl) ?_
              refine ok_chk (nxg (g_n (i := 147) (n := 34) tM17 (by decide) rfl) ix19 (by omega) (by omega)) ?_
              refine ok_ltt (fun M23 eM23 => ?_)
              have tM23 : TT G M23 p w L := by rw [eM23]; exact (tt_w0 tM17 rfl)
              have fM23 : Fr p [1] M M23 := by rw [eM23]; exact (fr_w fM17 rfl)
              clear eM23
              refine ok_ltI (av_add is9_1 tn_1 (by omega) (by omega)) (fun x24 ix24 => ?_)
              exact ok_some ⟨⟨(ti_bd ix24 (by omega) (by omega)), tM23, fM23⟩, (mu_up ix24 (by omega) (by omega))⟩
      · exact ⟨(ti_bd tn_0 (by omega) (by omega)), tM7, fM7⟩
      · exact mu_0 tn_0 (by omega)
      · intro y8 hyy8
        obtain ⟨ly8_1, ty8_2, fy8_2⟩ := hyy8
        have iy8_1 : TI y8.1 y8.1.toInt := rfl
        exact ok_some ⟨ty8_2, fy8_2⟩
  · refine ok_ltI (av_bit 2 i4 (by omega) (by decide) (by decide)) (fun x1 ix1 => ?_)
    refine ok_bnd (Q := fun (z : Int32) => True) ?_ ?_
    · refine ok_if (fun c1 => ?_) (fun c1 => ?_)
      · have dc1 := tl_eq ix1 tn_0 c1
        exact ok_some trivial
      · have dc1 := tl_ne ix1 tn_0 c1
        refine ok_ltI (av_sub i1 i2 (by omega) (by omega)) (fun x37 ix37 => ?_)
        refine ok_ltI (av_sub ix37 tn_1 (by omega) (by omega)) (fun x38 ix38 => ?_)
        refine ok_dr rfl (by have q := (tt_q0b t (tt_p t)); omega) (gk_s t (tt_p t) hj0) ?_
        refine ok_chk (nxi hn0 ix38 (by omega) (by omega)) ?_
        refine ok_ltA (fun x40 => ?_)
        exact ok_some trivial
    · intro y2 hyy2
      have u_y2 := hyy2
      refine ok_dr (f_r (b := 147) t rfl (by decide)) (g_lt t (by decide)) (g_k t (by decide) rfl) ?_
      refine ok_chk (nxg (g_n (i := 147) (n := 34) t (by decide) rfl) tn_0 (by omega) (by omega)) ?_
      refine ok_ltt (fun M4 eM4 => ?_)
      have tM4 : TT G M4 p w L := by rw [eM4]; exact (tt_w0 t rfl)
      have fM4 : Fr p [1] M M4 := by rw [eM4]; exact (fr_w (fr_0 p [1] M) rfl)
      clear eM4
      refine ok_ltI (av_add i3 tn_1 (by omega) (by omega)) (fun x5 ix5 => ?_)
      refine ok_dr (f_r (b := 147) tM4 rfl (by decide)) (g_lt tM4 (by decide)) (g_k tM4 (by decide) rfl) ?_
      refine ok_chk (nxg (g_n (i := 147) (n := 34) tM4 (by decide) rfl) ix5 (by omega) (by omega)) ?_
      refine ok_ltt (fun M7 eM7 => ?_)
      have tM7 : TT G M7 p w L := by rw [eM7]; exact (tt_w0 tM4 rfl)
      have fM7 : Fr p [1] M M7 := by rw [eM7]; exact (fr_w fM4 rfl)
      clear eM7
      have kp3 : p3.toInt = _ := i3
      refine ok_bnd (Q := fun (z : Int32 × DD) => (0 ≤ z.1.toInt ∧ z.1.toInt ≤ p3.toInt) ∧ TT G z.2 p w L ∧ Fr p [1] M z.2) (ok_itr (fun (z : Int32 × DD) => (0 ≤ z.1.toInt ∧ z.1.toInt ≤ p3.toInt) ∧ TT G z.2 p w L ∧ Fr p [1] M z.2) (fun z => (p3.toInt - z.1.toInt).toNat) ?_ _ _ ?_ ?_) ?_
      · intro s9 hys9
        obtain ⟨ls9_1, ts9_2, fs9_2⟩ := hys9
        have is9_1 : TI s9.1 s9.1.toInt := rfl
        refine ok_if (fun c2 => ?_) (fun c2 => ?_)
        · have dc2 := tl_le i3 is9_1 c2
          exact ok_some ⟨(ti_bd is9_1 (by omega) (by omega)), ts9_2, fs9_2⟩
        · have dc2 := tl_nle i3 is9_1 c2
          refine ok_ltI (av_add tn_1 is9_1 (by omega) (by omega)) (fun x13 ix13 => ?_)
          refine ok_ltI (av_bit 1 i4 (by omega) (by decide) (by decide)) (fun x14 ix14 => ?_)
          refine ok_bnd (Q := fun (z : Int32) => True) ?_ ?_
          · refine ok_if (fun c3 => ?_) (fun c3 => ?_)
            · have dc3 := tl_eq ix14 tn_0 c3
              exact ok_some trivial
            · have dc3 := tl_ne ix14 tn_0 c3
              refine ok_ltI (av_sub i1 i2 (by omega) (by omega)) (fun x32 ix32 => ?_)
              refine ok_ltI (av_add ix32 is9_1 (by omega) (by omega)) (fun x33 ix33 => ?_)
              refine ok_dr rfl (by have q := (tt_q0b ts9_2 (tt_p ts9_2)); omega) (gk_s ts9_2 (tt_p ts9_2) hj0) ?_
              refine ok_chk (nxi hn0 ix33 (by omega) (by omega)) ?_
              refine ok_ltA (fun x35 => ?_)
              exact ok_some trivial
          · intro y15 hyy15
            have u_y15 := hyy15
            refine ok_dr (f_r (b := 147) ts9_2 rfl (by decide)) (g_lt ts9_2 (by decide)) (g_k ts9_2 (by decide) rfl) ?_
            refine ok_chk (nxg (g_n (i := 147) (n := 34) ts9_2 (by decide) rfl) ix13 (by omega) (by omega)) ?_
            refine ok_ltt (fun M17 eM17 => ?_)
            have tM17 : TT G M17 p w L := by rw [eM17]; exact (tt_w0 ts9_2 rfl)
            have fM17 : Fr p [1] M M17 := by rw [eM17]; exact (fr_w fs9_2 rfl)
            clear eM17
            refine ok_ltI (av_add i3 tn_2 (by omega) (by omega)) (fun x18 ix18 => ?_)
            refine ok_ltI (av_add ix18 is9_1 (by omega) (by omega)) (fun x19 ix19 => ?_)
            refine ok_ltI (av_and 1 i4 (by decide) (by decide)) (fun x20 ix20 => ?_)
            refine ok_bnd (Q := fun (z : Int32) => True) ?_ ?_
            · refine ok_if (fun c4 => ?_) (fun c4 => ?_)
              · have dc4 := tl_eq ix20 tn_0 c4
                exact ok_some trivial
              · have dc4 := tl_ne ix20 tn_0 c4
                refine ok_ltI (av_mul is9_1 i2 (by omega) (by omega)) (fun x26 ix26 => ?_)
                refine ok_ltI (av_add i1 ix26 (by omega) (by omega)) (fun x27 ix27 => ?_)
                refine ok_ltI (av_sub ix27 tn_1 (by omega) (by omega)) (fun x28 ix28 => ?_)
                refine ok_dr rfl (by have q := (tt_q0b tM17 (tt_p tM17)); omega) (gk_s tM17 (tt_p tM17) hj0) ?_
                refine ok_chk (nxi hn0 ix28 (by omega) (by omega)) ?_
                refine ok_ltA (fun x30 => ?_)
                exact ok_some trivial
            · intro y21 hyy21
              have u_y21 := hyy21
              refine ok_dr (f_r (b := 147) tM17 rfl (by decide)) (g_lt tM17 (by decide)) (g_k tM17 (by decide) rfl) ?_
              refine ok_chk (nxg (g_n (i := 147) (n := 34) tM17 (by decide) rfl) ix19 (by omega) (by omega)) ?_
              refine ok_ltt (fun M23 eM23 => ?_)
              have tM23 : TT G M23 p w L := by rw [eM23]; exact (tt_w0 tM17 rfl)
              have fM23 : Fr p [1] M M23 := by rw [eM23]; exact (fr_w fM17 rfl)
              clear eM23
              refine ok_ltI (av_add is9_1 tn_1 (by omega) (by omega)) (fun x24 ix24 => ?_)
              exact ok_some ⟨⟨(ti_bd ix24 (by omega) (by omega)), tM23, fM23⟩, (mu_up ix24 (by omega) (by omega))⟩
      · exact ⟨(ti_bd tn_0 (by omega) (by omega)), tM7, fM7⟩
      · exact mu_0 tn_0 (by omega)
      · intro y8 hyy8
        obtain ⟨ly8_1, ty8_2, fy8_2⟩ := hyy8
        have iy8_1 : TI y8.1 y8.1.toInt := rfl
        exact ok_some ⟨ty8_2, fy8_2⟩
  · refine ok_ltI (av_bit 2 i4 (by omega) (by decide) (by decide)) (fun x1 ix1 => ?_)
    refine ok_bnd (Q := fun (z : Int32) => True) ?_ ?_
    · refine ok_if (fun c1 => ?_) (fun c1 => ?_)
      · have dc1 := tl_eq ix1 tn_0 c1
        exact ok_some trivial
      · have dc1 := tl_ne ix1 tn_0 c1
        refine ok_ltI (av_sub i1 i2 (by omega) (by omega)) (fun x37 ix37 => ?_)
        refine ok_ltI (av_sub ix37 tn_1 (by omega) (by omega)) (fun x38 ix38 => ?_)
        refine ok_dr rfl (by have q := (tt_q0b t (tt_p t)); omega) (gk_s t (tt_p t) hj0) ?_
        refine ok_chk (nxi hn0 ix38 (by omega) (by omega)) ?_
        refine ok_ltA (fun x40 => ?_)
        exact ok_some trivial
    · intro y2 hyy2
      have u_y2 := hyy2
      refine ok_dr (f_r (b := 147) t rfl (by decide)) (g_lt t (by decide)) (g_k t (by decide) rfl) ?_
      refine ok_chk (nxg (g_n (i := 147) (n := 34) t (by decide) rfl) tn_0 (by omega) (by omega)) ?_
      refine ok_ltt (fun M4 eM4 => ?_)
      have tM4 : TT G M4 p w L := by rw [eM4]; exact (tt_w0 t rfl)
      have fM4 : Fr p [1] M M4 := by rw [eM4]; exact (fr_w (fr_0 p [1] M) rfl)
      clear eM4
      refine ok_ltI (av_add i3 tn_1 (by omega) (by omega)) (fun x5 ix5 => ?_)
      refine ok_dr (f_r (b := 147) tM4 rfl (by decide)) (g_lt tM4 (by decide)) (g_k tM4 (by decide) rfl) ?_
      refine ok_chk (nxg (g_n (i := 147) (n := 34) tM4 (by decide) rfl) ix5 (by omega) (by omega)) ?_
      refine ok_ltt (fun M7 eM7 => ?_)
      have tM7 : TT G M7 p w L := by rw [eM7]; exact (tt_w0 tM4 rfl)
      have fM7 : Fr p [1] M M7 := by rw [eM7]; exact (fr_w fM4 rfl)
      clear eM7
      have kp3 : p3.toInt = _ := i3
      refine ok_bnd (Q := fun (z : Int32 × DD) => (0 ≤ z.1.toInt ∧ z.1.toInt ≤ p3.toInt) ∧ TT G z.2 p w L ∧ Fr p [1] M z.2) (ok_itr (fun (z : Int32 × DD) => (0 ≤ z.1.toInt ∧ z.1.toInt ≤ p3.toInt) ∧ TT G z.2 p w L ∧ Fr p [1] M z.2) (fun z => (p3.toInt - z.1.toInt).toNat) ?_ _ _ ?_ ?_) ?_
      · intro s9 hys9
        obtain ⟨ls9_1, ts9_2, fs9_2⟩ := hys9
        have is9_1 : TI s9.1 s9.1.toInt := rfl
        refine ok_if (fun c2 => ?_) (fun c2 => ?_)
        · have dc2 := tl_le i3 is9_1 c2
          exact ok_some ⟨(ti_bd is9_1 (by omega) (by omega)), ts9_2, fs9_2⟩
        · have dc2 := tl_nle i3 is9_1 c2
          refine ok_ltI (av_add tn_1 is9_1 (by omega) (by omega)) (fun x13 ix13 => ?_)
          refine ok_ltI (av_bit 1 i4 (by omega) (by decide) (by decide)) (fun x14 ix14 => ?_)
          refine ok_bnd (Q := fun (z : Int32) => True) ?_ ?_
          · refine ok_if (fun c3 => ?_) (fun c3 => ?_)
            · have dc3 := tl_eq ix14 tn_0 c3
              exact ok_some trivial
            · have dc3 := tl_ne ix14 tn_0 c3
              refine ok_ltI (av_sub i1 i2 (by omega) (by omega)) (fun x32 ix32 => ?_)
              refine ok_ltI (av_add ix32 is9_1 (by omega) (by omega)) (fun x33 ix33 => ?_)
              refine ok_dr rfl (by have q := (tt_q0b ts9_2 (tt_p ts9_2)); omega) (gk_s ts9_2 (tt_p ts9_2) hj0) ?_
              refine ok_chk (nxi hn0 ix33 (by omega) (by omega)) ?_
              refine ok_ltA (fun x35 => ?_)
              exact ok_some trivial
          · intro y15 hyy15
            have u_y15 := hyy15
            refine ok_dr (f_r (b := 147) ts9_2 rfl (by decide)) (g_lt ts9_2 (by decide)) (g_k ts9_2 (by decide) rfl) ?_
            refine ok_chk (nxg (g_n (i := 147) (n := 34) ts9_2 (by decide) rfl) ix13 (by omega) (by omega)) ?_
            refine ok_ltt (fun M17 eM17 => ?_)
            have tM17 : TT G M17 p w L := by rw [eM17]; exact (tt_w0 ts9_2 rfl)
            have fM17 : Fr p [1] M M17 := by rw [eM17]; exact (fr_w fs9_2 rfl)
            clear eM17
            refine ok_ltI (av_add i3 tn_2 (by omega) (by omega)) (fun x18 ix18 => ?_)
            refine ok_ltI (av_add ix18 is9_1 (by omega) (by omega)) (fun x19 ix19 => ?_)
            refine ok_ltI (av_and 1 i4 (by decide) (by decide)) (fun x20 ix20 => ?_)
            refine ok_bnd (Q := fun (z : Int32) => True) ?_ ?_
            · refine ok_if (fun c4 => ?_) (fun c4 => ?_)
              · have dc4 := tl_eq ix20 tn_0 c4
                exact ok_some trivial
              · have dc4 := tl_ne ix20 tn_0 c4
                refine ok_ltI (av_mul is9_1 i2 (by omega) (by omega)) (fun x26 ix26 => ?_)
                refine ok_ltI (av_add i1 ix26 (by omega) (by omega)) (fun x27 ix27 => ?_)
                refine ok_ltI (av_sub ix27 tn_1 (by omega) (by omega)) (fun x28 ix28 => ?_)
                refine ok_dr rfl (by have q := (tt_q0b tM17 (tt_p tM17)); omega) (gk_s tM17 (tt_p tM17) hj0) ?_
                refine ok_chk (nxi hn0 ix28 (by omega) (by omega)) ?_
                refine ok_ltA (fun x30 => ?_)
                exact ok_some trivial
            · intro y21 hyy21
              have u_y21 := hyy21
              refine ok_dr (f_r (b := 147) tM17 rfl (by decide)) (g_lt tM17 (by decide)) (g_k tM17 (by decide) rfl) ?_
              refine ok_chk (nxg (g_n (i := 147) (n := 34) tM17 (by decide) rfl) ix19 (by omega) (by omega)) ?_
              refine ok_ltt (fun M23 eM23 => ?_)
              have tM23 : TT G M23 p w L := by rw [eM23]; exact (tt_w0 tM17 rfl)
              have fM23 : Fr p [1] M M23 := by rw [eM23]; exact (fr_w fM17 rfl)
              clear eM23
              refine ok_ltI (av_add is9_1 tn_1 (by omega) (by omega)) (fun x24 ix24 => ?_)
              exact ok_some ⟨⟨(ti_bd ix24 (by omega) (by omega)), tM23, fM23⟩, (mu_up ix24 (by omega) (by omega))⟩
      · exact ⟨(ti_bd tn_0 (by omega) (by omega)), tM7, fM7⟩
      · exact mu_0 tn_0 (by omega)
      · intro y8 hyy8
        obtain ⟨ly8_1, ty8_2, fy8_2⟩ := hyy8
        have iy8_1 : TI y8.1 y8.1.toInt := rfl
        exact ok_some ⟨ty8_2, fy8_2⟩
theorem s_fillPlane {G : GG} {M : DD} {p : Nat} {w : Int} {L : List Nat} (t : TT G M p w L) {p0 : Int32} {a0 : Int} (i0 : TI p0 a0) {p1 : Int32} {a1 : Int} (i1 : TI p1 a1) {p2 : Int32} (h0 : 0 ≤ a0) (h1 : a1 = 8 ∧ a0 + 64 ≤ 384 ∨ a1 = 16 ∧ a0 + 256 ≤ 384) : OK (FX6_fillPlane G M 138 p0 p1 p2) (fun y => TT G y p w L ∧ Fr p [1] M y) := by
  unfold FX6_fillPlane
  have hw12 : 1 ≤ w ∧ w ≤ 2 := by rcases tt_w t with h | h <;> omega
  rcases h1 with ⟨rfl, h1⟩ | ⟨rfl, h1⟩
  · refine ok_ltI (av_div i1 tn_2 (by omega) (by omega)) (fun x1 ix1 => ?_)
    refine ok_bnd (Q := fun (z : Int32 × Int32 × Int32) => True ∧ True ∧ (1 ≤ z.2.2.toInt ∧ z.2.2.toInt ≤ (8 / 2 + 1))) (ok_itr (fun (z : Int32 × Int32 × Int32) => True ∧ True ∧ (1 ≤ z.2.2.toInt ∧ z.2.2.toInt ≤ (8 / 2 + 1))) (fun z => ((8 / 2 + 1) - z.2.2.toInt).toNat) ?_ _ _ ?_ ?_) ?_
    · intro s3 hys3
      obtain ⟨_, _, ls3_2_2⟩ := hys3
      have is3_2_2 : TI s3.2.2 s3.2.2.toInt := rfl
      refine ok_if (fun c1 => ?_) (fun c1 => ?_)
      · have dc1 := tl_lt ix1 is3_2_2 c1
        exact ok_some ⟨trivial, trivial, (ti_bd is3_2_2 (by omega) (by omega))⟩
      · have dc1 := tl_nlt ix1 is3_2_2 c1
        refine ok_ltI (av_add ix1 is3_2_2 (by omega) (by omega)) (fun x46 ix46 => ?_)
        refine ok_dr (f_r (b := 147) t rfl (by decide)) (g_lt t (by decide)) (g_k t (by decide) rfl) ?_
        refine ok_chk (nxg (g_n (i := 147) (n := 34) t (by decide) rfl) ix46 (by omega) (by omega)) ?_
        refine ok_ltA (fun x48 => ?_)
        refine ok_ltI (av_sub ix1 is3_2_2 (by omega) (by omega)) (fun x49 ix49 => ?_)
        refine ok_chk (nxg (g_n (i := 147) (n := 34) t (by decide) rfl) ix49 (by omega) (by omega)) ?_
        refine ok_ltA (fun x50 => ?_)
        refine ok_ltA (fun x51 => ?_)
        refine ok_ltA (fun x52 => ?_)
        refine ok_ltA (fun x53 => ?_)
        refine ok_ltI (av_add i1 tn_1 (by omega) (by omega)) (fun x54 ix54 => ?_)
        refine ok_ltI (av_add ix54 ix1 (by omega) (by omega)) (fun x55 ix55 => ?_)
        refine ok_ltI (av_add ix55 is3_2_2 (by omega) (by omega)) (fun x56 ix56 => ?_)
        refine ok_chk (nxg (g_n (i := 147) (n := 34) t (by decide) rfl) ix56 (by omega) (by omega)) ?_
        refine ok_ltA (fun x57 => ?_)
        refine ok_ltI (av_add i1 tn_1 (by omega) (by omega)) (fun x58 ix58 => ?_)
        refine ok_ltI (av_add ix58 ix1 (by omega) (by omega)) (fun x59 ix59 => ?_)
        refine ok_ltI (av_sub ix59 is3_2_2 (by omega) (by omega)) (fun x60 ix60 => ?_)
        refine ok_chk (nxg (g_n (i := 147) (n := 34) t (by decide) rfl) ix60 (by omega) (by omega)) ?_
        refine ok_ltA (fun x61 => ?_)
        refine ok_ltA (fun x62 => ?_)
        refine ok_ltA (fun x63 => ?_)
        refine ok_ltA (fun x64 => ?_)
        refine ok_ltI (av_add is3_2_2 tn_1 (by omega) (by omega)) (fun x65 ix65 => ?_)
        exact ok_some ⟨⟨trivial, trivial, (ti_bd ix65 (by omega) (by omega))⟩, (mu_up ix65 (by omega) (by omega))⟩
    · exact ⟨trivial, trivial, (ti_bd tn_1 (by omega) (by omega))⟩
    · exact mu_0 tn_1 (by omega)
    · intro y2 hyy2
      obtain ⟨_, _, ly2_2_2⟩ := hyy2
      have iy2_2_2 : TI y2.2.2 y2.2.2.toInt := rfl
      refine ok_ltA (fun x5 => ?_)
      refine ok_ltA (fun x6 => ?_)
      refine ok_ltA (fun x7 => ?_)
      refine ok_ltA (fun x8 => ?_)
      refine ok_ltA (fun x9 => ?_)
      refine ok_ltA (fun x10 => ?_)
      refine ok_dr (f_r (b := 147) t rfl (by decide)) (g_lt t (by decide)) (g_k t (by decide) rfl) ?_
      refine ok_chk (nxg (g_n (i := 147) (n := 34) t (by decide) rfl) i1 (by omega) (by omega)) ?_
      refine ok_ltA (fun x12 => ?_)
      refine ok_ltI (av_mul tn_2 i1 (by omega) (by omega)) (fun x13 ix13 => ?_)
      refine ok_ltI (av_add ix13 tn_1 (by omega) (by omega)) (fun x14 ix14 => ?_)
      refine ok_chk (nxg (g_n (i := 147) (n := 34) t (by decide) rfl) ix14 (by omega) (by omega)) ?_
      refine ok_ltA (fun x15 => ?_)
      refine ok_ltA (fun x16 => ?_)
      refine ok_ltA (fun x17 => ?_)
      refine ok_bnd (Q := fun (z : Int32 × DD) => (0 ≤ z.1.toInt ∧ z.1.toInt ≤ (8 * 8)) ∧ TT G z.2 p w L ∧ Fr p [1] M z.2) (ok_itr (fun (z : Int32 × DD) => (0 ≤ z.1.toInt ∧ z.1.toInt ≤ (8 * 8)) ∧ TT G z.2 p w L ∧ Fr p [1] M z.2) (fun z => ((8 * 8) - z.1.toInt).toNat) ?_ _ _ ?_ ?_) ?_
      · intro s19 hys19
        obtain ⟨ls19_1, ts19_2, fs19_2⟩ := hys19
        have is19_1 : TI s19.1 s19.1.toInt := rfl
        refine ok_ltI (av_mul i1 i1 (by omega) (by omega)) (fun x22 ix22 => ?_)
        refine ok_if (fun c2 => ?_) (fun c2 => ?_)
        · have dc2 := tl_le ix22 is19_1 c2
          exact ok_some ⟨(ti_bd is19_1 (by omega) (by omega)), ts19_2, fs19_2⟩
        · have dc2 := tl_nle ix22 is19_1 c2
          refine ok_chk (nz i1 (by omega)) ?_
          refine ok_ltI (av_mod is19_1 i1 (by omega) (by omega)) (fun x24 ix24 => ?_)
          refine ok_ltI (av_sub ix24 ix1 (by omega) (by omega)) (fun x25 ix25 => ?_)
          refine ok_ltI (av_add ix25 tn_1 (by omega) (by omega)) (fun x26 ix26 => ?_)
          refine ok_chk (nz i1 (by omega)) ?_
          refine ok_ltI (av_div is19_1 i1 (by omega) (by omega)) (fun x27 ix27 => ?_)
          refine ok_ltI (av_sub ix27 ix1 (by omega) (by omega)) (fun x28 ix28 => ?_)
          refine ok_ltI (av_add ix28 tn_1 (by omega) (by omega)) (fun x29 ix29 => ?_)
          refine ok_ltA (fun x30 => ?_)
          refine ok_ltA (fun x31 => ?_)
          refine ok_ltA (fun x32 => ?_)
          refine ok_ltA (fun x33 => ?_)
          refine ok_ltA (fun x34 => ?_)
          refine ok_ltA (fun x35 => ?_)
          refine ok_ltI (av_add i0 is19_1 (by omega) (by omega)) (fun x36 ix36 => ?_)
          refine ok_bnd (Q := fun (z : Int32) => (0 ≤ z.toInt ∧ z.toInt ≤ 255)) ?_ ?_
          · refine ok_if (fun c3 => ?_) (fun c3 => ?_)
            · have dc3 := tl_le tn_0 (rfl : TI x35 x35.toInt) c3
              refine ok_bnd (Q := fun (z : Int32) => (0 ≤ z.toInt ∧ z.toInt ≤ 255)) ?_ ?_
              · refine ok_if (fun c4 => ?_) (fun c4 => ?_)
                · have dc4 := tl_le (rfl : TI x35 x35.toInt) tn_255 c4
                  exact ok_some (ti_bd (rfl : TI x35 x35.toInt) (by omega) (by omega))
                · have dc4 := tl_nle (rfl : TI x35 x35.toInt) tn_255 c4
                  exact ok_some (ti_bd tn_255 (by omega) (by omega))
              · intro y42 hyy42
                have ly42 := hyy42
                have iy42 : TI y42 y42.toInt := rfl
                exact ok_some (ti_bd iy42 (by omega) (by omega))
            · have dc3 := tl_nle tn_0 (rfl : TI x35 x35.toInt) c3
              exact ok_some (ti_bd tn_0 (by omega) (by omega))
          · intro y37 hyy37
            have ly37 := hyy37
            have iy37 : TI y37 y37.toInt := rfl
            refine ok_dr (f_r (b := 139) ts19_2 rfl (by decide)) (g_lt ts19_2 (by decide)) (g_k ts19_2 (by decide) rfl) ?_
            refine ok_chk (nxg (g_n (i := 139) (n := 384) ts19_2 (by decide) rfl) ix36 (by omega) (by omega)) ?_
            refine ok_ltt (fun M39 eM39 => ?_)
            have tM39 : TT G M39 p w L := by rw [eM39]; exact (tt_w0 ts19_2 rfl)
            have fM39 : Fr p [1] M M39 := by rw [eM39]; exact (fr_w fs19_2 rfl)
            clear eM39
            refine ok_ltI (av_add is19_1 tn_1 (by omega) (by omega)) (fun x40 ix40 => ?_)
            exact ok_some ⟨⟨(ti_bd ix40 (by omega) (by omega)), tM39, fM39⟩, (mu_up ix40 (by omega) (by omega))⟩
      · exact ⟨(ti_bd tn_0 (by omega) (by omega)), t, (fr_0 p [1] M)⟩
      · exact mu_0 tn_0 (by omega)
      · intro y18 hyy18
        obtain ⟨ly18_1, ty18_2, fy18_2⟩ := hyy18
        have iy18_1 : TI y18.1 y18.1.toInt := rfl
        exact ok_some ⟨ty18_2, fy18_2⟩
  · refine ok_ltI (av_div i1 tn_2 (by omega) (by omega)) (fun x1 ix1 => ?_)
    refine ok_bnd (Q := fun (z : Int32 × Int32 × Int32) => True ∧ True ∧ (1 ≤ z.2.2.toInt ∧ z.2.2.toInt ≤ (16 / 2 + 1))) (ok_itr (fun (z : Int32 × Int32 × Int32) => True ∧ True ∧ (1 ≤ z.2.2.toInt ∧ z.2.2.toInt ≤ (16 / 2 + 1))) (fun z => ((16 / 2 + 1) - z.2.2.toInt).toNat) ?_ _ _ ?_ ?_) ?_
    · intro s3 hys3
      obtain ⟨_, _, ls3_2_2⟩ := hys3
      have is3_2_2 : TI s3.2.2 s3.2.2.toInt := rfl
      refine ok_if (fun c1 => ?_) (fun c1 => ?_)
      · have dc1 := tl_lt ix1 is3_2_2 c1
        exact ok_some ⟨trivial, trivial, (ti_bd is3_2_2 (by omega) (by omega))⟩
      · have dc1 := tl_nlt ix1 is3_2_2 c1
        refine ok_ltI (av_add ix1 is3_2_2 (by omega) (by omega)) (fun x46 ix46 => ?_)
        refine ok_dr (f_r (b := 147) t rfl (by decide)) (g_lt t (by decide)) (g_k t (by decide) rfl) ?_
        refine ok_chk (nxg (g_n (i := 147) (n := 34) t (by decide) rfl) ix46 (by omega) (by omega)) ?_
        refine ok_ltA (fun x48 => ?_)
        refine ok_ltI (av_sub ix1 is3_2_2 (by omega) (by omega)) (fun x49 ix49 => ?_)
        refine ok_chk (nxg (g_n (i := 147) (n := 34) t (by decide) rfl) ix49 (by omega) (by omega)) ?_
        refine ok_ltA (fun x50 => ?_)
        refine ok_ltA (fun x51 => ?_)
        refine ok_ltA (fun x52 => ?_)
        refine ok_ltA (fun x53 => ?_)
        refine ok_ltI (av_add i1 tn_1 (by omega) (by omega)) (fun x54 ix54 => ?_)
        refine ok_ltI (av_add ix54 ix1 (by omega) (by omega)) (fun x55 ix55 => ?_)
        refine ok_ltI (av_add ix55 is3_2_2 (by omega) (by omega)) (fun x56 ix56 => ?_)
        refine ok_chk (nxg (g_n (i := 147) (n := 34) t (by decide) rfl) ix56 (by omega) (by omega)) ?_
        refine ok_ltA (fun x57 => ?_)
        refine ok_ltI (av_add i1 tn_1 (by omega) (by omega)) (fun x58 ix58 => ?_)
        refine ok_ltI (av_add ix58 ix1 (by omega) (by omega)) (fun x59 ix59 => ?_)
        refine ok_ltI (av_sub ix59 is3_2_2 (by omega) (by omega)) (fun x60 ix60 => ?_)
        refine ok_chk (nxg (g_n (i := 147) (n := 34) t (by decide) rfl) ix60 (by omega) (by omega)) ?_
        refine ok_ltA (fun x61 => ?_)
        refine ok_ltA (fun x62 => ?_)
        refine ok_ltA (fun x63 => ?_)
        refine ok_ltA (fun x64 => ?_)
        refine ok_ltI (av_add is3_2_2 tn_1 (by omega) (by omega)) (fun x65 ix65 => ?_)
        exact ok_some ⟨⟨trivial, trivial, (ti_bd ix65 (by omega) (by omega))⟩, (mu_up ix65 (by omega) (by omega))⟩
    · exact ⟨trivial, trivial, (ti_bd tn_1 (by omega) (by omega))⟩
    · exact mu_0 tn_1 (by omega)
    · intro y2 hyy2
      obtain ⟨_, _, ly2_2_2⟩ := hyy2
      have iy2_2_2 : TI y2.2.2 y2.2.2.toInt := rfl
      refine ok_ltA (fun x5 => ?_)
      refine ok_ltA (fun x6 => ?_)
      refine ok_ltA (fun x7 => ?_)
      refine ok_ltA (fun x8 => ?_)
      refine ok_ltA (fun x9 => ?_)
      refine ok_ltA (fun x10 => ?_)
      refine ok_dr (f_r (b := 147) t rfl (by decide)) (g_lt t (by decide)) (g_k t (by decide) rfl) ?_
      refine ok_chk (nxg (g_n (i := 147) (n := 34) t (by decide) rfl) i1 (by omega) (by omega)) ?_
      refine ok_ltA (fun x12 => ?_)
      refine ok_ltI (av_mul tn_2 i1 (by omega) (by omega)) (fun x13 ix13 => ?_)
      refine ok_ltI (av_add ix13 tn_1 (by omega) (by omega)) (fun x14 ix14 => ?_)
      refine ok_chk (nxg (g_n (i := 147) (n := 34) t (by decide) rfl) ix14 (by omega) (by omega)) ?_
      refine ok_ltA (fun x15 => ?_)
      refine ok_ltA (fun x16 => ?_)
      refine ok_ltA (fun x17 => ?_)
      refine ok_bnd (Q := fun (z : Int32 × DD) => (0 ≤ z.1.toInt ∧ z.1.toInt ≤ (16 * 16)) ∧ TT G z.2 p w L ∧ Fr p [1] M z.2) (ok_itr (fun (z : Int32 × DD) => (0 ≤ z.1.toInt ∧ z.1.toInt ≤ (16 * 16)) ∧ TT G z.2 p w L ∧ Fr p [1] M z.2) (fun z => ((16 * 16) - z.1.toInt).toNat) ?_ _ _ ?_ ?_) ?_
      · intro s19 hys19
        obtain ⟨ls19_1, ts19_2, fs19_2⟩ := hys19
        have is19_1 : TI s19.1 s19.1.toInt := rfl
        refine ok_ltI (av_mul i1 i1 (by omega) (by omega)) (fun x22 ix22 => ?_)
        refine ok_if (fun c2 => ?_) (fun c2 => ?_)
        · have dc2 := tl_le ix22 is19_1 c2
          exact ok_some ⟨(ti_bd is19_1 (by omega) (by omega)), ts19_2, fs19_2⟩
        · have dc2 := tl_nle ix22 is19_1 c2
          refine ok_chk (nz i1 (by omega)) ?_
          refine ok_ltI (av_mod is19_1 i1 (by omega) (by omega)) (fun x24 ix24 => ?_)
          refine ok_ltI (av_sub ix24 ix1 (by omega) (by omega)) (fun x25 ix25 => ?_)
          refine ok_ltI (av_add ix25 tn_1 (by omega) (by omega)) (fun x26 ix26 => ?_)
          refine ok_chk (nz i1 (by omega)) ?_
          refine ok_ltI (av_div is19_1 i1 (by omega) (by omega)) (fun x27 ix27 => ?_)
          refine ok_ltI (av_sub ix27 ix1 (by omega) (by omega)) (fun x28 ix28 => ?_)
          refine ok_ltI (av_add ix28 tn_1 (by omega) (by omega)) (fun x29 ix29 => ?_)
          refine ok_ltA (fun x30 => ?_)
          refine ok_ltA (fun x31 => ?_)
          refine ok_ltA (fun x32 => ?_)
          refine ok_ltA (fun x33 => ?_)
          refine ok_ltA (fun x34 => ?_)
          refine ok_ltA (fun x35 => ?_)
          refine ok_ltI (av_add i0 is19_1 (by omega) (by omega)) (fun x36 ix36 => ?_)
          refine ok_bnd (Q := fun (z : Int32) => (0 ≤ z.toInt ∧ z.toInt ≤ 255)) ?_ ?_
          · refine ok_if (fun c3 => ?_) (fun c3 => ?_)
            · have dc3 := tl_le tn_0 (rfl : TI x35 x35.toInt) c3
              refine ok_bnd (Q := fun (z : Int32) => (0 ≤ z.toInt ∧ z.toInt ≤ 255)) ?_ ?_
              · refine ok_if (fun c4 => ?_) (fun c4 => ?_)
                · have dc4 := tl_le (rfl : TI x35 x35.toInt) tn_255 c4
                  exact ok_some (ti_bd (rfl : TI x35 x35.toInt) (by omega) (by omega))
                · have dc4 := tl_nle (rfl : TI x35 x35.toInt) tn_255 c4
                  exact ok_some (ti_bd tn_255 (by omega) (by omega))
              · intro y42 hyy42
                have ly42 := hyy42
                have iy42 : TI y42 y42.toInt := rfl
                exact ok_some (ti_bd iy42 (by omega) (by omega))
            · have dc3 := tl_nle tn_0 (rfl : TI x35 x35.toInt) c3
              exact ok_some (ti_bd tn_0 (by omega) (by omega))
          · intro y37 hyy37
            have ly37 := hyy37
            have iy37 : TI y37 y37.toInt := rfl
            refine ok_dr (f_r (b := 139) ts19_2 rfl (by decide)) (g_lt ts19_2 (by decide)) (g_k ts19_2 (by decide) rfl) ?_
            refine ok_chk (nxg (g_n (i := 139) (n := 384) ts19_2 (by decide) rfl) ix36 (by omega) (by omega)) ?_
            refine ok_ltt (fun M39 eM39 => ?_)
            have tM39 : TT G M39 p w L := by rw [eM39]; exact (tt_w0 ts19_2 rfl)
            have fM39 : Fr p [1] M M39 := by rw [eM39]; exact (fr_w fs19_2 rfl)
            clear eM39
            refine ok_ltI (av_add is19_1 tn_1 (by omega) (by omega)) (fun x40 ix40 => ?_)
            exact ok_some ⟨⟨(ti_bd ix40 (by omega) (by omega)), tM39, fM39⟩, (mu_up ix40 (by omega) (by omega))⟩
      · exact ⟨(ti_bd tn_0 (by omega) (by omega)), t, (fr_0 p [1] M)⟩
      · exact mu_0 tn_0 (by omega)
      · intro y18 hyy18
        obtain ⟨ly18_1, ty18_2, fy18_2⟩ := hyy18
        have iy18_1 : TI y18.1 y18.1.toInt := rfl
        exact ok_some ⟨ty18_2, fy18_2⟩
theorem s_colourMean {G : GG} {M : DD} {p : Nat} {w : Int} {L : List Nat} (t : TT G M p w L) {p0 : Int32} {a0 : Int} (i0 : TI p0 a0) {p1 : Int32} {a1 : Int} (i1 : TI p1 a1) (h0 : 0 ≤ a0) (h1 : a0 ≤ 3) : OK (FX6_colourMean G M 138 p0 p1) (fun y => TT G y.1 p w L ∧ Fr p [] M y.1 ∧ True) := by
  unfold FX6_colourMean
  have hw12 : 1 ≤ w ∧ w ≤ 2 := by rcases tt_w t with h | h <;> omega
  refine ok_ltI (av_and 1 i1 (by decide) (by decide)) (fun x1 ix1 => ?_)
  refine ok_bnd (Q := fun (z : Int32) => (0 ≤ z.toInt ∧ z.toInt ≤ 1)) ?_ ?_
  · refine ok_if (fun c1 => ?_) (fun c1 => ?_)
    · have dc1 := tl_eq ix1 tn_0 c1
      exact ok_some (ti_bd tn_0 (by omega) (by omega))
    · have dc1 := tl_ne ix1 tn_0 c1
      exact ok_some (ti_bd tn_1 (by omega) (by omega))
  · intro y2 hyy2
    have ly2 := hyy2
    have iy2 : TI y2 y2.toInt := rfl
    refine ok_ltA (fun x3 => ?_)
    refine ok_bnd (Q := fun (z : Int32) => (0 ≤ z.toInt ∧ z.toInt ≤ 1)) ?_ ?_
    · refine ok_if (fun c2 => ?_) (fun c2 => ?_)
      · have dc2 := tl_eq (rfl : TI x3 x3.toInt) tn_0 c2
        exact ok_some (ti_bd tn_0 (by omega) (by omega))
      · have dc2 := tl_ne (rfl : TI x3 x3.toInt) tn_0 c2
        exact ok_some (ti_bd tn_1 (by omega) (by omega))
    · intro y4 hyy4
      have ly4 := hyy4
      have iy4 : TI y4 y4.toInt := rfl
      refine ok_ltI (av_mod i0 tn_2 (by omega) (by omega)) (fun x5 ix5 => ?_)
      refine ok_ltI (av_mul ix5 tn_4 (by omega) (by omega)) (fun x6 ix6 => ?_)
      refine ok_ltI (av_add tn_1 ix6 (by omega) (by omega)) (fun x7 ix7 => ?_)
      refine ok_bnd (s_sumAround t ix7 tn_4 (by omega) (by omega) (by omega)) ?_
      intro y8 hyy8
      obtain ⟨ty8, gy8, _⟩ := hyy8
      have fy8 := fr_tr (fr_0 p [] M) gy8 rfl
      refine ok_ltI (av_div i0 tn_2 (by omega) (by omega)) (fun x9 ix9 => ?_)
      refine ok_ltI (av_mul ix9 tn_4 (by omega) (by omega)) (fun x10 ix10 => ?_)
      refine ok_ltI (av_add tn_10 ix10 (by omega) (by omega)) (fun x11 ix11 => ?_)
      refine ok_bnd (s_sumAround ty8 ix11 tn_4 (by omega) (by omega) (by omega)) ?_
      intro y12 hyy12
      obtain ⟨ty12, gy12, _⟩ := hyy12
      have fy12 := fr_tr fy8 gy12 rfl
      refine ok_if (fun c3 => ?_) (fun c3 => ?_)
      · have dc3 := tl_eq iy2 tn_0 c3
        refine ok_if (fun c4 => ?_) (fun c4 => ?_)
        · have dc4 := tl_eq iy4 tn_0 c4
          exact ok_some ⟨ty12, fy12, trivial⟩
        · have dc4 := tl_ne iy4 tn_0 c4
          refine ok_if (fun c5 => ?_) (fun c5 => ?_)
          · have dc5 := tl_eq i0 tn_1 c5
            refine ok_bnd (Q := fun (z : Int32) => True) ?_ ?_
            · refine ok_if (fun c6 => ?_) (fun c6 => ?_)
              · have dc6 := tl_eq iy4 tn_0 c6
                exfalso
                omega
              · have dc6 := tl_ne iy4 tn_0 c6
                exact ok_some trivial
            · intro y61 hyy61
              have u_y61 := hyy61
              refine ok_ltA (fun x62 => ?_)
              refine ok_ltA (fun x63 => ?_)
              exact ok_some ⟨ty12, fy12, trivial⟩
          · have dc5 := tl_ne i0 tn_1 c5
            refine ok_if (fun c7 => ?_) (fun c7 => ?_)
            · have dc7 := tl_eq i0 tn_2 c7
              refine ok_bnd (Q := fun (z : Int32) => True) ?_ ?_
              · refine ok_if (fun c8 => ?_) (fun c8 => ?_)
                · have dc8 := tl_eq iy2 tn_0 c8
                  exact ok_some trivial
                · have dc8 := tl_ne iy2 tn_0 c8
                  exfalso
                  omega
              · intro y57 hyy57
                have u_y57 := hyy57
                refine ok_ltA (fun x58 => ?_)
                refine ok_ltA (fun x59 => ?_)
                exact ok_some ⟨ty12, fy12, trivial⟩
            · have dc7 := tl_ne i0 tn_2 c7
              refine ok_bnd (Q := fun (z : Int32) => True) ?_ ?_
              · refine ok_if (fun c9 => ?_) (fun c9 => ?_)
                · have dc9 := tl_eq iy2 tn_0 c9
                  refine ok_bnd (Q := fun (z : Int32) => True) ?_ ?_
                  · refine ok_if (fun c10 => ?_) (fun c10 => ?_)
                    · have dc10 := tl_eq iy2 tn_0 c10
                      exact ok_some trivial
                    · have dc10 := tl_ne iy2 tn_0 c10
                      exfalso
                      omega
                  · intro y44 hyy44
                    have u_y44 := hyy44
                    refine ok_ltA (fun x45 => ?_)
                    refine ok_ltA (fun x46 => ?_)
                    exact ok_some trivial
                · have dc9 := tl_ne iy2 tn_0 c9
                  exfalso
                  omega
              · intro y42 hyy42
                have u_y42 := hyy42
                exact ok_some ⟨ty12, fy12, trivial⟩
      · have dc3 := tl_ne iy2 tn_0 c3
        refine ok_if (fun c11 => ?_) (fun c11 => ?_)
        · have dc11 := tl_eq i0 tn_1 c11
          refine ok_bnd (Q := fun (z : Int32) => True) ?_ ?_
          · refine ok_if (fun c12 => ?_) (fun c12 => ?_)
            · have dc12 := tl_eq iy4 tn_0 c12
              exact ok_some trivial
            · have dc12 := tl_ne iy4 tn_0 c12
              exact ok_some trivial
          · intro y35 hyy35
            have u_y35 := hyy35
            refine ok_ltA (fun x36 => ?_)
            refine ok_ltA (fun x37 => ?_)
            exact ok_some ⟨ty12, fy12, trivial⟩
        · have dc11 := tl_ne i0 tn_1 c11
          refine ok_if (fun c13 => ?_) (fun c13 => ?_)
          · have dc13 := tl_eq i0 tn_2 c13
            refine ok_bnd (Q := fun (z : Int32) => True) ?_ ?_
            · refine ok_if (fun c14 => ?_) (fun c14 => ?_)
              · have dc14 := tl_eq iy2 tn_0 c14
                exfalso
                omega
              · have dc14 := tl_ne iy2 tn_0 c14
                exact ok_some trivial
            · intro y31 hyy31
              have u_y31 := hyy31
              refine ok_ltA (fun x32 => ?_)
              refine ok_ltA (fun x33 => ?_)
              exact ok_some ⟨ty12, fy12, trivial⟩
          · have dc13 := tl_ne i0 tn_2 c13
            refine ok_bnd (Q := fun (z : Int32) => True) ?_ ?_
            · refine ok_if (fun c15 => ?_) (fun c15 => ?_)
              · have dc15 := tl_eq iy2 tn_0 c15
                exfalso
                omega
              · have dc15 := tl_ne iy2 tn_0 c15
                refine ok_bnd (Q := fun (z : Int32) => True) ?_ ?_
                · refine ok_if (fun c16 => ?_) (fun c16 => ?_)
                  · have dc16 := tl_eq iy4 tn_0 c16
                    refine ok_bnd (Q := fun (z : Int32) => True) ?_ ?_
                    · refine ok_if (fun c17 => ?_) (fun c17 => ?_)
                      · have dc17 := tl_eq iy2 tn_0 c17
                        exfalso
                        omega
                      · have dc17 := tl_ne iy2 tn_0 c17
                        exact ok_some trivial
                    · intro y24 hyy24
                      have u_y24 := hyy24
                      refine ok_ltA (fun x25 => ?_)
                      refine ok_ltA (fun x26 => ?_)
                      exact ok_some trivial
                  · have dc16 := tl_ne iy4 tn_0 c16
                    refine ok_ltA (fun x28 => ?_)
                    refine ok_ltA (fun x29 => ?_)
                    refine ok_ltA (fun x30 => ?_)
                    exact ok_some trivial
                · intro y22 hyy22
                  have u_y22 := hyy22
                  exact ok_some trivial
            · intro y16 hyy16
              have u_y16 := hyy16
              exact ok_some ⟨ty12, fy12, trivial⟩
theorem s_fillPiece {G : GG} {M : DD} {p : Nat} {w : Int} {L : List Nat} (t : TT G M p w L) {p0 : Option Nat} {j0 : Nat} (e0 : p0 = some (p + j0)) (hj0 : j0 = 9 ∨ j0 = 10 ∨ j0 = 11) {n0 : Int} (hn0 : (G.2.2 (p + j0) : Int) = n0) {p1 : Int32} {a1 : Int} (i1 : TI p1 a1) {p2 : Int32} {a2 : Int} (i2 : TI p2 a2) {p3 : Int32} {a3 : Int} (i3 : TI p3 a3) {p4 : Int32} {a4 : Int} (i4 : TI p4 a4) (h0 : 0 ≤ a1) (h1 : a1 + 3 * a2 + 3 < n0) (h2 : n0 ≤ 1024) (h3 : a2 = 8 ∨ a2 = 16 ∨ a2 = 32) (h4 : 0 ≤ a3) (h5 : a3 + 3 * a4 + 3 < 384) (h6 : a4 = 8 ∨ a4 = 16) : OK (FX6_fillPiece G M 138 p0 p1 p2 p3 p4) (fun y => TT G y p w L ∧ Fr p [2, 18] M y) := by
  unfold FX6_fillPiece
  subst e0
  have hw12 : 1 ≤ w ∧ w ≤ 2 := by rcases tt_w t with h | h <;> omega
  rcases h3 with rfl | rfl | rfl
  · rcases h6 with rfl | rfl
    · refine ok_bnd (s_turnBack t tn_1 tn_4 (by omega)) ?_
      intro y1 hyy1
      obtain ⟨ty1, gy1⟩ := hyy1
      have fy1 := fr_tr (fr_0 p [2, 18] M) gy1 rfl
      refine ok_bnd (s_turnBack ty1 tn_4 tn_1 (by omega)) ?_
      intro y2 hyy2
      obtain ⟨ty2, gy2⟩ := hyy2
      have fy2 := fr_tr fy1 gy2 rfl
      refine ok_bnd (Q := fun (z : Int32 × DD) => (0 ≤ z.1.toInt ∧ z.1.toInt ≤ 16) ∧ TT G z.2 p w L ∧ Fr p [2, 18] M z.2) (ok_itr (fun (z : Int32 × DD) => (0 ≤ z.1.toInt ∧ z.1.toInt ≤ 16) ∧ TT G z.2 p w L ∧ Fr p [2, 18] M z.2) (fun z => (16 - z.1.toInt).toNat) ?_ _ _ ?_ ?_) ?_
      · intro s4 hys4
        obtain ⟨ls4_1, ts4_2, fs4_2⟩ := hys4
        have is4_1 : TI s4.1 s4.1.toInt := rfl
        refine ok_if (fun c1 => ?_) (fun c1 => ?_)
        · have dc1 := tl_le tn_16 is4_1 c1
          exact ok_some ⟨(ti_bd is4_1 (by omega) (by omega)), ts4_2, fs4_2⟩
        · have dc1 := tl_nle tn_16 is4_1 c1
          refine ok_ltI (av_div is4_1 tn_4 (by omega) (by omega)) (fun x8 ix8 => ?_)
          refine ok_ltI (av_mul ix8 i4 (by omega) (by omega)) (fun x9 ix9 => ?_)
          refine ok_ltI (av_add i3 ix9 (by omega) (by omega)) (fun x10 ix10 => ?_)
          refine ok_ltI (av_mod is4_1 tn_4 (by omega) (by omega)) (fun x11 ix11 => ?_)
          refine ok_ltI (av_add ix10 ix11 (by omega) (by omega)) (fun x12 ix12 => ?_)
          refine ok_dr (f_r (b := 139) ts4_2 rfl (by decide)) (g_lt ts4_2 (by decide)) (g_k ts4_2 (by decide) rfl) ?_
          refine ok_chk (nxg (g_n (i := 139) (n := 384) ts4_2 (by decide) rfl) ix12 (by omega) (by omega)) ?_
          refine ok_ltA (fun x14 => ?_)
          refine ok_dr (f_r (b := 145) ts4_2 rfl (by decide)) (g_lt ts4_2 (by decide)) (g_k ts4_2 (by decide) rfl) ?_
          refine ok_chk (nxg (g_n (i := 145) (n := 16) ts4_2 (by decide) rfl) is4_1 (by omega) (by omega)) ?_
          refine ok_ltA (fun x16 => ?_)
          refine ok_ltA (fun x17 => ?_)
          refine ok_ltA (fun x18 => ?_)
          refine ok_ltA (fun x19 => ?_)
          refine ok_ltI (av_div is4_1 tn_4 (by omega) (by omega)) (fun x20 ix20 => ?_)
          refine ok_ltI (av_mul ix20 i2 (by omega) (by omega)) (fun x21 ix21 => ?_)
          refine ok_ltI (av_add i1 ix21 (by omega) (by omega)) (fun x22 ix22 => ?_)
          refine ok_ltI (av_mod is4_1 tn_4 (by omega) (by omega)) (fun x23 ix23 => ?_)
          refine ok_ltI (av_add ix22 ix23 (by omega) (by omega)) (fun x24 ix24 => ?_)
          refine ok_bnd (Q := fun (z : Int32) => (0 ≤ z.toInt ∧ z.toInt ≤ 255)) ?_ ?_
          · refine ok_if (fun c2 => ?_) (fun c2 => ?_)
            · have dc2 := tl_le tn_0 (rfl : TI x19 x19.toInt) c2
              refine ok_bnd (Q := fun (z : Int32) => (0 ≤ z.toInt ∧ z.toInt ≤ 255)) ?_ ?_
              · refine ok_if (fun c3 => ?_) (fun c3 => ?_)
                · have dc3 := tl_le (rfl : TI x19 x19.toInt) tn_255 c3
                  exact ok_some (ti_bd (rfl : TI x19 x19.toInt) (by omega) (by omega))
                · have dc3 := tl_nle (rfl : TI x19 x19.toInt) tn_255 c3
                  exact ok_some (ti_bd tn_255 (by omega) (by omega))
              · intro y30 hyy30
                have ly30 := hyy30
                have iy30 : TI y30 y30.toInt := rfl
                exact ok_some (ti_bd iy30 (by omega) (by omega))
            · have dc2 := tl_nle tn_0 (rfl : TI x19 x19.toInt) c2
              exact ok_some (ti_bd tn_0 (by omega) (by omega))
          · intro y25 hyy25
            have ly25 := hyy25
            have iy25 : TI y25 y25.toInt := rfl
            refine ok_dr rfl (by have q := (tt_q0b ts4_2 (tt_p ts4_2)); omega) (gk_s ts4_2 (tt_p ts4_2) hj0) ?_
            refine ok_chk (nxi hn0 ix24 (by omega) (by omega)) ?_
            refine ok_ltt (fun M27 eM27 => ?_)
            have tM27 : TT G M27 p w L := by rw [eM27]; exact (tt_ws ts4_2 hj0)
            have fM27 : Fr p [2, 18] M M27 := by rw [eM27]; exact (fr_ws fs4_2 (tt_p0 ts4_2) hj0 rfl)
            clear eM27
            refine ok_ltI (av_add is4_1 tn_1 (by omega) (by omega)) (fun x28 ix28 => ?_)
            exact ok_some ⟨⟨(ti_bd ix28 (by omega) (by omega)), tM27, fM27⟩, (mu_up ix28 (by omega) (by omega))⟩
      · exact ⟨(ti_bd tn_0 (by omega) (by omega)), ty2, fy2⟩
      · exact mu_0 tn_0 (by omega)
      · intro y3 hyy3
        obtain ⟨ly3_1, ty3_2, fy3_2⟩ := hyy3
        have iy3_1 : TI y3.1 y3.1.toInt := rfl
        exact ok_some ⟨ty3_2, fy3_2⟩
    · refine ok_bnd (s_turnBack t tn_1 tn_4 (by omega)) ?_
      intro y1 hyy1
      obtain ⟨ty1, gy1⟩ := hyy1
      have fy1 := fr_tr (fr_0 p [2, 18] M) gy1 rfl
      refine ok_bnd (s_turnBack ty1 tn_4 tn_1 (by omega)) ?_
      intro y2 hyy2
      obtain ⟨ty2, gy2⟩ := hyy2
      have fy2 := fr_tr fy1 gy2 rfl
      refine ok_bnd (Q := fun (z : Int32 × DD) => (0 ≤ z.1.toInt ∧ z.1.toInt ≤ 16) ∧ TT G z.2 p w L ∧ Fr p [2, 18] M z.2) (ok_itr (fun (z : Int32 × DD) => (0 ≤ z.1.toInt ∧ z.1.toInt ≤ 16) ∧ TT G z.2 p w L ∧ Fr p [2, 18] M z.2) (fun z => (16 - z.1.toInt).toNat) ?_ _ _ ?_ ?_) ?_
      · intro s4 hys4
        obtain ⟨ls4_1, ts4_2, fs4_2⟩ := hys4
        have is4_1 : TI s4.1 s4.1.toInt := rfl
        refine ok_if (fun c1 => ?_) (fun c1 => ?_)
        · have dc1 := tl_le tn_16 is4_1 c1
          exact ok_some ⟨(ti_bd is4_1 (by omega) (by omega)), ts4_2, fs4_2⟩
        · have dc1 := tl_nle tn_16 is4_1 c1
          refine ok_ltI (av_div is4_1 tn_4 (by omega) (by omega)) (fun x8 ix8 => ?_)
          refine ok_ltI (av_mul ix8 i4 (by omega) (by omega)) (fun x9 ix9 => ?_)
          refine ok_ltI (av_add i3 ix9 (by omega) (by omega)) (fun x10 ix10 => ?_)
          refine ok_ltI (av_mod is4_1 tn_4 (by omega) (by omega)) (fun x11 ix11 => ?_)
          refine ok_ltI (av_add ix10 ix11 (by omega) (by omega)) (fun x12 ix12 => ?_)
          refine ok_dr (f_r (b := 139) ts4_2 rfl (by decide)) (g_lt ts4_2 (by decide)) (g_k ts4_2 (by decide) rfl) ?_
          refine ok_chk (nxg (g_n (i := 139) (n := 384) ts4_2 (by decide) rfl) ix12 (by omega) (by omega)) ?_
          refine ok_ltA (fun x14 => ?_)
          refine ok_dr (f_r (b := 145) ts4_2 rfl (by decide)) (g_lt ts4_2 (by decide)) (g_k ts4_2 (by decide) rfl) ?_
          refine ok_chk (nxg (g_n (i := 145) (n := 16) ts4_2 (by decide) rfl) is4_1 (by omega) (by omega)) ?_
          refine ok_ltA (fun x16 => ?_)
          refine ok_ltA (fun x17 => ?_)
          refine ok_ltA (fun x18 => ?_)
          refine ok_ltA (fun x19 => ?_)
          refine ok_ltI (av_div is4_1 tn_4 (by omega) (by omega)) (fun x20 ix20 => ?_)
          refine ok_ltI (av_mul ix20 i2 (by omega) (by omega)) (fun x21 ix21 => ?_)
          refine ok_ltI (av_add i1 ix21 (by omega) (by omega)) (fun x22 ix22 => ?_)
          refine ok_ltI (av_mod is4_1 tn_4 (by omega) (by omega)) (fun x23 ix23 => ?_)
          refine ok_ltI (av_add ix22 ix23 (by omega) (by omega)) (fun x24 ix24 => ?_)
          refine ok_bnd (Q := fun (z : Int32) => (0 ≤ z.toInt ∧ z.toInt ≤ 255)) ?_ ?_
          · refine ok_if (fun c2 => ?_) (fun c2 => ?_)
            · have dc2 := tl_le tn_0 (rfl : TI x19 x19.toInt) c2
              refine ok_bnd (Q := fun (z : Int32) => (0 ≤ z.toInt ∧ z.toInt ≤ 255)) ?_ ?_
              · refine ok_if (fun c3 => ?_) (fun c3 => ?_)
                · have dc3 := tl_le (rfl : TI x19 x19.toInt) tn_255 c3
                  exact ok_some (ti_bd (rfl : TI x19 x19.toInt) (by omega) (by omega))
                · have dc3 := tl_nle (rfl : TI x19 x19.toInt) tn_255 c3
                  exact ok_some (ti_bd tn_255 (by omega) (by omega))
              · intro y30 hyy30
                have ly30 := hyy30
                have iy30 : TI y30 y30.toInt := rfl
                exact ok_some (ti_bd iy30 (by omega) (by omega))
            · have dc2 := tl_nle tn_0 (rfl : TI x19 x19.toInt) c2
              exact ok_some (ti_bd tn_0 (by omega) (by omega))
          · intro y25 hyy25
            have ly25 := hyy25
            have iy25 : TI y25 y25.toInt := rfl
            refine ok_dr rfl (by have q := (tt_q0b ts4_2 (tt_p ts4_2)); omega) (gk_s ts4_2 (tt_p ts4_2) hj0) ?_
            refine ok_chk (nxi hn0 ix24 (by omega) (by omega)) ?_
            refine ok_ltt (fun M27 eM27 => ?_)
            have tM27 : TT G M27 p w L := by rw [eM27]; exact (tt_ws ts4_2 hj0)
            have fM27 : Fr p [2, 18] M M27 := by rw [eM27]; exact (fr_ws fs4_2 (tt_p0 ts4_2) hj0 rfl)
            clear eM27
            refine ok_ltI (av_add is4_1 tn_1 (by omega) (by omega)) (fun x28 ix28 => ?_)
            exact ok_some ⟨⟨(ti_bd ix28 (by omega) (by omega)), tM27, fM27⟩, (mu_up ix28 (by omega) (by omega))⟩
      · exact ⟨(ti_bd tn_0 (by omega) (by omega)), ty2, fy2⟩
      · exact mu_0 tn_0 (by omega)
      · intro y3 hyy3
        obtain ⟨ly3_1, ty3_2, fy3_2⟩ := hyy3
        have iy3_1 : TI y3.1 y3.1.toInt := rfl
        exact ok_some ⟨ty3_2, fy3_2⟩
  · rcases h6 with rfl | rfl
    · refine ok_bnd (s_turnBack t tn_1 tn_4 (by omega)) ?_
      intro y1 hyy1
      obtain ⟨ty1, gy1⟩ := hyy1
      have fy1 := fr_tr (fr_0 p [2, 18] M) gy1 rfl
      refine ok_bnd (s_turnBack ty1 tn_4 tn_1 (by omega)) ?_
      intro y2 hyy2
      obtain ⟨ty2, gy2⟩ := hyy2
      have fy2 := fr_tr fy1 gy2 rfl
      refine ok_bnd (Q := fun (z : Int32 × DD) => (0 ≤ z.1.toInt ∧ z.1.toInt ≤ 16) ∧ TT G z.2 p w L ∧ Fr p [2, 18] M z.2) (ok_itr (fun (z : Int32 × DD) => (0 ≤ z.1.toInt ∧ z.1.toInt ≤ 16) ∧ TT G z.2 p w L ∧ Fr p [2, 18] M z.2) (fun z => (16 - z.1.toInt).toNat) ?_ _ _ ?_ ?_) ?_
      · intro s4 hys4
        obtain ⟨ls4_1, ts4_2, fs4_2⟩ := hys4
        have is4_1 : TI s4.1 s4.1.toInt := rfl
        refine ok_if (fun c1 => ?_) (fun c1 => ?_)
        · have dc1 := tl_le tn_16 is4_1 c1
          exact ok_some ⟨(ti_bd is4_1 (by omega) (by omega)), ts4_2, fs4_2⟩
        · have dc1 := tl_nle tn_16 is4_1 c1
          refine ok_ltI (av_div is4_1 tn_4 (by omega) (by omega)) (fun x8 ix8 => ?_)
          refine ok_ltI (av_mul ix8 i4 (by omega) (by omega)) (fun x9 ix9 => ?_)
          refine ok_ltI (av_add i3 ix9 (by omega) (by omega)) (fun x10 ix10 => ?_)
          refine ok_ltI (av_mod is4_1 tn_4 (by omega) (by omega)) (fun x11 ix11 => ?_)
          refine ok_ltI (av_add ix10 ix11 (by omega) (by omega)) (fun x12 ix12 => ?_)
          refine ok_dr (f_r (b := 139) ts4_2 rfl (by decide)) (g_lt ts4_2 (by decide)) (g_k ts4_2 (by decide) rfl) ?_
          refine ok_chk (nxg (g_n (i := 139) (n := 384) ts4_2 (by decide) rfl) ix12 (by omega) (by omega)) ?_
          refine ok_ltA (fun x14 => ?_)
          refine ok_dr (f_r (b := 145) ts4_2 rfl (by decide)) (g_lt ts4_2 (by decide)) (g_k ts4_2 (by decide) rfl) ?_
          refine ok_chk (nxg (g_n (i := 145) (n := 16) ts4_2 (by decide) rfl) is4_1 (by omega) (by omega)) ?_
          refine ok_ltA (fun x16 => ?_)
          refine ok_ltA (fun x17 => ?_)
          refine ok_ltA (fun x18 => ?_)
          refine ok_ltA (fun x19 => ?_)
          refine ok_ltI (av_div is4_1 tn_4 (by omega) (by omega)) (fun x20 ix20 => ?_)
          refine ok_ltI (av_mul ix20 i2 (by omega) (by omega)) (fun x21 ix21 => ?_)
          refine ok_ltI (av_add i1 ix21 (by omega) (by omega)) (fun x22 ix22 => ?_)
          refine ok_ltI (av_mod is4_1 tn_4 (by omega) (by omega)) (fun x23 ix23 => ?_)
          refine ok_ltI (av_add ix22 ix23 (by omega) (by omega)) (fun x24 ix24 => ?_)
          refine ok_bnd (Q := fun (z : Int32) => (0 ≤ z.toInt ∧ z.toInt ≤ 255)) ?_ ?_
          · refine ok_if (fun c2 => ?_) (fun c2 => ?_)
            · have dc2 := tl_le tn_0 (rfl : TI x19 x19.toInt) c2
              refine ok_bnd (Q := fun (z : Int32) => (0 ≤ z.toInt ∧ z.toInt ≤ 255)) ?_ ?_
              · refine ok_if (fun c3 => ?_) (fun c3 => ?_)
                · have dc3 := tl_le (rfl : TI x19 x19.toInt) tn_255 c3
                  exact ok_some (ti_bd (rfl : TI x19 x19.toInt) (by omega) (by omega))
                · have dc3 := tl_nle (rfl : TI x19 x19.toInt) tn_255 c3
                  exact ok_some (ti_bd tn_255 (by omega) (by omega))
              · intro y30 hyy30
                have ly30 := hyy30
                have iy30 : TI y30 y30.toInt := rfl
                exact ok_some (ti_bd iy30 (by omega) (by omega))
            · have dc2 := tl_nle tn_0 (rfl : TI x19 x19.toInt) c2
              exact ok_some (ti_bd tn_0 (by omega) (by omega))
          · intro y25 hyy25
            have ly25 := hyy25
            have iy25 : TI y25 y25.toInt := rfl
            refine ok_dr rfl (by have q := (tt_q0b ts4_2 (tt_p ts4_2)); omega) (gk_s ts4_2 (tt_p ts4_2) hj0) ?_
            refine ok_chk (nxi hn0 ix24 (by omega) (by omega)) ?_
            refine ok_ltt (fun M27 eM27 => ?_)
            have tM27 : TT G M27 p w L := by rw [eM27]; exact (tt_ws ts4_2 hj0)
            have fM27 : Fr p [2, 18] M M27 := by rw [eM27]; exact (fr_ws fs4_2 (tt_p0 ts4_2) hj0 rfl)
            clear eM27
            refine ok_ltI (av_add is4_1 tn_1 (by omega) (by omega)) (fun x28 ix28 => ?_)
            exact ok_some ⟨⟨(ti_bd ix28 (by omega) (by omega)), tM27, fM27⟩, (mu_up ix28 (by omega) (by omega))⟩
      · exact ⟨(ti_bd tn_0 (by omega) (by omega)), ty2, fy2⟩
      · exact mu_0 tn_0 (by omega)
      · intro y3 hyy3
        obtain ⟨ly3_1, ty3_2, fy3_2⟩ := hyy3
        have iy3_1 : TI y3.1 y3.1.toInt := rfl
        exact ok_some ⟨ty3_2, fy3_2⟩
    · refine ok_bnd (s_turnBack t tn_1 tn_4 (by omega)) ?_
      intro y1 hyy1
      obtain ⟨ty1, gy1⟩ := hyy1
      have fy1 := fr_tr (fr_0 p [2, 18] M) gy1 rfl
      refine ok_bnd (s_turnBack ty1 tn_4 tn_1 (by omega)) ?_
      intro y2 hyy2
      obtain ⟨ty2, gy2⟩ := hyy2
      have fy2 := fr_tr fy1 gy2 rfl
      refine ok_bnd (Q := fun (z : Int32 × DD) => (0 ≤ z.1.toInt ∧ z.1.toInt ≤ 16) ∧ TT G z.2 p w L ∧ Fr p [2, 18] M z.2) (ok_itr (fun (z : Int32 × DD) => (0 ≤ z.1.toInt ∧ z.1.toInt ≤ 16) ∧ TT G z.2 p w L ∧ Fr p [2, 18] M z.2) (fun z => (16 - z.1.toInt).toNat) ?_ _ _ ?_ ?_) ?_
      · intro s4 hys4
        obtain ⟨ls4_1, ts4_2, fs4_2⟩ := hys4
        have is4_1 : TI s4.1 s4.1.toInt := rfl
        refine ok_if (fun c1 => ?_) (fun c1 => ?_)
        · have dc1 := tl_le tn_16 is4_1 c1
          exact ok_some ⟨(ti_bd is4_1 (by omega) (by omega)), ts4_2, fs4_2⟩
        · have dc1 := tl_nle tn_16 is4_1 c1
          refine ok_ltI (av_div is4_1 tn_4 (by omega) (by omega)) (fun x8 ix8 => ?_)
          refine ok_ltI (av_mul ix8 i4 (by omega) (by omega)) (fun x9 ix9 => ?_)
          refine ok_ltI (av_add i3 ix9 (by omega) (by omega)) (fun x10 ix10 => ?_)
          refine ok_ltI (av_mod is4_1 tn_4 (by omega) (by omega)) (fun x11 ix11 => ?_)
          refine ok_ltI (av_add ix10 ix11 (by omega) (by omega)) (fun x12 ix12 => ?_)
          refine ok_dr (f_r (b := 139) ts4_2 rfl (by decide)) (g_lt ts4_2 (by decide)) (g_k ts4_2 (by decide) rfl) ?_
          refine ok_chk (nxg (g_n (i := 139) (n := 384) ts4_2 (by decide) rfl) ix12 (by omega) (by omega)) ?_
          refine ok_ltA (fun x14 => ?_)
          refine ok_dr (f_r (b := 145) ts4_2 rfl (by decide)) (g_lt ts4_2 (by decide)) (g_k ts4_2 (by decide) rfl) ?_
          refine ok_chk (nxg (g_n (i := 145) (n := 16) ts4_2 (by decide) rfl) is4_1 (by omega) (by omega)) ?_
          refine ok_ltA (fun x16 => ?_)
          refine ok_ltA (fun x17 => ?_)
          refine ok_ltA (fun x18 => ?_)
          refine ok_ltA (fun x19 => ?_)
          refine ok_ltI (av_div is4_1 tn_4 (by omega) (by omega)) (fun x20 ix20 => ?_)
          refine ok_ltI (av_mul ix20 i2 (by omega) (by omega)) (fun x21 ix21 => ?_)
          refine ok_ltI (av_add i1 ix21 (by omega) (by omega)) (fun x22 ix22 => ?_)
          refine ok_ltI (av_mod is4_1 tn_4 (by omega) (by omega)) (fun x23 ix23 => ?_)
          refine ok_ltI (av_add ix22 ix23 (by omega) (by omega)) (fun x24 ix24 => ?_)
          refine ok_bnd (Q := fun (z : Int32) => (0 ≤ z.toInt ∧ z.toInt ≤ 255)) ?_ ?_
          · refine ok_if (fun c2 => ?_) (fun c2 => ?_)
            · have dc2 := tl_le tn_0 (rfl : TI x19 x19.toInt) c2
              refine ok_bnd (Q := fun (z : Int32) => (0 ≤ z.toInt ∧ z.toInt ≤ 255)) ?_ ?_
              · refine ok_if (fun c3 => ?_) (fun c3 => ?_)
                · have dc3 := tl_le (rfl : TI x19 x19.toInt) tn_255 c3
                  exact ok_some (ti_bd (rfl : TI x19 x19.toInt) (by omega) (by omega))
                · have dc3 := tl_nle (rfl : TI x19 x19.toInt) tn_255 c3
                  exact ok_some (ti_bd tn_255 (by omega) (by omega))
              · intro y30 hyy30
                have ly30 := hyy30
                have iy30 : TI y30 y30.toInt := rfl
                exact ok_some (ti_bd iy30 (by omega) (by omega))
            · have dc2 := tl_nle tn_0 (rfl : TI x19 x19.toInt) c2
              exact ok_some (ti_bd tn_0 (by omega) (by omega))
          · intro y25 hyy25
            have ly25 := hyy25
            have iy25 : TI y25 y25.toInt := rfl
            refine ok_dr rfl (by have q := (tt_q0b ts4_2 (tt_p ts4_2)); omega) (gk_s ts4_2 (tt_p ts4_2) hj0) ?_
            refine ok_chk (nxi hn0 ix24 (by omega) (by omega)) ?_
            refine ok_ltt (fun M27 eM27 => ?_)
            have tM27 : TT G M27 p w L := by rw [eM27]; exact (tt_ws ts4_2 hj0)
            have fM27 : Fr p [2, 18] M M27 := by rw [eM27]; exact (fr_ws fs4_2 (tt_p0 ts4_2) hj0 rfl)
            clear eM27
            refine ok_ltI (av_add is4_1 tn_1 (by omega) (by omega)) (fun x28 ix28 => ?_)
            exact ok_some ⟨⟨(ti_bd ix28 (by omega) (by omega)), tM27, fM27⟩, (mu_up ix28 (by omega) (by omega))⟩
      · exact ⟨(ti_bd tn_0 (by omega) (by omega)), ty2, fy2⟩
      · exact mu_0 tn_0 (by omega)
      · intro y3 hyy3
        obtain ⟨ly3_1, ty3_2, fy3_2⟩ := hyy3
        have iy3_1 : TI y3.1 y3.1.toInt := rfl
        exact ok_some ⟨ty3_2, fy3_2⟩
  · rcases h6 with rfl | rfl
    · refine ok_bnd (s_turnBack t tn_1 tn_4 (by omega)) ?_
      intro y1 hyy1
      obtain ⟨ty1, gy1⟩ := hyy1
      have fy1 := fr_tr (fr_0 p [2, 18] M) gy1 rfl
      refine ok_bnd (s_turnBack ty1 tn_4 tn_1 (by omega)) ?_
      intro y2 hyy2
      obtain ⟨ty2, gy2⟩ := hyy2
      have fy2 := fr_tr fy1 gy2 rfl
      refine ok_bnd (Q := fun (z : Int32 × DD) => (0 ≤ z.1.toInt ∧ z.1.toInt ≤ 16) ∧ TT G z.2 p w L ∧ Fr p [2, 18] M z.2) (ok_itr (fun (z : Int32 × DD) => (0 ≤ z.1.toInt ∧ z.1.toInt ≤ 16) ∧ TT G z.2 p w L ∧ Fr p [2, 18] M z.2) (fun z => (16 - z.1.toInt).toNat) ?_ _ _ ?_ ?_) ?_
      · intro s4 hys4
        obtain ⟨ls4_1, ts4_2, fs4_2⟩ := hys4
        have is4_1 : TI s4.1 s4.1.toInt := rfl
        refine ok_if (fun c1 => ?_) (fun c1 => ?_)
        · have dc1 := tl_le tn_16 is4_1 c1
          exact ok_some ⟨(ti_bd is4_1 (by omega) (by omega)), ts4_2, fs4_2⟩
        · have dc1 := tl_nle tn_16 is4_1 c1
          refine ok_ltI (av_div is4_1 tn_4 (by omega) (by omega)) (fun x8 ix8 => ?_)
          refine ok_ltI (av_mul ix8 i4 (by omega) (by omega)) (fun x9 ix9 => ?_)
          refine ok_ltI (av_add i3 ix9 (by omega) (by omega)) (fun x10 ix10 => ?_)
          refine ok_ltI (av_mod is4_1 tn_4 (by omega) (by omega)) (fun x11 ix11 => ?_)
          refine ok_ltI (av_add ix10 ix11 (by omega) (by omega)) (fun x12 ix12 => ?_)
          refine ok_dr (f_r (b := 139) ts4_2 rfl (by decide)) (g_lt ts4_2 (by decide)) (g_k ts4_2 (by decide) rfl) ?_
          refine ok_chk (nxg (g_n (i := 139) (n := 384) ts4_2 (by decide) rfl) ix12 (by omega) (by omega)) ?_
          refine ok_ltA (fun x14 => ?_)
          refine ok_dr (f_r (b := 145) ts4_2 rfl (by decide)) (g_lt ts4_2 (by decide)) (g_k ts4_2 (by decide) rfl) ?_
          refine ok_chk (nxg (g_n (i := 145) (n := 16) ts4_2 (by decide) rfl) is4_1 (by omega) (by omega)) ?_
          refine ok_ltA (fun x16 => ?_)
          refine ok_ltA (fun x17 => ?_)
          refine ok_ltA (fun x18 => ?_)
          refine ok_ltA (fun x19 => ?_)
          refine ok_ltI (av_div is4_1 tn_4 (by omega) (by omega)) (fun x20 ix20 => ?_)
          refine ok_ltI (av_mul ix20 i2 (by omega) (by omega)) (fun x21 ix21 => ?_)
          refine ok_ltI (av_add i1 ix21 (by omega) (by omega)) (fun x22 ix22 => ?_)
          refine ok_ltI (av_mod is4_1 tn_4 (by omega) (by omega)) (fun x23 ix23 => ?_)
          refine ok_ltI (av_add ix22 ix23 (by omega) (by omega)) (fun x24 ix24 => ?_)
          refine ok_bnd (Q := fun (z : Int32) => (0 ≤ z.toInt ∧ z.toInt ≤ 255)) ?_ ?_
          · refine ok_if (fun c2 => ?_) (fun c2 => ?_)
            · have dc2 := tl_le tn_0 (rfl : TI x19 x19.toInt) c2
              refine ok_bnd (Q := fun (z : Int32) => (0 ≤ z.toInt ∧ z.toInt ≤ 255)) ?_ ?_
              · refine ok_if (fun c3 => ?_) (fun c3 => ?_)
                · have dc3 := tl_le (rfl : TI x19 x19.toInt) tn_255 c3
                  exact ok_some (ti_bd (rfl : TI x19 x19.toInt) (by omega) (by omega))
                · have dc3 := tl_nle (rfl : TI x19 x19.toInt) tn_255 c3
                  exact ok_some (ti_bd tn_255 (by omega) (by omega))
              · intro y30 hyy30
                have ly30 := hyy30
                have iy30 : TI y30 y30.toInt := rfl
                exact ok_some (ti_bd iy30 (by omega) (by omega))
            · have dc2 := tl_nle tn_0 (rfl : TI x19 x19.toInt) c2
              exact ok_some (ti_bd tn_0 (by omega) (by omega))
          · intro y25 hyy25
            have ly25 := hyy25
            have iy25 : TI y25 y25.toInt := rfl
            refine ok_dr rfl (by have q := (tt_q0b ts4_2 (tt_p ts4_2)); omega) (gk_s ts4_2 (tt_p ts4_2) hj0) ?_
            refine ok_chk (nxi hn0 ix24 (by omega) (by omega)) ?_
            refine ok_ltt (fun M27 eM27 => ?_)
            have tM27 : TT G M27 p w L := by rw [eM27]; exact (tt_ws ts4_2 hj0)
            have fM27 : Fr p [2, 18] M M27 := by rw [eM27]; exact (fr_ws fs4_2 (tt_p0 ts4_2) hj0 rfl)
            clear eM27
            refine ok_ltI (av_add is4_1 tn_1 (by omega) (by omega)) (fun x28 ix28 => ?_)
            exact ok_some ⟨⟨(ti_bd ix28 (by omega) (by omega)), tM27, fM27⟩, (mu_up ix28 (by omega) (by omega))⟩
      · exact ⟨(ti_bd tn_0 (by omega) (by omega)), ty2, fy2⟩
      · exact mu_0 tn_0 (by omega)
      · intro y3 hyy3
        obtain ⟨ly3_1, ty3_2, fy3_2⟩ := hyy3
        have iy3_1 : TI y3.1 y3.1.toInt := rfl
        exact ok_some ⟨ty3_2, fy3_2⟩
    · refine ok_bnd (s_turnBack t tn_1 tn_4 (by omega)) ?_
      intro y1 hyy1
      obtain ⟨ty1, gy1⟩ := hyy1
      have fy1 := fr_tr (fr_0 p [2, 18] M) gy1 rfl
      refine ok_bnd (s_turnBack ty1 tn_4 tn_1 (by omega)) ?_
      intro y2 hyy2
      obtain ⟨ty2, gy2⟩ := hyy2
      have fy2 := fr_tr fy1 gy2 rfl
      refine ok_bnd (Q := fun (z : Int32 × DD) => (0 ≤ z.1.toInt ∧ z.1.toInt ≤ 16) ∧ TT G z.2 p w L ∧ Fr p [2, 18] M z.2) (ok_itr (fun (z : Int32 × DD) => (0 ≤ z.1.toInt ∧ z.1.toInt ≤ 16) ∧ TT G z.2 p w L ∧ Fr p [2, 18] M z.2) (fun z => (16 - z.1.toInt).toNat) ?_ _ _ ?_ ?_) ?_
      · intro s4 hys4
        obtain ⟨ls4_1, ts4_2, fs4_2⟩ := hys4
        have is4_1 : TI s4.1 s4.1.toInt := rfl
        refine ok_if (fun c1 => ?_) (fun c1 => ?_)
        · have dc1 := tl_le tn_16 is4_1 c1
          exact ok_some ⟨(ti_bd is4_1 (by omega) (by omega)), ts4_2, fs4_2⟩
        · have dc1 := tl_nle tn_16 is4_1 c1
          refine ok_ltI (av_div is4_1 tn_4 (by omega) (by omega)) (fun x8 ix8 => ?_)
          refine ok_ltI (av_mul ix8 i4 (by omega) (by omega)) (fun x9 ix9 => ?_)
          refine ok_ltI (av_add i3 ix9 (by omega) (by omega)) (fun x10 ix10 => ?_)
          refine ok_ltI (av_mod is4_1 tn_4 (by omega) (by omega)) (fun x11 ix11 => ?_)
          refine ok_ltI (av_add ix10 ix11 (by omega) (by omega)) (fun x12 ix12 => ?_)
          refine ok_dr (f_r (b := 139) ts4_2 rfl (by decide)) (g_lt ts4_2 (by decide)) (g_k ts4_2 (by decide) rfl) ?_
          refine ok_chk (nxg (g_n (i := 139) (n := 384) ts4_2 (by decide) rfl) ix12 (by omega) (by omega)) ?_
          refine ok_ltA (fun x14 => ?_)
          refine ok_dr (f_r (b := 145) ts4_2 rfl (by decide)) (g_lt ts4_2 (by decide)) (g_k ts4_2 (by decide) rfl) ?_
          refine ok_chk (nxg (g_n (i := 145) (n := 16) ts4_2 (by decide) rfl) is4_1 (by omega) (by omega)) ?_
          refine ok_ltA (fun x16 => ?_)
          refine ok_ltA (fun x17 => ?_)
          refine ok_ltA (fun x18 => ?_)
          refine ok_ltA (fun x19 => ?_)
          refine ok_ltI (av_div is4_1 tn_4 (by omega) (by omega)) (fun x20 ix20 => ?_)
          refine ok_ltI (av_mul ix20 i2 (by omega) (by omega)) (fun x21 ix21 => ?_)
          refine ok_ltI (av_add i1 ix21 (by omega) (by omega)) (fun x22 ix22 => ?_)
          refine ok_ltI (av_mod is4_1 tn_4 (by omega) (by omega)) (fun x23 ix23 => ?_)
          refine ok_ltI (av_add ix22 ix23 (by omega) (by omega)) (fun x24 ix24 => ?_)
          refine ok_bnd (Q := fun (z : Int32) => (0 ≤ z.toInt ∧ z.toInt ≤ 255)) ?_ ?_
          · refine ok_if (fun c2 => ?_) (fun c2 => ?_)
            · have dc2 := tl_le tn_0 (rfl : TI x19 x19.toInt) c2
              refine ok_bnd (Q := fun (z : Int32) => (0 ≤ z.toInt ∧ z.toInt ≤ 255)) ?_ ?_
              · refine ok_if (fun c3 => ?_) (fun c3 => ?_)
                · have dc3 := tl_le (rfl : TI x19 x19.toInt) tn_255 c3
                  exact ok_some (ti_bd (rfl : TI x19 x19.toInt) (by omega) (by omega))
                · have dc3 := tl_nle (rfl : TI x19 x19.toInt) tn_255 c3
                  exact ok_some (ti_bd tn_255 (by omega) (by omega))
              · intro y30 hyy30
                have ly30 := hyy30
                have iy30 : TI y30 y30.toInt := rfl
                exact ok_some (ti_bd iy30 (by omega) (by omega))
            · have dc2 := tl_nle tn_0 (rfl : TI x19 x19.toInt) c2
              exact ok_some (ti_bd tn_0 (by omega) (by omega))
          · intro y25 hyy25
            have ly25 := hyy25
            have iy25 : TI y25 y25.toInt := rfl
            refine ok_dr rfl (by have q := (tt_q0b ts4_2 (tt_p ts4_2)); omega) (gk_s ts4_2 (tt_p ts4_2) hj0) ?_
            refine ok_chk (nxi hn0 ix24 (by omega) (by omega)) ?_
            refine ok_ltt (fun M27 eM27 => ?_)
            have tM27 : TT G M27 p w L := by rw [eM27]; exact (tt_ws ts4_2 hj0)
            have fM27 : Fr p [2, 18] M M27 := by rw [eM27]; exact (fr_ws fs4_2 (tt_p0 ts4_2) hj0 rfl)
            clear eM27
            refine ok_ltI (av_add is4_1 tn_1 (by omega) (by omega)) (fun x28 ix28 => ?_)
            exact ok_some ⟨⟨(ti_bd ix28 (by omega) (by omega)), tM27, fM27⟩, (mu_up ix28 (by omega) (by omega))⟩
      · exact ⟨(ti_bd tn_0 (by omega) (by omega)), ty2, fy2⟩
      · exact mu_0 tn_0 (by omega)
      · intro y3 hyy3
        obtain ⟨ly3_1, ty3_2, fy3_2⟩ := hyy3
        have iy3_1 : TI y3.1 y3.1.toInt := rfl
        exact ok_some ⟨ty3_2, fy3_2⟩
theorem s_unfold {G : GG} {M : DD} {p : Nat} {w : Int} {L : List Nat} (t : TT G M p w L) {p0 : Option Nat} (e0 : p0 = some 132) {p1 : Int32} {a1 : Int} (i1 : TI p1 a1) {p2 : Int32} {a2 : Int} (i2 : TI p2 a2) {p3 : Int32} {a3 : Int} (i3 : TI p3 a3) (h0 : 0 ≤ a1) (h1 : a1 + 16 ≤ 13824) (h2 : 0 ≤ a2) (h3 : a2 ≤ 16) (h4 : 0 ≤ a3) (h5 : a3 ≤ 51) : OK (FX6_unfold G M 138 p0 p1 p2 p3) (fun y => TT G y p w L ∧ Fr p [2] M y) := by
  unfold FX6_unfold
  subst e0
  have hw12 : 1 ≤ w ∧ w ≤ 2 := by rcases tt_w t with h | h <;> omega
  refine ok_bnd (s_fillAf (S := [2]) (M0 := M) (b := 145) (n := 16) t (f_r (b := 145) t rfl (by decide)) rfl rfl (fr_0 p [2] M) (fun _ => rfl)) ?_
  intro y1 hyy1
  obtain ⟨ty1, fy1⟩ := hyy1
  have k0p2 : p2.toInt = _ := i2
  refine ok_bnd (Q := fun (z : Int32 × DD) => (p2.toInt ≤ z.1.toInt ∧ z.1.toInt ≤ 16) ∧ TT G z.2 p w L ∧ Fr p [2] M z.2) (ok_itr (fun (z : Int32 × DD) => (p2.toInt ≤ z.1.toInt ∧ z.1.toInt ≤ 16) ∧ TT G z.2 p w L ∧ Fr p [2] M z.2) (fun z => (16 - z.1.toInt).toNat) ?_ _ _ ?_ ?_) ?_
  · intro s3 hys3
    obtain ⟨ls3_1, ts3_2, fs3_2⟩ := hys3
    have is3_1 : TI s3.1 s3.1.toInt := rfl
    refine ok_if (fun c1 => ?_) (fun c1 => ?_)
    · have dc1 := tl_le tn_16 is3_1 c1
      exact ok_some ⟨(ti_bd is3_1 (by omega) (by omega)), ts3_2, fs3_2⟩
    · have dc1 := tl_nle tn_16 is3_1 c1
      refine ok_chk (nx is3_1 (by omega) (by omega)) ?_
      refine ok_ltB (tb_14 _) (fun x7 lx7 => ?_)
      have ix7 : TI x7 x7.toInt := rfl
      refine ok_chk (nx is3_1 (by omega) (by omega)) ?_
      refine ok_ltB (tb_15 _) (fun x8 lx8 => ?_)
      have ix8 : TI x8 x8.toInt := rfl
      refine ok_ltI (av_mul tn_4 ix8 (by omega) (by omega)) (fun x9 ix9 => ?_)
      refine ok_ltI (av_add ix9 ix7 (by omega) (by omega)) (fun x10 ix10 => ?_)
      refine ok_ltI (av_add i1 is3_1 (by omega) (by omega)) (fun x11 ix11 => ?_)
      refine ok_dr rfl (g_lt ts3_2 (by decide)) (g_k ts3_2 (by decide) rfl) ?_
      refine ok_chk (nxg (g_n (i := 132) (n := 13824) ts3_2 (by decide) rfl) ix11 (by omega) (by omega)) ?_
      refine ok_ltA (fun x13 => ?_)
      refine ok_bnd (s_normAt ts3_2 i3 ix7 ix8 (by omega) (by omega)) ?_
      intro y14 hyy14
      obtain ⟨ty14, gy14, ly14⟩ := hyy14
      have fy14 := fr_tr fs3_2 gy14 rfl
      have iy14 : TI y14.2 y14.2.toInt := rfl
      refine ok_chk (nx iy14 (by omega) (by omega)) ?_
      refine ok_ltB (tb_13 _) (fun x15 lx15 => ?_)
      have ix15 : TI x15 x15.toInt := rfl
      refine ok_ltA (fun x16 => ?_)
      refine ok_ltI (av_div i3 tn_6 (by omega) (by omega)) (fun x17 ix17 => ?_)
      refine ok_ltA (fun x18 => ?_)
      refine ok_dr (f_r (b := 145) ts3_2 rfl (by decide)) (g_lt ty14 (by decide)) (g_k ty14 (by decide) rfl) ?_
      refine ok_chk (nxg (g_n (i := 145) (n := 16) ty14 (by decide) rfl) ix10 (by omega) (by omega)) ?_
      refine ok_ltt (fun M20 eM20 => ?_)
      have tM20 : TT G M20 p w L := by rw [eM20]; exact (tt_w0 ty14 rfl)
      have fM20 : Fr p [2] M M20 := by rw [eM20]; exact (fr_w fy14 rfl)
      clear eM20
      refine ok_ltI (av_add is3_1 tn_1 (by omega) (by omega)) (fun x21 ix21 => ?_)
      exact ok_some ⟨⟨(ti_bd ix21 (by omega) (by omega)), tM20, fM20⟩, (mu_up ix21 (by omega) (by omega))⟩
  · exact ⟨(ti_bd i2 (by omega) (by omega)), ty1, fy1⟩
  · exact mu_0 i2 (by omega)
  · intro y2 hyy2
    obtain ⟨ly2_1, ty2_2, fy2_2⟩ := hyy2
    have iy2_1 : TI y2.1 y2.1.toInt := rfl
    exact ok_some ⟨ty2_2, fy2_2⟩
theorem s_fillLuma {G : GG} {M : DD} {p : Nat} {w : Int} {L : List Nat} (t : TT G M p w L) {p0 : Option Nat} (e0 : p0 = some 125) {p1 : Int32} {a1 : Int} (i1 : TI p1 a1) {p2 : Int32} {a2 : Int} (i2 : TI p2 a2) {p3 : Int32} {a3 : Int} (i3 : TI p3 a3) (h0 : 0 ≤ a1) (h1 : a1 < 2 * w) (h2 : 0 ≤ a2) (h3 : a2 ≤ 15) (h4 : 0 ≤ a3) (h5 : a3 ≤ 51) : OK (FX6_fillLuma G M 138 p0 p1 p2 p3) (fun y => TT G y p w L ∧ Fr p [2, 18] M y) := by
  unfold FX6_fillLuma
  subst e0
  have hw12 : 1 ≤ w ∧ w ≤ 2 := by rcases tt_w t with h | h <;> omega
  rcases tt_w t with rfl | rfl
  · refine ok_bnd (s_pieceX t i2 (by omega) (by omega)) ?_
    intro y1 hyy1
    obtain ⟨ty1, gy1, iy1⟩ := hyy1
    have fy1 := fr_tr (fr_0 p [2, 18] M) gy1 rfl
    refine ok_bnd (s_pieceY ty1 i2 (by omega) (by omega)) ?_
    intro y2 hyy2
    obtain ⟨ty2, gy2, iy2⟩ := hyy2
    have fy2 := fr_tr fy1 gy2 rfl
    refine ok_dr rfl (g_lt ty2 (by decide)) (g_k ty2 (by decide) rfl) ?_
    refine ok_bnd (s_levelAt ty2 i1 i2 (by omega) (by omega) (by omega) (by omega)) ?_
    intro y4 hyy4
    obtain ⟨ty4, gy4, iy4⟩ := hyy4
    have fy4 := fr_tr fy2 gy4 rfl
    refine ok_bnd (s_unfold ty4 (f_r (b := 132) ty2 rfl (by decide)) iy4 tn_0 i3 (by omega) (by omega) (by omega) (by omega) (by omega) (by omega)) ?_
    intro y5 hyy5
    obtain ⟨ty5, gy5⟩ := hyy5
    have fy5 := fr_tr fy4 gy5 rfl
    refine ok_dr (tt_pic ty5) (by have q := (tt_q0b ty5 (tt_p ty5)); omega) (gk_0 ty5 (tt_p ty5)) ?_
    refine ok_dr (pr_4 ty5 (tt_p ty5)) (by have q := (tt_q0b ty5 (tt_p ty5)); omega) (gk_2 ty5 (tt_p ty5)) ?_
    refine ok_chk (nxg (gl_2 ty5 (tt_p ty5)) tn_0 (by omega) (by omega)) ?_
    refine ok_bnd (s_lumaAt ty5 (tt_pic ty5) (tt_p ty5) i1 iy1 iy2 (by omega) (by omega) (by omega) (by omega) (by omega) (by omega)) ?_
    intro y8 hyy8
    obtain ⟨ty8, gy8, iy8⟩ := hyy8
    have fy8 := fr_tr fy5 gy8 rfl
    refine ok_dr (tt_pic ty8) (by have q := (tt_q0b ty8 (tt_p ty8)); omega) (gk_0 ty8 (tt_p ty8)) ?_
    refine ok_ltI (tw_q ty8 (tt_p ty8)) (fun x10 ix10 => ?_)
    refine ok_ltI (av_mul tn_16 ix10 (by omega) (by omega)) (fun x11 ix11 => ?_)
    refine ok_ltI (av_mul tn_16 iy2 (by omega) (by omega)) (fun x12 ix12 => ?_)
    refine ok_ltI (av_add ix12 iy1 (by omega) (by omega)) (fun x13 ix13 => ?_)
    refine ok_bnd (s_fillPiece ty8 (pp_0 ty5 (tt_p ty5)) (by omega : 9 = 9 ∨ 9 = 10 ∨ 9 = 11) (gl_9 ty5 (tt_p ty5)) iy8 ix11 ix13 tn_16 (by omega) (by omega) (by omega) (by omega) (by omega) (by omega) (by omega)) ?_
    intro y14 hyy14
    obtain ⟨ty14, gy14⟩ := hyy14
    have fy14 := fr_tr fy8 gy14 rfl
    exact ok_some ⟨ty14, fy14⟩
  · refine ok_bnd (s_pieceX t i2 (by omega) (by omega)) ?_
    intro y1 hyy1
    obtain ⟨ty1, gy1, iy1⟩ := hyy1
    have fy1 := fr_tr (fr_0 p [2, 18] M) gy1 rfl
    refine ok_bnd (s_pieceY ty1 i2 (by omega) (by omega)) ?_
    intro y2 hyy2
    obtain ⟨ty2, gy2, iy2⟩ := hyy2
    have fy2 := fr_tr fy1 gy2 rfl
    refine ok_dr rfl (g_lt ty2 (by decide)) (g_k ty2 (by decide) rfl) ?_
    refine ok_bnd (s_levelAt ty2 i1 i2 (by omega) (by omega) (by omega) (by omega)) ?_
    intro y4 hyy4
    obtain ⟨ty4, gy4, iy4⟩ := hyy4
    have fy4 := fr_tr fy2 gy4 rfl
    refine ok_bnd (s_unfold ty4 (f_r (b := 132) ty2 rfl (by decide)) iy4 tn_0 i3 (by omega) (by omega) (by omega) (by omega) (by omega) (by omega)) ?_
    intro y5 hyy5
    obtain ⟨ty5, gy5⟩ := hyy5
    have fy5 := fr_tr fy4 gy5 rfl
    refine ok_dr (tt_pic ty5) (by have q := (tt_q0b ty5 (tt_p ty5)); omega) (gk_0 ty5 (tt_p ty5)) ?_
    refine ok_dr (pr_4 ty5 (tt_p ty5)) (by have q := (tt_q0b ty5 (tt_p ty5)); omega) (gk_2 ty5 (tt_p ty5)) ?_
    refine ok_chk (nxg (gl_2 ty5 (tt_p ty5)) tn_0 (by omega) (by omega)) ?_
    refine ok_bnd (s_lumaAt ty5 (tt_pic ty5) (tt_p ty5) i1 iy1 iy2 (by omega) (by omega) (by omega) (by omega) (by omega) (by omega)) ?_
    intro y8 hyy8
    obtain ⟨ty8, gy8, iy8⟩ := hyy8
    have fy8 := fr_tr fy5 gy8 rfl
    refine ok_dr (tt_pic ty8) (by have q := (tt_q0b ty8 (tt_p ty8)); omega) (gk_0 ty8 (tt_p ty8)) ?_
    refine ok_ltI (tw_q ty8 (tt_p ty8)) (fun x10 ix10 => ?_)
    refine ok_ltI (av_mul tn_16 ix10 (by omega) (by omega)) (fun x11 ix11 => ?_)
    refine ok_ltI (av_mul tn_16 iy2 (by omega) (by omega)) (fun x12 ix12 => ?_)
    refine ok_ltI (av_add ix12 iy1 (by omega) (by omega)) (fun x13 ix13 => ?_)
    refine ok_bnd (s_fillPiece ty8 (pp_0 ty5 (tt_p ty5)) (by omega : 9 = 9 ∨ 9 = 10 ∨ 9 = 11) (gl_9 ty5 (tt_p ty5)) iy8 ix11 ix13 tn_16 (by omega) (by omega) (by omega) (by omega) (by omega) (by omega) (by omega)) ?_
    intro y14 hyy14
    obtain ⟨ty14, gy14⟩ := hyy14
    have fy14 := fr_tr fy8 gy14 rfl
    exact ok_some ⟨ty14, fy14⟩
theorem s_fillSixteen {G : GG} {M : DD} {p : Nat} {w : Int} {L : List Nat} (t : TT G M p w L) {p0 : Option Nat} (e0 : p0 = some 125) {p1 : Int32} {a1 : Int} (i1 : TI p1 a1) {p2 : Int32} {a2 : Int} (i2 : TI p2 a2) (h0 : 0 ≤ a1) (h1 : a1 < 2 * w) (h2 : 0 ≤ a2) (h3 : a2 ≤ 51) : OK (FX6_fillSixteen G M 138 p0 p1 p2) (fun y => TT G y p w L ∧ Fr p [2, 18] M y) := by
  unfold FX6_fillSixteen
  subst e0
  have hw12 : 1 ≤ w ∧ w ≤ 2 := by rcases tt_w t with h | h <;> omega
  rcases tt_w t with rfl | rfl
  · refine ok_bnd (s_levelAt t i1 tn_16 (by omega) (by omega) (by omega) (by omega)) ?_
    intro y1 hyy1
    obtain ⟨ty1, gy1, iy1⟩ := hyy1
    have fy1 := fr_tr (fr_0 p [2, 18] M) gy1 rfl
    refine ok_bnd (Q := fun (z : Int32 × DD) => (0 ≤ z.1.toInt ∧ z.1.toInt ≤ 16) ∧ TT G z.2 p 1 L ∧ Fr p [2, 18] M z.2) (ok_itr (fun (z : Int32 × DD) => (0 ≤ z.1.toInt ∧ z.1.toInt ≤ 16) ∧ TT G z.2 p 1 L ∧ Fr p [2, 18] M z.2) (fun z => (16 - z.1.toInt).toNat) ?_ _ _ ?_ ?_) ?_
    · intro s3 hys3
      obtain ⟨ls3_1, ts3_2, fs3_2⟩ := hys3
      have is3_1 : TI s3.1 s3.1.toInt := rfl
      refine ok_if (fun c1 => ?_) (fun c1 => ?_)
      · have dc1 := tl_le tn_16 is3_1 c1
        exact ok_some ⟨(ti_bd is3_1 (by omega) (by omega)), ts3_2, fs3_2⟩
      · have dc1 := tl_nle tn_16 is3_1 c1
        refine ok_chk (nx is3_1 (by omega) (by omega)) ?_
        refine ok_ltB (tb_15 _) (fun x41 lx41 => ?_)
        have ix41 : TI x41 x41.toInt := rfl
        refine ok_ltI (av_mul tn_4 ix41 (by omega) (by omega)) (fun x42 ix42 => ?_)
        refine ok_chk (nx is3_1 (by omega) (by omega)) ?_
        refine ok_ltB (tb_14 _) (fun x43 lx43 => ?_)
        have ix43 : TI x43 x43.toInt := rfl
        refine ok_ltI (av_add ix42 ix43 (by omega) (by omega)) (fun x44 ix44 => ?_)
        refine ok_dr rfl (g_lt ts3_2 (by decide)) (g_k ts3_2 (by decide) rfl) ?_
        refine ok_ltI (av_add iy1 is3_1 (by omega) (by omega)) (fun x46 ix46 => ?_)
        refine ok_dr (f_r (b := 132) ts3_2 rfl (by decide)) (g_lt ts3_2 (by decide)) (g_k ts3_2 (by decide) rfl) ?_
        refine ok_chk (nxg (g_n (i := 132) (n := 13824) ts3_2 (by decide) rfl) ix46 (by omega) (by omega)) ?_
        refine ok_ltA (fun x48 => ?_)
        refine ok_dr (f_r (b := 146) ts3_2 rfl (by decide)) (g_lt ts3_2 (by decide)) (g_k ts3_2 (by decide) rfl) ?_
        refine ok_chk (nxg (g_n (i := 146) (n := 16) ts3_2 (by decide) rfl) ix44 (by omega) (by omega)) ?_
        refine ok_ltt (fun M50 eM50 => ?_)
        have tM50 : TT G M50 p 1 L := by rw [eM50]; exact (tt_w0 ts3_2 rfl)
        have fM50 : Fr p [2, 18] M M50 := by rw [eM50]; exact (fr_w fs3_2 rfl)
        clear eM50
        refine ok_ltI (av_add is3_1 tn_1 (by omega) (by omega)) (fun x51 ix51 => ?_)
        exact ok_some ⟨⟨(ti_bd ix51 (by omega) (by omega)), tM50, fM50⟩, (mu_up ix51 (by omega) (by omega))⟩
    · exact ⟨(ti_bd tn_0 (by omega) (by omega)), ty1, fy1⟩
    · exact mu_0 tn_0 (by omega)
    · intro y2 hyy2
      obtain ⟨ly2_1, ty2_2, fy2_2⟩ := hyy2
      have iy2_1 : TI y2.1 y2.1.toInt := rfl
      refine ok_bnd (s_turnEven ty2_2) ?_
      intro y5 hyy5
      obtain ⟨ty5, gy5⟩ := hyy5
      have fy5 := fr_tr fy2_2 gy5 rfl
      refine ok_bnd (Q := fun (z : Int32 × DD) => (0 ≤ z.1.toInt ∧ z.1.toInt ≤ 16) ∧ TT G z.2 p 1 L ∧ Fr p [2, 18] M z.2) (ok_itr (fun (z : Int32 × DD) => (0 ≤ z.1.toInt ∧ z.1.toInt ≤ 16) ∧ TT G z.2 p 1 L ∧ Fr p [2, 18] M z.2) (fun z => (16 - z.1.toInt).toNat) ?_ _ _ ?_ ?_) ?_
      · intro s7 hys7
        obtain ⟨ls7_1, ts7_2, fs7_2⟩ := hys7
        have is7_1 : TI s7.1 s7.1.toInt := rfl
        refine ok_if (fun c2 => ?_) (fun c2 => ?_)
        · have dc2 := tl_le tn_16 is7_1 c2
          exact ok_some ⟨(ti_bd is7_1 (by omega) (by omega)), ts7_2, fs7_2⟩
        · have dc2 := tl_nle tn_16 is7_1 c2
          refine ok_bnd (s_pieceX ts7_2 is7_1 (by omega) (by omega)) ?_
          intro y11 hyy11
          obtain ⟨ty11, gy11, iy11⟩ := hyy11
          have fy11 := fr_tr fs7_2 gy11 rfl
          refine ok_bnd (s_pieceY ty11 is7_1 (by omega) (by omega)) ?_
          intro y12 hyy12
          obtain ⟨ty12, gy12, iy12⟩ := hyy12
          have fy12 := fr_tr fy11 gy12 rfl
          refine ok_dr rfl (g_lt ty12 (by decide)) (g_k ty12 (by decide) rfl) ?_
          refine ok_bnd (s_levelAt ty12 i1 is7_1 (by omega) (by omega) (by omega) (by omega)) ?_
          intro y14 hyy14
          obtain ⟨ty14, gy14, iy14⟩ := hyy14
          have fy14 := fr_tr fy12 gy14 rfl
          refine ok_bnd (s_unfold ty14 (f_r (b := 132) ty12 rfl (by decide)) iy14 tn_1 i2 (by omega) (by omega) (by omega) (by omega) (by omega) (by omega)) ?_
          intro y15 hyy15
          obtain ⟨ty15, gy15⟩ := hyy15
          have fy15 := fr_tr fy14 gy15 rfl
          refine ok_ltI (av_div iy11 tn_4 (by omega) (by omega)) (fun x16 ix16 => ?_)
          refine ok_ltI (av_add iy12 ix16 (by omega) (by omega)) (fun x17 ix17 => ?_)
          refine ok_dr (f_r (b := 146) ty15 rfl (by decide)) (g_lt ty15 (by decide)) (g_k ty15 (by decide) rfl) ?_
          refine ok_chk (nxg (g_n (i := 146) (n := 16) ty15 (by decide) rfl) ix17 (by omega) (by omega)) ?_
          refine ok_ltA (fun x19 => ?_)
          refine ok_bnd (s_normAt ty15 i2 tn_0 tn_0 (by omega) (by omega)) ?_
          intro y20 hyy20
          obtain ⟨ty20, gy20, ly20⟩ := hyy20
          have fy20 := fr_tr fy15 gy20 rfl
          have iy20 : TI y20.2 y20.2.toInt := rfl
          refine ok_chk (nx iy20 (by omega) (by omega)) ?_
          refine ok_ltB (tb_13 _) (fun x21 lx21 => ?_)
          have ix21 : TI x21 x21.toInt := rfl
          refine ok_ltA (fun x22 => ?_)
          refine ok_ltI (av_div i2 tn_6 (by omega) (by omega)) (fun x23 ix23 => ?_)
          refine ok_ltA (fun x24 => ?_)
          refine ok_ltA (fun x25 => ?_)
          refine ok_ltA (fun x26 => ?_)
          refine ok_dr (f_r (b := 145) ty15 rfl (by decide)) (g_lt ty20 (by decide)) (g_k ty20 (by decide) rfl) ?_
          refine ok_chk (nxg (g_n (i := 145) (n := 16) ty20 (by decide) rfl) tn_0 (by omega) (by omega)) ?_
          refine ok_ltt (fun M28 eM28 => ?_)
          have tM28 : TT G M28 p 1 L := by rw [eM28]; exact (tt_w0 ty20 rfl)
          have fM28 : Fr p [2, 18] M M28 := by rw [eM28]; exact (fr_w fy20 rfl)
          clear eM28
          refine ok_dr (tt_pic tM28) (by have q := (tt_q0b tM28 (tt_p tM28)); omega) (gk_0 tM28 (tt_p tM28)) ?_
          refine ok_dr (pr_4 tM28 (tt_p tM28)) (by have q := (tt_q0b tM28 (tt_p tM28)); omega) (gk_2 tM28 (tt_p tM28)) ?_
          refine ok_chk (nxg (gl_2 tM28 (tt_p tM28)) tn_0 (by omega) (by omega)) ?_
          refine ok_bnd (s_lumaAt tM28 (tt_pic tM28) (tt_p tM28) i1 iy11 iy12 (by omega) (by omega) (by omega) (by omega) (by omega) (by omega)) ?_
          intro y31 hyy31
          obtain ⟨ty31, gy31, iy31⟩ := hyy31
          have fy31 := fr_tr fM28 gy31 rfl
          refine ok_dr (tt_pic ty31) (by have q := (tt_q0b ty31 (tt_p ty31)); omega) (gk_0 ty31 (tt_p ty31)) ?_
          refine ok_ltI (tw_q ty31 (tt_p ty31)) (fun x33 ix33 => ?_)
          refine ok_ltI (av_mul tn_16 ix33 (by omega) (by omega)) (fun x34 ix34 => ?_)
          refine ok_ltI (av_mul tn_16 iy12 (by omega) (by omega)) (fun x35 ix35 => ?_)
          refine ok_ltI (av_add ix35 iy11 (by omega) (by omega)) (fun x36 ix36 => ?_)
          refine ok_bnd (s_fillPiece ty31 (pp_0 tM28 (tt_p tM28)) (by omega : 9 = 9 ∨ 9 = 10 ∨ 9 = 11) (gl_9 tM28 (tt_p tM28)) iy31 ix34 ix36 tn_16 (by omega) (by omega) (by omega) (by omega) (by omega) (by omega) (by omega)) ?_
          intro y37 hyy37
          obtain ⟨ty37, gy37⟩ := hyy37
          have fy37 := fr_tr fy31 gy37 rfl
          refine ok_ltI (av_add is7_1 tn_1 (by omega) (by omega)) (fun x38 ix38 => ?_)
          exact ok_some ⟨⟨(ti_bd ix38 (by omega) (by omega)), ty37, fy37⟩, (mu_up ix38 (by omega) (by omega))⟩
      · exact ⟨(ti_bd tn_0 (by omega) (by omega)), ty5, fy5⟩
      · exact mu_0 tn_0 (by omega)
      · intro y6 hyy6
        obtain ⟨ly6_1, ty6_2, fy6_2⟩ := hyy6
        have iy6_1 : TI y6.1 y6.1.toInt := rfl
        exact ok_some ⟨ty6_2, fy6_2⟩
  · refine ok_bnd (s_levelAt t i1 tn_16 (by omega) (by omega) (by omega) (by omega)) ?_
    intro y1 hyy1
    obtain ⟨ty1, gy1, iy1⟩ := hyy1
    have fy1 := fr_tr (fr_0 p [2, 18] M) gy1 rfl
    refine ok_bnd (Q := fun (z : Int32 × DD) => (0 ≤ z.1.toInt ∧ z.1.toInt ≤ 16) ∧ TT G z.2 p 2 L ∧ Fr p [2, 18] M z.2) (ok_itr (fun (z : Int32 × DD) => (0 ≤ z.1.toInt ∧ z.1.toInt ≤ 16) ∧ TT G z.2 p 2 L ∧ Fr p [2, 18] M z.2) (fun z => (16 - z.1.toInt).toNat) ?_ _ _ ?_ ?_) ?_
    · intro s3 hys3
      obtain ⟨ls3_1, ts3_2, fs3_2⟩ := hys3
      have is3_1 : TI s3.1 s3.1.toInt := rfl
      refine ok_if (fun c1 => ?_) (fun c1 => ?_)
      · have dc1 := tl_le tn_16 is3_1 c1
        exact ok_some ⟨(ti_bd is3_1 (by omega) (by omega)), ts3_2, fs3_2⟩
      · have dc1 := tl_nle tn_16 is3_1 c1
        refine ok_chk (nx is3_1 (by omega) (by omega)) ?_
        refine ok_ltB (tb_15 _) (fun x41 lx41 => ?_)
        have ix41 : TI x41 x41.toInt := rfl
        refine ok_ltI (av_mul tn_4 ix41 (by omega) (by omega)) (fun x42 ix42 => ?_)
        refine ok_chk (nx is3_1 (by omega) (by omega)) ?_
        refine ok_ltB (tb_14 _) (fun x43 lx43 => ?_)
        have ix43 : TI x43 x43.toInt := rfl
        refine ok_ltI (av_add ix42 ix43 (by omega) (by omega)) (fun x44 ix44 => ?_)
        refine ok_dr rfl (g_lt ts3_2 (by decide)) (g_k ts3_2 (by decide) rfl) ?_
        refine ok_ltI (av_add iy1 is3_1 (by omega) (by omega)) (fun x46 ix46 => ?_)
        refine ok_dr (f_r (b := 132) ts3_2 rfl (by decide)) (g_lt ts3_2 (by decide)) (g_k ts3_2 (by decide) rfl) ?_
        refine ok_chk (nxg (g_n (i := 132) (n := 13824) ts3_2 (by decide) rfl) ix46 (by omega) (by omega)) ?_
        refine ok_ltA (fun x48 => ?_)
        refine ok_dr (f_r (b := 146) ts3_2 rfl (by decide)) (g_lt ts3_2 (by decide)) (g_k ts3_2 (by decide) rfl) ?_
        refine ok_chk (nxg (g_n (i := 146) (n := 16) ts3_2 (by decide) rfl) ix44 (by omega) (by omega)) ?_
        refine ok_ltt (fun M50 eM50 => ?_)
        have tM50 : TT G M50 p 2 L := by rw [eM50]; exact (tt_w0 ts3_2 rfl)
        have fM50 : Fr p [2, 18] M M50 := by rw [eM50]; exact (fr_w fs3_2 rfl)
        clear eM50
        refine ok_ltI (av_add is3_1 tn_1 (by omega) (by omega)) (fun x51 ix51 => ?_)
        exact ok_some ⟨⟨(ti_bd ix51 (by omega) (by omega)), tM50, fM50⟩, (mu_up ix51 (by omega) (by omega))⟩
    · exact ⟨(ti_bd tn_0 (by omega) (by omega)), ty1, fy1⟩
    · exact mu_0 tn_0 (by omega)
    · intro y2 hyy2
      obtain ⟨ly2_1, ty2_2, fy2_2⟩ := hyy2
      have iy2_1 : TI y2.1 y2.1.toInt := rfl
      refine ok_bnd (s_turnEven ty2_2) ?_
      intro y5 hyy5
      obtain ⟨ty5, gy5⟩ := hyy5
      have fy5 := fr_tr fy2_2 gy5 rfl
      refine ok_bnd (Q := fun (z : Int32 × DD) => (0 ≤ z.1.toInt ∧ z.1.toInt ≤ 16) ∧ TT G z.2 p 2 L ∧ Fr p [2, 18] M z.2) (ok_itr (fun (z : Int32 × DD) => (0 ≤ z.1.toInt ∧ z.1.toInt ≤ 16) ∧ TT G z.2 p 2 L ∧ Fr p [2, 18] M z.2) (fun z => (16 - z.1.toInt).toNat) ?_ _ _ ?_ ?_) ?_
      · intro s7 hys7
        obtain ⟨ls7_1, ts7_2, fs7_2⟩ := hys7
        have is7_1 : TI s7.1 s7.1.toInt := rfl
        refine ok_if (fun c2 => ?_) (fun c2 => ?_)
        · have dc2 := tl_le tn_16 is7_1 c2
          exact ok_some ⟨(ti_bd is7_1 (by omega) (by omega)), ts7_2, fs7_2⟩
        · have dc2 := tl_nle tn_16 is7_1 c2
          refine ok_bnd (s_pieceX ts7_2 is7_1 (by omega) (by omega)) ?_
          intro y11 hyy11
          obtain ⟨ty11, gy11, iy11⟩ := hyy11
          have fy11 := fr_tr fs7_2 gy11 rfl
          refine ok_bnd (s_pieceY ty11 is7_1 (by omega) (by omega)) ?_
          intro y12 hyy12
          obtain ⟨ty12, gy12, iy12⟩ := hyy12
          have fy12 := fr_tr fy11 gy12 rfl
          refine ok_dr rfl (g_lt ty12 (by decide)) (g_k ty12 (by decide) rfl) ?_
          refine ok_bnd (s_levelAt ty12 i1 is7_1 (by omega) (by omega) (by omega) (by omega)) ?_
          intro y14 hyy14
          obtain ⟨ty14, gy14, iy14⟩ := hyy14
          have fy14 := fr_tr fy12 gy14 rfl
          refine ok_bnd (s_unfold ty14 (f_r (b := 132) ty12 rfl (by decide)) iy14 tn_1 i2 (by omega) (by omega) (by omega) (by omega) (by omega) (by omega)) ?_
          intro y15 hyy15
          obtain ⟨ty15, gy15⟩ := hyy15
          have fy15 := fr_tr fy14 gy15 rfl
          refine ok_ltI (av_div iy11 tn_4 (by omega) (by omega)) (fun x16 ix16 => ?_)
          refine ok_ltI (av_add iy12 ix16 (by omega) (by omega)) (fun x17 ix17 => ?_)
          refine ok_dr (f_r (b := 146) ty15 rfl (by decide)) (g_lt ty15 (by decide)) (g_k ty15 (by decide) rfl) ?_
          refine ok_chk (nxg (g_n (i := 146) (n := 16) ty15 (by decide) rfl) ix17 (by omega) (by omega)) ?_
          refine ok_ltA (fun x19 => ?_)
          refine ok_bnd (s_normAt ty15 i2 tn_0 tn_0 (by omega) (by omega)) ?_
          intro y20 hyy20
          obtain ⟨ty20, gy20, ly20⟩ := hyy20
          have fy20 := fr_tr fy15 gy20 rfl
          have iy20 : TI y20.2 y20.2.toInt := rfl
          refine ok_chk (nx iy20 (by omega) (by omega)) ?_
          refine ok_ltB (tb_13 _) (fun x21 lx21 => ?_)
          have ix21 : TI x21 x21.toInt := rfl
          refine ok_ltA (fun x22 => ?_)
          refine ok_ltI (av_div i2 tn_6 (by omega) (by omega)) (fun x23 ix23 => ?_)
          refine ok_ltA (fun x24 => ?_)
          refine ok_ltA (fun x25 => ?_)
          refine ok_ltA (fun x26 => ?_)
          refine ok_dr (f_r (b := 145) ty15 rfl (by decide)) (g_lt ty20 (by decide)) (g_k ty20 (by decide) rfl) ?_
          refine ok_chk (nxg (g_n (i := 145) (n := 16) ty20 (by decide) rfl) tn_0 (by omega) (by omega)) ?_
          refine ok_ltt (fun M28 eM28 => ?_)
          have tM28 : TT G M28 p 2 L := by rw [eM28]; exact (tt_w0 ty20 rfl)
          have fM28 : Fr p [2, 18] M M28 := by rw [eM28]; exact (fr_w fy20 rfl)
          clear eM28
          refine ok_dr (tt_pic tM28) (by have q := (tt_q0b tM28 (tt_p tM28)); omega) (gk_0 tM28 (tt_p tM28)) ?_
          refine ok_dr (pr_4 tM28 (tt_p tM28)) (by have q := (tt_q0b tM28 (tt_p tM28)); omega) (gk_2 tM28 (tt_p tM28)) ?_
          refine ok_chk (nxg (gl_2 tM28 (tt_p tM28)) tn_0 (by omega) (by omega)) ?_
          refine ok_bnd (s_lumaAt tM28 (tt_pic tM28) (tt_p tM28) i1 iy11 iy12 (by omega) (by omega) (by omega) (by omega) (by omega) (by omega)) ?_
          intro y31 hyy31
          obtain ⟨ty31, gy31, iy31⟩ := hyy31
          have fy31 := fr_tr fM28 gy31 rfl
          refine ok_dr (tt_pic ty31) (by have q := (tt_q0b ty31 (tt_p ty31)); omega) (gk_0 ty31 (tt_p ty31)) ?_
          refine ok_ltI (tw_q ty31 (tt_p ty31)) (fun x33 ix33 => ?_)
          refine ok_ltI (av_mul tn_16 ix33 (by omega) (by omega)) (fun x34 ix34 => ?_)
          refine ok_ltI (av_mul tn_16 iy12 (by omega) (by omega)) (fun x35 ix35 => ?_)
          refine ok_ltI (av_add ix35 iy11 (by omega) (by omega)) (fun x36 ix36 => ?_)
          refine ok_bnd (s_fillPiece ty31 (pp_0 tM28 (tt_p tM28)) (by omega : 9 = 9 ∨ 9 = 10 ∨ 9 = 11) (gl_9 tM28 (tt_p tM28)) iy31 ix34 ix36 tn_16 (by omega) (by omega) (by omega) (by omega) (by omega) (by omega) (by omega)) ?_
          intro y37 hyy37
          obtain ⟨ty37, gy37⟩ := hyy37
          have fy37 := fr_tr fy31 gy37 rfl
          refine ok_ltI (av_add is7_1 tn_1 (by omega) (by omega)) (fun x38 ix38 => ?_)
          exact ok_some ⟨⟨(ti_bd ix38 (by omega) (by omega)), ty37, fy37⟩, (mu_up ix38 (by omega) (by omega))⟩
      · exact ⟨(ti_bd tn_0 (by omega) (by omega)), ty5, fy5⟩
      · exact mu_0 tn_0 (by omega)
      · intro y6 hyy6
        obtain ⟨ly6_1, ty6_2, fy6_2⟩ := hyy6
        have iy6_1 : TI y6.1 y6.1.toInt := rfl
        exact ok_some ⟨ty6_2, fy6_2⟩
theorem s_fillColours {G : GG} {M : DD} {p : Nat} {w : Int} {L : List Nat} (t : TT G M p w L) {p0 : Option Nat} (e0 : p0 = some 125) {p1 : Int32} {a1 : Int} (i1 : TI p1 a1) {p2 : Int32} {a2 : Int} (i2 : TI p2 a2) (h0 : 0 ≤ a1) (h1 : a1 < 2 * w) (h2 : 0 ≤ a2) (h3 : a2 ≤ 51) : OK (FX6_fillColours G M 138 p0 p1 p2) (fun y => TT G y p w L ∧ Fr p [2, 18] M y) := by
  unfold FX6_fillColours
  subst e0
  have hw12 : 1 ≤ w ∧ w ≤ 2 := by rcases tt_w t with h | h <;> omega
  rcases tt_w t with rfl | rfl
  · refine ok_bnd (Q := fun (z : Int32 × DD) => (1 ≤ z.1.toInt ∧ z.1.toInt ≤ 3) ∧ TT G z.2 p 1 L ∧ Fr p [2, 18] M z.2) (ok_itr (fun (z : Int32 × DD) => (1 ≤ z.1.toInt ∧ z.1.toInt ≤ 3) ∧ TT G z.2 p 1 L ∧ Fr p [2, 18] M z.2) (fun z => (3 - z.1.toInt).toNat) ?_ _ _ ?_ ?_) ?_
    · intro s2 hys2
      obtain ⟨ls2_1, ts2_2, fs2_2⟩ := hys2
      have is2_1 : TI s2.1 s2.1.toInt := rfl
      refine ok_if (fun c1 => ?_) (fun c1 => ?_)
      · have dc1 := tl_le tn_3 is2_1 c1
        exact ok_some ⟨(ti_bd is2_1 (by omega) (by omega)), ts2_2, fs2_2⟩
      · have dc1 := tl_nle tn_3 is2_1 c1
        refine ok_dr rfl (g_lt ts2_2 (by decide)) (g_k ts2_2 (by decide) rfl) ?_
        refine ok_ltI (av_add tn_16 is2_1 (by omega) (by omega)) (fun x7 ix7 => ?_)
        refine ok_bnd (s_levelAt ts2_2 i1 ix7 (by omega) (by omega) (by omega) (by omega)) ?_
        intro y8 hyy8
        obtain ⟨ty8, gy8, iy8⟩ := hyy8
        have fy8 := fr_tr fs2_2 gy8 rfl
        refine ok_dr (f_r (b := 132) ts2_2 rfl (by decide)) (g_lt ty8 (by decide)) (g_k ty8 (by decide) rfl) ?_
        refine ok_dr (f_r (b := 146) ty8 rfl (by decide)) (g_lt ty8 (by decide)) (g_k ty8 (by decide) rfl) ?_
        refine ok_chk (cpx iy8 tn_0 tn_4 (by omega) (by omega) (by omega) (by have q := (g_n (i := 132) (n := 13824) ty8 (by decide) rfl); omega) (by have q := (g_n (i := 146) (n := 16) ty8 (by decide) rfl); omega)) ?_
        refine ok_ltt (fun M11 eM11 => ?_)
        have tM11 : TT G M11 p 1 L := by rw [eM11]; exact (tt_r0 ty8 rfl)
        have fM11 : Fr p [2, 18] M M11 := by rw [eM11]; exact (fr_r fy8 (fun _ => rfl))
        clear eM11
        refine ok_bnd (s_turnFour tM11) ?_
        intro y12 hyy12
        obtain ⟨ty12, gy12⟩ := hyy12
        have fy12 := fr_tr fM11 gy12 rfl
        refine ok_bnd (Q := fun (z : Int32 × DD) => (0 ≤ z.1.toInt ∧ z.1.toInt ≤ 4) ∧ TT G z.2 p 1 L ∧ Fr p [2, 18] M z.2) (ok_itr (fun (z : Int32 × DD) => (0 ≤ z.1.toInt ∧ z.1.toInt ≤ 4) ∧ TT G z.2 p 1 L ∧ Fr p [2, 18] M z.2) (fun z => (4 - z.1.toInt).toNat) ?_ _ _ ?_ ?_) ?_
        · intro s14 hys14
          obtain ⟨ls14_1, ts14_2, fs14_2⟩ := hys14
          have is14_1 : TI s14.1 s14.1.toInt := rfl
          refine ok_if (fun c2 => ?_) (fun c2 => ?_)
          · have dc2 := tl_le tn_4 is14_1 c2
            exact ok_some ⟨(ti_bd is14_1 (by omega) (by omega)), ts14_2, fs14_2⟩
          · have dc2 := tl_nle tn_4 is14_1 c2
            refine ok_ltI (av_mod is14_1 tn_2 (by omega) (by omega)) (fun x19 ix19 => ?_)
            refine ok_ltI (av_mul ix19 tn_4 (by omega) (by omega)) (fun x20 ix20 => ?_)
            refine ok_ltI (av_div is14_1 tn_2 (by omega) (by omega)) (fun x21 ix21 => ?_)
            refine ok_ltI (av_mul ix21 tn_4 (by omega) (by omega)) (fun x22 ix22 => ?_)
            refine ok_ltI (av_mul tn_4 is2_1 (by omega) (by omega)) (fun x23 ix23 => ?_)
            refine ok_ltI (av_add tn_15 ix23 (by omega) (by omega)) (fun x24 ix24 => ?_)
            refine ok_ltI (av_add ix24 is14_1 (by omega) (by omega)) (fun x25 ix25 => ?_)
            refine ok_bnd (s_levelAt ts14_2 i1 ix25 (by omega) (by omega) (by omega) (by omega)) ?_
            intro y26 hyy26
            obtain ⟨ty26, gy26, iy26⟩ := hyy26
            have fy26 := fr_tr fs14_2 gy26 rfl
            refine ok_bnd (s_unfold ty26 (f_r (b := 132) ts14_2 rfl (by decide)) iy26 tn_1 i2 (by omega) (by omega) (by omega) (by omega) (by omega) (by omega)) ?_
            intro y27 hyy27
            obtain ⟨ty27, gy27⟩ := hyy27
            have fy27 := fr_tr fy26 gy27 rfl
            refine ok_dr (f_r (b := 146) ty27 rfl (by decide)) (g_lt ty27 (by decide)) (g_k ty27 (by decide) rfl) ?_
            refine ok_chk (nxg (g_n (i := 146) (n := 16) ty27 (by decide) rfl) is14_1 (by omega) (by omega)) ?_
            refine ok_ltA (fun x29 => ?_)
            refine ok_bnd (s_normAt ty27 i2 tn_0 tn_0 (by omega) (by omega)) ?_
            intro y30 hyy30
            obtain ⟨ty30, gy30, ly30⟩ := hyy30
            have fy30 := fr_tr fy27 gy30 rfl
            have iy30 : TI y30.2 y30.2.toInt := rfl
            refine ok_chk (nx iy30 (by omega) (by omega)) ?_
            refine ok_ltB (tb_13 _) (fun x31 lx31 => ?_)
            have ix31 : TI x31 x31.toInt := rfl
            refine ok_ltA (fun x32 => ?_)
            refine ok_ltI (av_div i2 tn_6 (by omega) (by omega)) (fun x33 ix33 => ?_)
            refine ok_ltA (fun x34 => ?_)
            refine ok_ltA (fun x35 => ?_)
            refine ok_dr (f_r (b := 145) ty27 rfl (by decide)) (g_lt ty30 (by decide)) (g_k ty30 (by decide) rfl) ?_
            refine ok_chk (nxg (g_n (i := 145) (n := 16) ty30 (by decide) rfl) tn_0 (by omega) (by omega)) ?_
            refine ok_ltt (fun M37 eM37 => ?_)
            have tM37 : TT G M37 p 1 L := by rw [eM37]; exact (tt_w0 ty30 rfl)
            have fM37 : Fr p [2, 18] M M37 := by rw [eM37]; exact (fr_w fy30 rfl)
            clear eM37
            refine ok_dr (tt_pic tM37) (by have q := (tt_q0b tM37 (tt_p tM37)); omega) (gk_0 tM37 (tt_p tM37)) ?_
            refine ok_dr (pr_4 tM37 (tt_p tM37)) (by have q := (tt_q0b tM37 (tt_p tM37)); omega) (gk_2 tM37 (tt_p tM37)) ?_
            refine ok_chk (nxg (gl_2 tM37 (tt_p tM37)) is2_1 (by omega) (by omega)) ?_
            refine ok_bnd (s_colourAt tM37 (tt_pic tM37) (tt_p tM37) i1 ix20 ix22 (by omega) (by omega) (by omega) (by omega) (by omega) (by omega)) ?_
            intro y40 hyy40
            obtain ⟨ty40, gy40, iy40⟩ := hyy40
            have fy40 := fr_tr fM37 gy40 rfl
            refine ok_dr (tt_pic ty40) (by have q := (tt_q0b ty40 (tt_p ty40)); omega) (gk_0 ty40 (tt_p ty40)) ?_
            refine ok_ltI (tw_q ty40 (tt_p ty40)) (fun x42 ix42 => ?_)
            refine ok_ltI (av_mul tn_8 ix42 (by omega) (by omega)) (fun x43 ix43 => ?_)
            refine ok_ltI (av_mul tn_64 is2_1 (by omega) (by omega)) (fun x44 ix44 => ?_)
            refine ok_ltI (av_add tn_192 ix44 (by omega) (by omega)) (fun x45 ix45 => ?_)
            refine ok_ltI (av_mul tn_8 ix22 (by omega) (by omega)) (fun x46 ix46 => ?_)
            refine ok_ltI (av_add ix45 ix46 (by omega) (by omega)) (fun x47 ix47 => ?_)
            refine ok_ltI (av_add ix47 ix20 (by omega) (by omega)) (fun x48 ix48 => ?_)
            obtain ⟨j3, hj3, nj3, ej3⟩ := pp_v tM37 (tt_p tM37) is2_1 (by omega) (by omega)
            refine ok_bnd (s_fillPiece ty40 ej3 (pl_3 hj3) nj3 iy40 ix43 ix48 tn_8 (by omega) (by omega) (by omega) (by omega) (by omega) (by omega) (by omega)) ?_
            intro y49 hyy49
            obtain ⟨ty49, gy49⟩ := hyy49
            have fy49 := fr_tr fy40 gy49 rfl
            refine ok_ltI (av_add is14_1 tn_1 (by omega) (by omega)) (fun x50 ix50 => ?_)
            exact ok_some ⟨⟨(ti_bd ix50 (by omega) (by omega)), ty49, fy49⟩, (mu_up ix50 (by omega) (by omega))⟩
        · exact ⟨(ti_bd tn_0 (by omega) (by omega)), ty12, fy12⟩
        · exact mu_0 tn_0 (by omega)
        · intro y13 hyy13
          obtain ⟨ly13_1, ty13_2, fy13_2⟩ := hyy13
          have iy13_1 : TI y13.1 y13.1.toInt := rfl
          refine ok_ltI (av_add is2_1 tn_1 (by omega) (by omega)) (fun x16 ix16 => ?_)
          exact ok_some ⟨⟨(ti_bd ix16 (by omega) (by omega)), ty13_2, fy13_2⟩, (mu_up ix16 (by omega) (by omega))⟩
    · exact ⟨(ti_bd tn_1 (by omega) (by omega)), t, (fr_0 p [2, 18] M)⟩
    · exact mu_0 tn_1 (by omega)
    · intro y1 hyy1
      obtain ⟨ly1_1, ty1_2, fy1_2⟩ := hyy1
      have iy1_1 : TI y1.1 y1.1.toInt := rfl
      exact ok_some ⟨ty1_2, fy1_2⟩
  · refine ok_bnd (Q := fun (z : Int32 × DD) => (1 ≤ z.1.toInt ∧ z.1.toInt ≤ 3) ∧ TT G z.2 p 2 L ∧ Fr p [2, 18] M z.2) (ok_itr (fun (z : Int32 × DD) => (1 ≤ z.1.toInt ∧ z.1.toInt ≤ 3) ∧ TT G z.2 p 2 L ∧ Fr p [2, 18] M z.2) (fun z => (3 - z.1.toInt).toNat) ?_ _ _ ?_ ?_) ?_
    · intro s2 hys2
      obtain ⟨ls2_1, ts2_2, fs2_2⟩ := hys2
      have is2_1 : TI s2.1 s2.1.toInt := rfl
      refine ok_if (fun c1 => ?_) (fun c1 => ?_)
      · have dc1 := tl_le tn_3 is2_1 c1
        exact ok_some ⟨(ti_bd is2_1 (by omega) (by omega)), ts2_2, fs2_2⟩
      · have dc1 := tl_nle tn_3 is2_1 c1
        refine ok_dr rfl (g_lt ts2_2 (by decide)) (g_k ts2_2 (by decide) rfl) ?_
        refine ok_ltI (av_add tn_16 is2_1 (by omega) (by omega)) (fun x7 ix7 => ?_)
        refine ok_bnd (s_levelAt ts2_2 i1 ix7 (by omega) (by omega) (by omega) (by omega)) ?_
        intro y8 hyy8
        obtain ⟨ty8, gy8, iy8⟩ := hyy8
        have fy8 := fr_tr fs2_2 gy8 rfl
        refine ok_dr (f_r (b := 132) ts2_2 rfl (by decide)) (g_lt ty8 (by decide)) (g_k ty8 (by decide) rfl) ?_
        refine ok_dr (f_r (b := 146) ty8 rfl (by decide)) (g_lt ty8 (by decide)) (g_k ty8 (by decide) rfl) ?_
        refine ok_chk (cpx iy8 tn_0 tn_4 (by omega) (by omega) (by omega) (by have q := (g_n (i := 132) (n := 13824) ty8 (by decide) rfl); omega) (by have q := (g_n (i := 146) (n := 16) ty8 (by decide) rfl); omega)) ?_
        refine ok_ltt (fun M11 eM11 => ?_)
        have tM11 : TT G M11 p 2 L := by rw [eM11]; exact (tt_r0 ty8 rfl)
        have fM11 : Fr p [2, 18] M M11 := by rw [eM11]; exact (fr_r fy8 (fun _ => rfl))
        clear eM11
        refine ok_bnd (s_turnFour tM11) ?_
        intro y12 hyy12
        obtain ⟨ty12, gy12⟩ := hyy12
        have fy12 := fr_tr fM11 gy12 rfl
        refine ok_bnd (Q := fun (z : Int32 × DD) => (0 ≤ z.1.toInt ∧ z.1.toInt ≤ 4) ∧ TT G z.2 p 2 L ∧ Fr p [2, 18] M z.2) (ok_itr (fun (z : Int32 × DD) => (0 ≤ z.1.toInt ∧ z.1.toInt ≤ 4) ∧ TT G z.2 p 2 L ∧ Fr p [2, 18] M z.2) (fun z => (4 - z.1.toInt).toNat) ?_ _ _ ?_ ?_) ?_
        · intro s14 hys14
          obtain ⟨ls14_1, ts14_2, fs14_2⟩ := hys14
          have is14_1 : TI s14.1 s14.1.toInt := rfl
          refine ok_if (fun c2 => ?_) (fun c2 => ?_)
          · have dc2 := tl_le tn_4 is14_1 c2
            exact ok_some ⟨(ti_bd is14_1 (by omega) (by omega)), ts14_2, fs14_2⟩
          · have dc2 := tl_nle tn_4 is14_1 c2
            refine ok_ltI (av_mod is14_1 tn_2 (by omega) (by omega)) (fun x19 ix19 => ?_)
            refine ok_ltI (av_mul ix19 tn_4 (by omega) (by omega)) (fun x20 ix20 => ?_)
            refine ok_ltI (av_div is14_1 tn_2 (by omega) (by omega)) (fun x21 ix21 => ?_)
            refine ok_ltI (av_mul ix21 tn_4 (by omega) (by omega)) (fun x22 ix22 => ?_)
            refine ok_ltI (av_mul tn_4 is2_1 (by omega) (by omega)) (fun x23 ix23 => ?_)
            refine ok_ltI (av_add tn_15 ix23 (by omega) (by omega)) (fun x24 ix24 => ?_)
            refine ok_ltI (av_add ix24 is14_1 (by omega) (by omega)) (fun x25 ix25 => ?_)
            refine ok_bnd (s_levelAt ts14_2 i1 ix25 (by omega) (by omega) (by omega) (by omega)) ?_
            intro y26 hyy26
            obtain ⟨ty26, gy26, iy26⟩ := hyy26
            have fy26 := fr_tr fs14_2 gy26 rfl
            refine ok_bnd (s_unfold ty26 (f_r (b := 132) ts14_2 rfl (by decide)) iy26 tn_1 i2 (by omega) (by omega) (by omega) (by omega) (by omega) (by omega)) ?_
            intro y27 hyy27
            obtain ⟨ty27, gy27⟩ := hyy27
            have fy27 := fr_tr fy26 gy27 rfl
            refine ok_dr (f_r (b := 146) ty27 rfl (by decide)) (g_lt ty27 (by decide)) (g_k ty27 (by decide) rfl) ?_
            refine ok_chk (nxg (g_n (i := 146) (n := 16) ty27 (by decide) rfl) is14_1 (by omega) (by omega)) ?_
            refine ok_ltA (fun x29 => ?_)
            refine ok_bnd (s_normAt ty27 i2 tn_0 tn_0 (by omega) (by omega)) ?_
            intro y30 hyy30
            obtain ⟨ty30, gy30, ly30⟩ := hyy30
            have fy30 := fr_tr fy27 gy30 rfl
            have iy30 : TI y30.2 y30.2.toInt := rfl
            refine ok_chk (nx iy30 (by omega) (by omega)) ?_
            refine ok_ltB (tb_13 _) (fun x31 lx31 => ?_)
            have ix31 : TI x31 x31.toInt := rfl
            refine ok_ltA (fun x32 => ?_)
            refine ok_ltI (av_div i2 tn_6 (by omega) (by omega)) (fun x33 ix33 => ?_)
            refine ok_ltA (fun x34 => ?_)
            refine ok_ltA (fun x35 => ?_)
            refine ok_dr (f_r (b := 145) ty27 rfl (by decide)) (g_lt ty30 (by decide)) (g_k ty30 (by decide) rfl) ?_
            refine ok_chk (nxg (g_n (i := 145) (n := 16) ty30 (by decide) rfl) tn_0 (by omega) (by omega)) ?_
            refine ok_ltt (fun M37 eM37 => ?_)
            have tM37 : TT G M37 p 2 L := by rw [eM37]; exact (tt_w0 ty30 rfl)
            have fM37 : Fr p [2, 18] M M37 := by rw [eM37]; exact (fr_w fy30 rfl)
            clear eM37
            refine ok_dr (tt_pic tM37) (by have q := (tt_q0b tM37 (tt_p tM37)); omega) (gk_0 tM37 (tt_p tM37)) ?_
            refine ok_dr (pr_4 tM37 (tt_p tM37)) (by have q := (tt_q0b tM37 (tt_p tM37)); omega) (gk_2 tM37 (tt_p tM37)) ?_
            refine ok_chk (nxg (gl_2 tM37 (tt_p tM37)) is2_1 (by omega) (by omega)) ?_
            refine ok_bnd (s_colourAt tM37 (tt_pic tM37) (tt_p tM37) i1 ix20 ix22 (by omega) (by omega) (by omega) (by omega) (by omega) (by omega)) ?_
            intro y40 hyy40
            obtain ⟨ty40, gy40, iy40⟩ := hyy40
            have fy40 := fr_tr fM37 gy40 rfl
            refine ok_dr (tt_pic ty40) (by have q := (tt_q0b ty40 (tt_p ty40)); omega) (gk_0 ty40 (tt_p ty40)) ?_
            refine ok_ltI (tw_q ty40 (tt_p ty40)) (fun x42 ix42 => ?_)
            refine ok_ltI (av_mul tn_8 ix42 (by omega) (by omega)) (fun x43 ix43 => ?_)
            refine ok_ltI (av_mul tn_64 is2_1 (by omega) (by omega)) (fun x44 ix44 => ?_)
            refine ok_ltI (av_add tn_192 ix44 (by omega) (by omega)) (fun x45 ix45 => ?_)
            refine ok_ltI (av_mul tn_8 ix22 (by omega) (by omega)) (fun x46 ix46 => ?_)
            refine ok_ltI (av_add ix45 ix46 (by omega) (by omega)) (fun x47 ix47 => ?_)
            refine ok_ltI (av_add ix47 ix20 (by omega) (by omega)) (fun x48 ix48 => ?_)
            obtain ⟨j3, hj3, nj3, ej3⟩ := pp_v tM37 (tt_p tM37) is2_1 (by omega) (by omega)
            refine ok_bnd (s_fillPiece ty40 ej3 (pl_3 hj3) nj3 iy40 ix43 ix48 tn_8 (by omega) (by omega) (by omega) (by omega) (by omega) (by omega) (by omega)) ?_
            intro y49 hyy49
            obtain ⟨ty49, gy49⟩ := hyy49
            have fy49 := fr_tr fy40 gy49 rfl
            refine ok_ltI (av_add is14_1 tn_1 (by omega) (by omega)) (fun x50 ix50 => ?_)
            exact ok_some ⟨⟨(ti_bd ix50 (by omega) (by omega)), ty49, fy49⟩, (mu_up ix50 (by omega) (by omega))⟩
        · exact ⟨(ti_bd tn_0 (by omega) (by omega)), ty12, fy12⟩
        · exact mu_0 tn_0 (by omega)
        · intro y13 hyy13
          obtain ⟨ly13_1, ty13_2, fy13_2⟩ := hyy13
          have iy13_1 : TI y13.1 y13.1.toInt := rfl
          refine ok_ltI (av_add is2_1 tn_1 (by omega) (by omega)) (fun x16 ix16 => ?_)
          exact ok_some ⟨⟨(ti_bd ix16 (by omega) (by omega)), ty13_2, fy13_2⟩, (mu_up ix16 (by omega) (by omega))⟩
    · exact ⟨(ti_bd tn_1 (by omega) (by omega)), t, (fr_0 p [2, 18] M)⟩
    · exact mu_0 tn_1 (by omega)
    · intro y1 hyy1
      obtain ⟨ly1_1, ty1_2, fy1_2⟩ := hyy1
      have iy1_1 : TI y1.1 y1.1.toInt := rfl
      exact ok_some ⟨ty1_2, fy1_2⟩
theorem s_fillRaw {G : GG} {M : DD} {p : Nat} {w : Int} {L : List Nat} (t : TT G M p w L) {p0 : Option Nat} (e0 : p0 = some 125) {p1 : Int32} {a1 : Int} (i1 : TI p1 a1) (h0 : 0 ≤ a1) (h1 : a1 < 2 * w) : OK (FX6_fillRaw G M 138 p0 p1) (fun y => TT G y p w L ∧ Fr p [18] M y) := by
  unfold FX6_fillRaw
  subst e0
  have hw12 : 1 ≤ w ∧ w ≤ 2 := by rcases tt_w t with h | h <;> omega
  rcases tt_w t with rfl | rfl
  · refine ok_bnd (Q := fun (z : Int32 × DD) => (0 ≤ z.1.toInt ∧ z.1.toInt ≤ 16) ∧ TT G z.2 p 1 L ∧ Fr p [18] M z.2) (ok_itr (fun (z : Int32 × DD) => (0 ≤ z.1.toInt ∧ z.1.toInt ≤ 16) ∧ TT G z.2 p 1 L ∧ Fr p [18] M z.2) (fun z => (16 - z.1.toInt).toNat) ?_ _ _ ?_ ?_) ?_
    · intro s2 hys2
      obtain ⟨ls2_1, ts2_2, fs2_2⟩ := hys2
      have is2_1 : TI s2.1 s2.1.toInt := rfl
      refine ok_if (fun c1 => ?_) (fun c1 => ?_)
      · have dc1 := tl_le tn_16 is2_1 c1
        exact ok_some ⟨(ti_bd is2_1 (by omega) (by omega)), ts2_2, fs2_2⟩
      · have dc1 := tl_nle tn_16 is2_1 c1
        refine ok_ltI (av_mul tn_16 is2_1 (by omega) (by omega)) (fun x29 ix29 => ?_)
        refine ok_dr rfl (g_lt ts2_2 (by decide)) (g_k ts2_2 (by decide) rfl) ?_
        refine ok_dr (tt_pic ts2_2) (by have q := (tt_q0b ts2_2 (tt_p ts2_2)); omega) (gk_0 ts2_2 (tt_p ts2_2)) ?_
        refine ok_dr (pr_4 ts2_2 (tt_p ts2_2)) (by have q := (tt_q0b ts2_2 (tt_p ts2_2)); omega) (gk_2 ts2_2 (tt_p ts2_2)) ?_
        refine ok_chk (nxg (gl_2 ts2_2 (tt_p ts2_2)) tn_0 (by omega) (by omega)) ?_
        refine ok_bnd (s_lumaAt ts2_2 (tt_pic ts2_2) (tt_p ts2_2) i1 tn_0 is2_1 (by omega) (by omega) (by omega) (by omega) (by omega) (by omega)) ?_
        intro y33 hyy33
        obtain ⟨ty33, gy33, iy33⟩ := hyy33
        have fy33 := fr_tr fs2_2 gy33 rfl
        refine ok_dr (f_r (b := 139) ts2_2 rfl (by decide)) (g_lt ty33 (by decide)) (g_k ty33 (by decide) rfl) ?_
        refine ok_dr (pp_0 ts2_2 (tt_p ts2_2)) (by have q := (tt_q0b ty33 (tt_p ty33)); omega) (gk_s ty33 (tt_p ty33) (by omega : 9 = 9 ∨ 9 = 10 ∨ 9 = 11)) ?_
        refine ok_chk (cpx ix29 iy33 tn_16 (by omega) (by omega) (by omega) (by have q := (g_n (i := 139) (n := 384) ty33 (by decide) rfl); omega) (by have q := (gl_9 ts2_2 (tt_p ts2_2)); omega)) ?_
        refine ok_ltt (fun M36 eM36 => ?_)
        have tM36 : TT G M36 p 1 L := by rw [eM36]; exact (tt_rs ty33 (by omega : 9 = 9 ∨ 9 = 10 ∨ 9 = 11))
        have fM36 : Fr p [18] M M36 := by rw [eM36]; exact (fr_rs fy33 (tt_p0 ty33) (by omega : 9 = 9 ∨ 9 = 10 ∨ 9 = 11) rfl)
        clear eM36
        refine ok_ltI (av_add is2_1 tn_1 (by omega) (by omega)) (fun x37 ix37 => ?_)
        exact ok_some ⟨⟨(ti_bd ix37 (by omega) (by omega)), tM36, fM36⟩, (mu_up ix37 (by omega) (by omega))⟩
    · exact ⟨(ti_bd tn_0 (by omega) (by omega)), t, (fr_0 p [18] M)⟩
    · exact mu_0 tn_0 (by omega)
    · intro y1 hyy1
      obtain ⟨ly1_1, ty1_2, fy1_2⟩ := hyy1
      have iy1_1 : TI y1.1 y1.1.toInt := rfl
      refine ok_bnd (Q := fun (z : Int32 × DD) => (1 ≤ z.1.toInt ∧ z.1.toInt ≤ 3) ∧ TT G z.2 p 1 L ∧ Fr p [18] M z.2) (ok_itr (fun (z : Int32 × DD) => (1 ≤ z.1.toInt ∧ z.1.toInt ≤ 3) ∧ TT G z.2 p 1 L ∧ Fr p [18] M z.2) (fun z => (3 - z.1.toInt).toNat) ?_ _ _ ?_ ?_) ?_
      · intro s5 hys5
        obtain ⟨ls5_1, ts5_2, fs5_2⟩ := hys5
        have is5_1 : TI s5.1 s5.1.toInt := rfl
        refine ok_if (fun c2 => ?_) (fun c2 => ?_)
        · have dc2 := tl_le tn_3 is5_1 c2
          exact ok_some ⟨(ti_bd is5_1 (by omega) (by omega)), ts5_2, fs5_2⟩
        · have dc2 := tl_nle tn_3 is5_1 c2
          refine ok_bnd (Q := fun (z : Int32 × DD) => (0 ≤ z.1.toInt ∧ z.1.toInt ≤ 8) ∧ TT G z.2 p 1 L ∧ Fr p [18] M z.2) (ok_itr (fun (z : Int32 × DD) => (0 ≤ z.1.toInt ∧ z.1.toInt ≤ 8) ∧ TT G z.2 p 1 L ∧ Fr p [18] M z.2) (fun z => (8 - z.1.toInt).toNat) ?_ _ _ ?_ ?_) ?_
          · intro s10 hys10
            obtain ⟨ls10_1, ts10_2, fs10_2⟩ := hys10
            have is10_1 : TI s10.1 s10.1.toInt := rfl
            refine ok_if (fun c3 => ?_) (fun c3 => ?_)
            · have dc3 := tl_le tn_8 is10_1 c3
              exact ok_some ⟨(ti_bd is10_1 (by omega) (by omega)), ts10_2, fs10_2⟩
            · have dc3 := tl_nle tn_8 is10_1 c3
              refine ok_ltI (av_mul tn_64 is5_1 (by omega) (by omega)) (fun x15 ix15 => ?_)
              refine ok_ltI (av_add tn_192 ix15 (by omega) (by omega)) (fun x16 ix16 => ?_)
              refine ok_ltI (av_mul tn_8 is10_1 (by omega) (by omega)) (fun x17 ix17 => ?_)
              refine ok_ltI (av_add ix16 ix17 (by omega) (by omega)) (fun x18 ix18 => ?_)
              refine ok_dr rfl (g_lt ts10_2 (by decide)) (g_k ts10_2 (by decide) rfl) ?_
              refine ok_dr (tt_pic ts10_2) (by have q := (tt_q0b ts10_2 (tt_p ts10_2)); omega) (gk_0 ts10_2 (tt_p ts10_2)) ?_
              refine ok_dr (pr_4 ts10_2 (tt_p ts10_2)) (by have q := (tt_q0b ts10_2 (tt_p ts10_2)); omega) (gk_2 ts10_2 (tt_p ts10_2)) ?_
              refine ok_chk (nxg (gl_2 ts10_2 (tt_p ts10_2)) is5_1 (by omega) (by omega)) ?_
              refine ok_bnd (s_colourAt ts10_2 (tt_pic ts10_2) (tt_p ts10_2) i1 tn_0 is10_1 (by omega) (by omega) (by omega) (by omega) (by omega) (by omega)) ?_
              intro y22 hyy22
              obtain ⟨ty22, gy22, iy22⟩ := hyy22
              have fy22 := fr_tr fs10_2 gy22 rfl
              refine ok_dr (f_r (b := 139) ts10_2 rfl (by decide)) (g_lt ty22 (by decide)) (g_k ty22 (by decide) rfl) ?_
              refine ok_dpv ts10_2 (tt_p ts10_2) is5_1 (by omega) (by omega) (fun jb24 hjb24 njb24 => ?_)
              refine ok_chk (cpx ix18 iy22 tn_8 (by omega) (by omega) (by omega) (by have q := (g_n (i := 139) (n := 384) ty22 (by decide) rfl); omega) (by have q := njb24; omega)) ?_
              refine ok_ltt (fun M25 eM25 => ?_)
              have tM25 : TT G M25 p 1 L := by rw [eM25]; exact (tt_rs ty22 (pl_3 hjb24))
              have fM25 : Fr p [18] M M25 := by rw [eM25]; exact (fr_rs fy22 (tt_p0 ty22) (pl_3 hjb24) rfl)
              clear eM25
              refine ok_ltI (av_add is10_1 tn_1 (by omega) (by omega)) (fun x26 ix26 => ?_)
              exact ok_some ⟨⟨(ti_bd ix26 (by omega) (by omega)), tM25, fM25⟩, (mu_up ix26 (by omega) (by omega))⟩
          · exact ⟨(ti_bd tn_0 (by omega) (by omega)), ts5_2, fs5_2⟩
          · exact mu_0 tn_0 (by omega)
          · intro y9 hyy9
            obtain ⟨ly9_1, ty9_2, fy9_2⟩ := hyy9
            have iy9_1 : TI y9.1 y9.1.toInt := rfl
            refine ok_ltI (av_add is5_1 tn_1 (by omega) (by omega)) (fun x12 ix12 => ?_)
            exact ok_some ⟨⟨(ti_bd ix12 (by omega) (by omega)), ty9_2, fy9_2⟩, (mu_up ix12 (by omega) (by omega))⟩
      · exact ⟨(ti_bd tn_1 (by omega) (by omega)), ty1_2, fy1_2⟩
      · exact mu_0 tn_1 (by omega)
      · intro y4 hyy4
        obtain ⟨ly4_1, ty4_2, fy4_2⟩ := hyy4
        have iy4_1 : TI y4.1 y4.1.toInt := rfl
        exact ok_some ⟨ty4_2, fy4_2⟩
  · refine ok_bnd (Q := fun (z : Int32 × DD) => (0 ≤ z.1.toInt ∧ z.1.toInt ≤ 16) ∧ TT G z.2 p 2 L ∧ Fr p [18] M z.2) (ok_itr (fun (z : Int32 × DD) => (0 ≤ z.1.toInt ∧ z.1.toInt ≤ 16) ∧ TT G z.2 p 2 L ∧ Fr p [18] M z.2) (fun z => (16 - z.1.toInt).toNat) ?_ _ _ ?_ ?_) ?_
    · intro s2 hys2
      obtain ⟨ls2_1, ts2_2, fs2_2⟩ := hys2
      have is2_1 : TI s2.1 s2.1.toInt := rfl
      refine ok_if (fun c1 => ?_) (fun c1 => ?_)
      · have dc1 := tl_le tn_16 is2_1 c1
        exact ok_some ⟨(ti_bd is2_1 (by omega) (by omega)), ts2_2, fs2_2⟩
      · have dc1 := tl_nle tn_16 is2_1 c1
        refine ok_ltI (av_mul tn_16 is2_1 (by omega) (by omega)) (fun x29 ix29 => ?_)
        refine ok_dr rfl (g_lt ts2_2 (by decide)) (g_k ts2_2 (by decide) rfl) ?_
        refine ok_dr (tt_pic ts2_2) (by have q := (tt_q0b ts2_2 (tt_p ts2_2)); omega) (gk_0 ts2_2 (tt_p ts2_2)) ?_
        refine ok_dr (pr_4 ts2_2 (tt_p ts2_2)) (by have q := (tt_q0b ts2_2 (tt_p ts2_2)); omega) (gk_2 ts2_2 (tt_p ts2_2)) ?_
        refine ok_chk (nxg (gl_2 ts2_2 (tt_p ts2_2)) tn_0 (by omega) (by omega)) ?_
        refine ok_bnd (s_lumaAt ts2_2 (tt_pic ts2_2) (tt_p ts2_2) i1 tn_0 is2_1 (by omega) (by omega) (by omega) (by omega) (by omega) (by omega)) ?_
        intro y33 hyy33
        obtain ⟨ty33, gy33, iy33⟩ := hyy33
        have fy33 := fr_tr fs2_2 gy33 rfl
        refine ok_dr (f_r (b := 139) ts2_2 rfl (by decide)) (g_lt ty33 (by decide)) (g_k ty33 (by decide) rfl) ?_
        refine ok_dr (pp_0 ts2_2 (tt_p ts2_2)) (by have q := (tt_q0b ty33 (tt_p ty33)); omega) (gk_s ty33 (tt_p ty33) (by omega : 9 = 9 ∨ 9 = 10 ∨ 9 = 11)) ?_
        refine ok_chk (cpx ix29 iy33 tn_16 (by omega) (by omega) (by omega) (by have q := (g_n (i := 139) (n := 384) ty33 (by decide) rfl); omega) (by have q := (gl_9 ts2_2 (tt_p ts2_2)); omega)) ?_
        refine ok_ltt (fun M36 eM36 => ?_)
        have tM36 : TT G M36 p 2 L := by rw [eM36]; exact (tt_rs ty33 (by omega : 9 = 9 ∨ 9 = 10 ∨ 9 = 11))
        have fM36 : Fr p [18] M M36 := by rw [eM36]; exact (fr_rs fy33 (tt_p0 ty33) (by omega : 9 = 9 ∨ 9 = 10 ∨ 9 = 11) rfl)
        clear eM36
        refine ok_ltI (av_add is2_1 tn_1 (by omega) (by omega)) (fun x37 ix37 => ?_)
        exact ok_some ⟨⟨(ti_bd ix37 (by omega) (by omega)), tM36, fM36⟩, (mu_up ix37 (by omega) (by omega))⟩
    · exact ⟨(ti_bd tn_0 (by omega) (by omega)), t, (fr_0 p [18] M)⟩
    · exact mu_0 tn_0 (by omega)
    · intro y1 hyy1
      obtain ⟨ly1_1, ty1_2, fy1_2⟩ := hyy1
      have iy1_1 : TI y1.1 y1.1.toInt := rfl
      refine ok_bnd (Q := fun (z : Int32 × DD) => (1 ≤ z.1.toInt ∧ z.1.toInt ≤ 3) ∧ TT G z.2 p 2 L ∧ Fr p [18] M z.2) (ok_itr (fun (z : Int32 × DD) => (1 ≤ z.1.toInt ∧ z.1.toInt ≤ 3) ∧ TT G z.2 p 2 L ∧ Fr p [18] M z.2) (fun z => (3 - z.1.toInt).toNat) ?_ _ _ ?_ ?_) ?_
      · intro s5 hys5
        obtain ⟨ls5_1, ts5_2, fs5_2⟩ := hys5
        have is5_1 : TI s5.1 s5.1.toInt := rfl
        refine ok_if (fun c2 => ?_) (fun c2 => ?_)
        · have dc2 := tl_le tn_3 is5_1 c2
          exact ok_some ⟨(ti_bd is5_1 (by omega) (by omega)), ts5_2, fs5_2⟩
        · have dc2 := tl_nle tn_3 is5_1 c2
          refine ok_bnd (Q := fun (z : Int32 × DD) => (0 ≤ z.1.toInt ∧ z.1.toInt ≤ 8) ∧ TT G z.2 p 2 L ∧ Fr p [18] M z.2) (ok_itr (fun (z : Int32 × DD) => (0 ≤ z.1.toInt ∧ z.1.toInt ≤ 8) ∧ TT G z.2 p 2 L ∧ Fr p [18] M z.2) (fun z => (8 - z.1.toInt).toNat) ?_ _ _ ?_ ?_) ?_
          · intro s10 hys10
            obtain ⟨ls10_1, ts10_2, fs10_2⟩ := hys10
            have is10_1 : TI s10.1 s10.1.toInt := rfl
            refine ok_if (fun c3 => ?_) (fun c3 => ?_)
            · have dc3 := tl_le tn_8 is10_1 c3
              exact ok_some ⟨(ti_bd is10_1 (by omega) (by omega)), ts10_2, fs10_2⟩
            · have dc3 := tl_nle tn_8 is10_1 c3
              refine ok_ltI (av_mul tn_64 is5_1 (by omega) (by omega)) (fun x15 ix15 => ?_)
              refine ok_ltI (av_add tn_192 ix15 (by omega) (by omega)) (fun x16 ix16 => ?_)
              refine ok_ltI (av_mul tn_8 is10_1 (by omega) (by omega)) (fun x17 ix17 => ?_)
              refine ok_ltI (av_add ix16 ix17 (by omega) (by omega)) (fun x18 ix18 => ?_)
              refine ok_dr rfl (g_lt ts10_2 (by decide)) (g_k ts10_2 (by decide) rfl) ?_
              refine ok_dr (tt_pic ts10_2) (by have q := (tt_q0b ts10_2 (tt_p ts10_2)); omega) (gk_0 ts10_2 (tt_p ts10_2)) ?_
              refine ok_dr (pr_4 ts10_2 (tt_p ts10_2)) (by have q := (tt_q0b ts10_2 (tt_p ts10_2)); omega) (gk_2 ts10_2 (tt_p ts10_2)) ?_
              refine ok_chk (nxg (gl_2 ts10_2 (tt_p ts10_2)) is5_1 (by omega) (by omega)) ?_
              refine ok_bnd (s_colourAt ts10_2 (tt_pic ts10_2) (tt_p ts10_2) i1 tn_0 is10_1 (by omega) (by omega) (by omega) (by omega) (by omega) (by omega)) ?_
              intro y22 hyy22
              obtain ⟨ty22, gy22, iy22⟩ := hyy22
              have fy22 := fr_tr fs10_2 gy22 rfl
              refine ok_dr (f_r (b := 139) ts10_2 rfl (by decide)) (g_lt ty22 (by decide)) (g_k ty22 (by decide) rfl) ?_
              refine ok_dpv ts10_2 (tt_p ts10_2) is5_1 (by omega) (by omega) (fun jb24 hjb24 njb24 => ?_)
              refine ok_chk (cpx ix18 iy22 tn_8 (by omega) (by omega) (by omega) (by have q := (g_n (i := 139) (n := 384) ty22 (by decide) rfl); omega) (by have q := njb24; omega)) ?_
              refine ok_ltt (fun M25 eM25 => ?_)
              have tM25 : TT G M25 p 2 L := by rw [eM25]; exact (tt_rs ty22 (pl_3 hjb24))
              have fM25 : Fr p [18] M M25 := by rw [eM25]; exact (fr_rs fy22 (tt_p0 ty22) (pl_3 hjb24) rfl)
              clear eM25
              refine ok_ltI (av_add is10_1 tn_1 (by omega) (by omega)) (fun x26 ix26 => ?_)
              exact ok_some ⟨⟨(ti_bd ix26 (by omega) (by omega)), tM25, fM25⟩, (mu_up ix26 (by omega) (by omega))⟩
          · exact ⟨(ti_bd tn_0 (by omega) (by omega)), ts5_2, fs5_2⟩
          · exact mu_0 tn_0 (by omega)
          · intro y9 hyy9
            obtain ⟨ly9_1, ty9_2, fy9_2⟩ := hyy9
            have iy9_1 : TI y9.1 y9.1.toInt := rfl
            refine ok_ltI (av_add is5_1 tn_1 (by omega) (by omega)) (fun x12 ix12 => ?_)
            exact ok_some ⟨⟨(ti_bd ix12 (by omega) (by omega)), ty9_2, fy9_2⟩, (mu_up ix12 (by omega) (by omega))⟩
      · exact ⟨(ti_bd tn_1 (by omega) (by omega)), ty1_2, fy1_2⟩
      · exact mu_0 tn_1 (by omega)
      · intro y4 hyy4
        obtain ⟨ly4_1, ty4_2, fy4_2⟩ := hyy4
        have iy4_1 : TI y4.1 y4.1.toInt := rfl
        exact ok_some ⟨ty4_2, fy4_2⟩
theorem s_takeRaw {G : GG} {M : DD} {p : Nat} {w : Int} {L : List Nat} (t : TT G M p w L) {p0 : Option Nat} (e0 : p0 = some 125) {p1 : Option Nat} (e1 : p1 = some 209) {p2 : Int32} {a2 : Int} (i2 : TI p2 a2) (h0 : 0 ≤ a2) (h1 : a2 < 2 * w) : OK (FX6_takeRaw G M 138 p0 p1 p2) (fun y => TT G y p w L ∧ Fr p [1] M y) := by
  unfold FX6_takeRaw
  subst e0 e1
  have hw12 : 1 ≤ w ∧ w ≤ 2 := by rcases tt_w t with h | h <;> omega
  rcases tt_w t with rfl | rfl
  · refine ok_bnd (Q := fun (z : Int32 × DD) => (0 ≤ z.1.toInt ∧ z.1.toInt ≤ 16) ∧ TT G z.2 p 1 L ∧ Fr p [1] M z.2) (ok_itr (fun (z : Int32 × DD) => (0 ≤ z.1.toInt ∧ z.1.toInt ≤ 16) ∧ TT G z.2 p 1 L ∧ Fr p [1] M z.2) (fun z => (16 - z.1.toInt).toNat) ?_ _ _ ?_ ?_) ?_
    · intro s2 hys2
      obtain ⟨ls2_1, ts2_2, fs2_2⟩ := hys2
      have is2_1 : TI s2.1 s2.1.toInt := rfl
      refine ok_if (fun c1 => ?_) (fun c1 => ?_)
      · have dc1 := tl_le tn_16 is2_1 c1
        exact ok_some ⟨(ti_bd is2_1 (by omega) (by omega)), ts2_2, fs2_2⟩
      · have dc1 := tl_nle tn_16 is2_1 c1
        refine ok_dr rfl (g_lt ts2_2 (by decide)) (g_k ts2_2 (by decide) rfl) ?_
        refine ok_chk (nxg (g_n (i := 209) (n := 3) ts2_2 (by decide) rfl) tn_0 (by omega) (by omega)) ?_
        refine ok_dr rfl (g_lt ts2_2 (by decide)) (g_k ts2_2 (by decide) rfl) ?_
        refine ok_bnd (s_lumaAt ts2_2 (tt_pic ts2_2) (tt_p ts2_2) i2 tn_0 is2_1 (by omega) (by omega) (by omega) (by omega) (by omega) (by omega)) ?_
        intro y30 hyy30
        obtain ⟨ty30, gy30, iy30⟩ := hyy30
        have fy30 := fr_tr fs2_2 gy30 rfl
        refine ok_ltI (av_mul tn_16 is2_1 (by omega) (by omega)) (fun x31 ix31 => ?_)
        refine ok_ds0 ts2_2 (fun b32 hb32 nb32 => ?_)
        refine ok_dr (f_r (b := 139) ty30 rfl (by decide)) (g_lt ty30 (by decide)) (g_k ty30 (by decide) rfl) ?_
        refine ok_chk (cpx iy30 ix31 tn_16 (by omega) (by omega) (by omega) (by have q := nb32; omega) (by have q := (g_n (i := 139) (n := 384) ty30 (by decide) rfl); omega)) ?_
        refine ok_ltt (fun M34 eM34 => ?_)
        have tM34 : TT G M34 p 1 L := by rw [eM34]; exact (tt_r0 ty30 rfl)
        have fM34 : Fr p [1] M M34 := by rw [eM34]; exact (fr_r fy30 (fun _ => rfl))
        clear eM34
        refine ok_ltI (av_add is2_1 tn_1 (by omega) (by omega)) (fun x35 ix35 => ?_)
        exact ok_some ⟨⟨(ti_bd ix35 (by omega) (by omega)), tM34, fM34⟩, (mu_up ix35 (by omega) (by omega))⟩
    · exact ⟨(ti_bd tn_0 (by omega) (by omega)), t, (fr_0 p [1] M)⟩
    · exact mu_0 tn_0 (by omega)
    · intro y1 hyy1
      obtain ⟨ly1_1, ty1_2, fy1_2⟩ := hyy1
      have iy1_1 : TI y1.1 y1.1.toInt := rfl
      refine ok_bnd (Q := fun (z : Int32 × DD) => (1 ≤ z.1.toInt ∧ z.1.toInt ≤ 3) ∧ TT G z.2 p 1 L ∧ Fr p [1] M z.2) (ok_itr (fun (z : Int32 × DD) => (1 ≤ z.1.toInt ∧ z.1.toInt ≤ 3) ∧ TT G z.2 p 1 L ∧ Fr p [1] M z.2) (fun z => (3 - z.1.toInt).toNat) ?_ _ _ ?_ ?_) ?_
      · intro s5 hys5
        obtain ⟨ls5_1, ts5_2, fs5_2⟩ := hys5
        have is5_1 : TI s5.1 s5.1.toInt := rfl
        refine ok_if (fun c2 => ?_) (fun c2 => ?_)
        · have dc2 := tl_le tn_3 is5_1 c2
          exact ok_some ⟨(ti_bd is5_1 (by omega) (by omega)), ts5_2, fs5_2⟩
        · have dc2 := tl_nle tn_3 is5_1 c2
          refine ok_bnd (Q := fun (z : Int32 × DD) => (0 ≤ z.1.toInt ∧ z.1.toInt ≤ 8) ∧ TT G z.2 p 1 L ∧ Fr p [1] M z.2) (ok_itr (fun (z : Int32 × DD) => (0 ≤ z.1.toInt ∧ z.1.toInt ≤ 8) ∧ TT G z.2 p 1 L ∧ Fr p [1] M z.2) (fun z => (8 - z.1.toInt).toNat) ?_ _ _ ?_ ?_) ?_
          · intro s10 hys10
            obtain ⟨ls10_1, ts10_2, fs10_2⟩ := hys10
            have is10_1 : TI s10.1 s10.1.toInt := rfl
            refine ok_if (fun c3 => ?_) (fun c3 => ?_)
            · have dc3 := tl_le tn_8 is10_1 c3
              exact ok_some ⟨(ti_bd is10_1 (by omega) (by omega)), ts10_2, fs10_2⟩
            · have dc3 := tl_nle tn_8 is10_1 c3
              refine ok_dr rfl (g_lt ts10_2 (by decide)) (g_k ts10_2 (by decide) rfl) ?_
              refine ok_chk (nxg (g_n (i := 209) (n := 3) ts10_2 (by decide) rfl) is5_1 (by omega) (by omega)) ?_
              refine ok_dr rfl (g_lt ts10_2 (by decide)) (g_k ts10_2 (by decide) rfl) ?_
              refine ok_bnd (s_colourAt ts10_2 (tt_pic ts10_2) (tt_p ts10_2) i2 tn_0 is10_1 (by omega) (by omega) (by omega) (by omega) (by omega) (by omega)) ?_
              intro y17 hyy17
              obtain ⟨ty17, gy17, iy17⟩ := hyy17
              have fy17 := fr_tr fs10_2 gy17 rfl
              refine ok_ltI (av_mul tn_64 is5_1 (by omega) (by omega)) (fun x18 ix18 => ?_)
              refine ok_ltI (av_add tn_192 ix18 (by omega) (by omega)) (fun x19 ix19 => ?_)
              refine ok_ltI (av_mul tn_8 is10_1 (by omega) (by omega)) (fun x20 ix20 => ?_)
              refine ok_ltI (av_add ix19 ix20 (by omega) (by omega)) (fun x21 ix21 => ?_)
              refine ok_dsv ts10_2 is5_1 (by omega) (by omega) (fun b22 hb22 nb22 => ?_)
              refine ok_dr (f_r (b := 139) ty17 rfl (by decide)) (g_lt ty17 (by decide)) (g_k ty17 (by decide) rfl) ?_
              refine ok_chk (cpx iy17 ix21 tn_8 (by omega) (by omega) (by omega) (by have q := nb22; omega) (by have q := (g_n (i := 139) (n := 384) ty17 (by decide) rfl); omega)) ?_
              refine ok_ltt (fun M24 eM24 => ?_)
              have tM24 : TT G M24 p 1 L := by rw [eM24]; exact (tt_r0 ty17 rfl)
              have fM24 : Fr p [1] M M24 := by rw [eM24]; exact (fr_r fy17 (fun _ => rfl))
              clear eM24
              refine ok_ltI (av_add is10_1 tn_1 (by omega) (by omega)) (fun x25 ix25 => ?_)
              exact ok_some ⟨⟨(ti_bd ix25 (by omega) (by omega)), tM24, fM24⟩, (mu_up ix25 (by omega) (by omega))⟩
          · exact ⟨(ti_bd tn_0 (by omega) (by omega)), ts5_2, fs5_2⟩
          · exact mu_0 tn_0 (by omega)
          · intro y9 hyy9
            obtain ⟨ly9_1, ty9_2, fy9_2⟩ := hyy9
            have iy9_1 : TI y9.1 y9.1.toInt := rfl
            refine ok_ltI (av_add is5_1 tn_1 (by omega) (by omega)) (fun x12 ix12 => ?_)
            exact ok_some ⟨⟨(ti_bd ix12 (by omega) (by omega)), ty9_2, fy9_2⟩, (mu_up ix12 (by omega) (by omega))⟩
      · exact ⟨(ti_bd tn_1 (by omega) (by omega)), ty1_2, fy1_2⟩
      · exact mu_0 tn_1 (by omega)
      · intro y4 hyy4
        obtain ⟨ly4_1, ty4_2, fy4_2⟩ := hyy4
        have iy4_1 : TI y4.1 y4.1.toInt := rfl
        exact ok_some ⟨ty4_2, fy4_2⟩
  · refine ok_bnd (Q := fun (z : Int32 × DD) => (0 ≤ z.1.toInt ∧ z.1.toInt ≤ 16) ∧ TT G z.2 p 2 L ∧ Fr p [1] M z.2) (ok_itr (fun (z : Int32 × DD) => (0 ≤ z.1.toInt ∧ z.1.toInt ≤ 16) ∧ TT G z.2 p 2 L ∧ Fr p [1] M z.2) (fun z => (16 - z.1.toInt).toNat) ?_ _ _ ?_ ?_) ?_
    · intro s2 hys2
      obtain ⟨ls2_1, ts2_2, fs2_2⟩ := hys2
      have is2_1 : TI s2.1 s2.1.toInt := rfl
      refine ok_if (fun c1 => ?_) (fun c1 => ?_)
      · have dc1 := tl_le tn_16 is2_1 c1
        exact ok_some ⟨(ti_bd is2_1 (by omega) (by omega)), ts2_2, fs2_2⟩
      · have dc1 := tl_nle tn_16 is2_1 c1
        refine ok_dr rfl (g_lt ts2_2 (by decide)) (g_k ts2_2 (by decide) rfl) ?_
        refine ok_chk (nxg (g_n (i := 209) (n := 3) ts2_2 (by decide) rfl) tn_0 (by omega) (by omega)) ?_
        refine ok_dr rfl (g_lt ts2_2 (by decide)) (g_k ts2_2 (by decide) rfl) ?_
        refine ok_bnd (s_lumaAt ts2_2 (tt_pic ts2_2) (tt_p ts2_2) i2 tn_0 is2_1 (by omega) (by omega) (by omega) (by omega) (by omega) (by omega)) ?_
        intro y30 hyy30
        obtain ⟨ty30, gy30, iy30⟩ := hyy30
        have fy30 := fr_tr fs2_2 gy30 rfl
        refine ok_ltI (av_mul tn_16 is2_1 (by omega) (by omega)) (fun x31 ix31 => ?_)
        refine ok_ds0 ts2_2 (fun b32 hb32 nb32 => ?_)
        refine ok_dr (f_r (b := 139) ty30 rfl (by decide)) (g_lt ty30 (by decide)) (g_k ty30 (by decide) rfl) ?_
        refine ok_chk (cpx iy30 ix31 tn_16 (by omega) (by omega) (by omega) (by have q := nb32; omega) (by have q := (g_n (i := 139) (n := 384) ty30 (by decide) rfl); omega)) ?_
        refine ok_ltt (fun M34 eM34 => ?_)
        have tM34 : TT G M34 p 2 L := by rw [eM34]; exact (tt_r0 ty30 rfl)
        have fM34 : Fr p [1] M M34 := by rw [eM34]; exact (fr_r fy30 (fun _ => rfl))
        clear eM34
        refine ok_ltI (av_add is2_1 tn_1 (by omega) (by omega)) (fun x35 ix35 => ?_)
        exact ok_some ⟨⟨(ti_bd ix35 (by omega) (by omega)), tM34, fM34⟩, (mu_up ix35 (by omega) (by omega))⟩
    · exact ⟨(ti_bd tn_0 (by omega) (by omega)), t, (fr_0 p [1] M)⟩
    · exact mu_0 tn_0 (by omega)
    · intro y1 hyy1
      obtain ⟨ly1_1, ty1_2, fy1_2⟩ := hyy1
      have iy1_1 : TI y1.1 y1.1.toInt := rfl
      refine ok_bnd (Q := fun (z : Int32 × DD) => (1 ≤ z.1.toInt ∧ z.1.toInt ≤ 3) ∧ TT G z.2 p 2 L ∧ Fr p [1] M z.2) (ok_itr (fun (z : Int32 × DD) => (1 ≤ z.1.toInt ∧ z.1.toInt ≤ 3) ∧ TT G z.2 p 2 L ∧ Fr p [1] M z.2) (fun z => (3 - z.1.toInt).toNat) ?_ _ _ ?_ ?_) ?_
      · intro s5 hys5
        obtain ⟨ls5_1, ts5_2, fs5_2⟩ := hys5
        have is5_1 : TI s5.1 s5.1.toInt := rfl
        refine ok_if (fun c2 => ?_) (fun c2 => ?_)
        · have dc2 := tl_le tn_3 is5_1 c2
          exact ok_some ⟨(ti_bd is5_1 (by omega) (by omega)), ts5_2, fs5_2⟩
        · have dc2 := tl_nle tn_3 is5_1 c2
          refine ok_bnd (Q := fun (z : Int32 × DD) => (0 ≤ z.1.toInt ∧ z.1.toInt ≤ 8) ∧ TT G z.2 p 2 L ∧ Fr p [1] M z.2) (ok_itr (fun (z : Int32 × DD) => (0 ≤ z.1.toInt ∧ z.1.toInt ≤ 8) ∧ TT G z.2 p 2 L ∧ Fr p [1] M z.2) (fun z => (8 - z.1.toInt).toNat) ?_ _ _ ?_ ?_) ?_
          · intro s10 hys10
            obtain ⟨ls10_1, ts10_2, fs10_2⟩ := hys10
            have is10_1 : TI s10.1 s10.1.toInt := rfl
            refine ok_if (fun c3 => ?_) (fun c3 => ?_)
            · have dc3 := tl_le tn_8 is10_1 c3
              exact ok_some ⟨(ti_bd is10_1 (by omega) (by omega)), ts10_2, fs10_2⟩
            · have dc3 := tl_nle tn_8 is10_1 c3
              refine ok_dr rfl (g_lt ts10_2 (by decide)) (g_k ts10_2 (by decide) rfl) ?_
              refine ok_chk (nxg (g_n (i := 209) (n := 3) ts10_2 (by decide) rfl) is5_1 (by omega) (by omega)) ?_
              refine ok_dr rfl (g_lt ts10_2 (by decide)) (g_k ts10_2 (by decide) rfl) ?_
              refine ok_bnd (s_colourAt ts10_2 (tt_pic ts10_2) (tt_p ts10_2) i2 tn_0 is10_1 (by omega) (by omega) (by omega) (by omega) (by omega) (by omega)) ?_
              intro y17 hyy17
              obtain ⟨ty17, gy17, iy17⟩ := hyy17
              have fy17 := fr_tr fs10_2 gy17 rfl
              refine ok_ltI (av_mul tn_64 is5_1 (by omega) (by omega)) (fun x18 ix18 => ?_)
              refine ok_ltI (av_add tn_192 ix18 (by omega) (by omega)) (fun x19 ix19 => ?_)
              refine ok_ltI (av_mul tn_8 is10_1 (by omega) (by omega)) (fun x20 ix20 => ?_)
              refine ok_ltI (av_add ix19 ix20 (by omega) (by omega)) (fun x21 ix21 => ?_)
              refine ok_dsv ts10_2 is5_1 (by omega) (by omega) (fun b22 hb22 nb22 => ?_)
              refine ok_dr (f_r (b := 139) ty17 rfl (by decide)) (g_lt ty17 (by decide)) (g_k ty17 (by decide) rfl) ?_
              refine ok_chk (cpx iy17 ix21 tn_8 (by omega) (by omega) (by omega) (by have q := nb22; omega) (by have q := (g_n (i := 139) (n := 384) ty17 (by decide) rfl); omega)) ?_
              refine ok_ltt (fun M24 eM24 => ?_)
              have tM24 : TT G M24 p 2 L := by rw [eM24]; exact (tt_r0 ty17 rfl)
              have fM24 : Fr p [1] M M24 := by rw [eM24]; exact (fr_r fy17 (fun _ => rfl))
              clear eM24
              refine ok_ltI (av_add is10_1 tn_1 (by omega) (by omega)) (fun x25 ix25 => ?_)
              exact ok_some ⟨⟨(ti_bd ix25 (by omega) (by omega)), tM24, fM24⟩, (mu_up ix25 (by omega) (by omega))⟩
          · exact ⟨(ti_bd tn_0 (by omega) (by omega)), ts5_2, fs5_2⟩
          · exact mu_0 tn_0 (by omega)
          · intro y9 hyy9
            obtain ⟨ly9_1, ty9_2, fy9_2⟩ := hyy9
            have iy9_1 : TI y9.1 y9.1.toInt := rfl
            refine ok_ltI (av_add is5_1 tn_1 (by omega) (by omega)) (fun x12 ix12 => ?_)
            exact ok_some ⟨⟨(ti_bd ix12 (by omega) (by omega)), ty9_2, fy9_2⟩, (mu_up ix12 (by omega) (by omega))⟩
      · exact ⟨(ti_bd tn_1 (by omega) (by omega)), ty1_2, fy1_2⟩
      · exact mu_0 tn_1 (by omega)
      · intro y4 hyy4
        obtain ⟨ly4_1, ty4_2, fy4_2⟩ := hyy4
        have iy4_1 : TI y4.1 y4.1.toInt := rfl
        exact ok_some ⟨ty4_2, fy4_2⟩
theorem s_predictFour {G : GG} {M : DD} {p : Nat} {w : Int} {L : List Nat} (t : TT G M p w L) {p0 : Option Nat} (e0 : p0 = some 125) {p1 : Int32} {a1 : Int} (i1 : TI p1 a1) {p2 : Int32} {a2 : Int} (i2 : TI p2 a2) {p3 : Int32} {p4 : Int32} {a4 : Int} (i4 : TI p4 a4) (h0 : 0 ≤ a1) (h1 : a1 < 2 * w) (h2 : 0 ≤ a2) (h3 : a2 ≤ 15) (h4 : 0 ≤ a4) (h5 : a4 ≤ 15) (h6 : a4 % 2 = 1 → 0 < (8 * (a2 / 4 % 2) + 4 * (a2 % 2)) ∨ 1 ≤ a1 % w) (h7 : a4 / 2 % 2 = 1 → 0 < (8 * (a2 / 8) + 4 * (a2 / 2 % 2)) ∨ w ≤ a1) (h8 : a4 / 4 % 2 = 1 → (0 < (8 * (a2 / 4 % 2) + 4 * (a2 % 2)) ∨ 1 ≤ a1 % w) ∧ (0 < (8 * (a2 / 8) + 4 * (a2 / 2 % 2)) ∨ w ≤ a1)) (h9 : a4 / 8 % 2 = 1 → 0 < (8 * (a2 / 8) + 4 * (a2 / 2 % 2)) ∨ w ≤ a1) : OK (FX6_predictFour G M 138 p0 p1 p2 p3 p4) (fun y => TT G y p w L ∧ Fr p [1] M y) := by
  unfold FX6_predictFour
  subst e0
  have hw12 : 1 ≤ w ∧ w ≤ 2 := by rcases tt_w t with h | h <;> omega
  rcases tt_w t with rfl | rfl
  · refine ok_bnd (s_pieceX t i2 (by omega) (by omega)) ?_
    intro y1 hyy1
    obtain ⟨ty1, gy1, iy1⟩ := hyy1
    have fy1 := fr_tr (fr_0 p [1] M) gy1 rfl
    refine ok_bnd (s_pieceY ty1 i2 (by omega) (by omega)) ?_
    intro y2 hyy2
    obtain ⟨ty2, gy2, iy2⟩ := hyy2
    have fy2 := fr_tr fy1 gy2 rfl
    refine ok_dr rfl (g_lt ty2 (by decide)) (g_k ty2 (by decide) rfl) ?_
    refine ok_bnd (s_lumaAt ty2 (tt_pic ty2) (tt_p ty2) i1 iy1 iy2 (by omega) (by omega) (by omega) (by omega) (by omega) (by omega)) ?_
    intro y4 hyy4
    obtain ⟨ty4, gy4, iy4⟩ := hyy4
    have fy4 := fr_tr fy2 gy4 rfl
    refine ok_bnd (s_takeAround ty4 (tt_pic ty2) (tt_p ty2) iy4 i4 (by omega) (by omega) (by omega) (by omega) (by omega) (by omega) (by omega) (by omega)) ?_
    intro y5 hyy5
    obtain ⟨ty5, gy5⟩ := hyy5
    have fy5 := fr_tr fy4 gy5 rfl
    refine ok_bnd (Q := fun (z : Int32 × DD) => (0 ≤ z.1.toInt ∧ z.1.toInt ≤ 16) ∧ TT G z.2 p 1 L ∧ Fr p [1] M z.2) (ok_itr (fun (z : Int32 × DD) => (0 ≤ z.1.toInt ∧ z.1.toInt ≤ 16) ∧ TT G z.2 p 1 L ∧ Fr p [1] M z.2) (fun z => (16 - z.1.toInt).toNat) ?_ _ _ ?_ ?_) ?_
    · intro s7 hys7
      obtain ⟨ls7_1, ts7_2, fs7_2⟩ := hys7
      have is7_1 : TI s7.1 s7.1.toInt := rfl
      refine ok_if (fun c1 => ?_) (fun c1 => ?_)
      · have dc1 := tl_le tn_16 is7_1 c1
        exact ok_some ⟨(ti_bd is7_1 (by omega) (by omega)), ts7_2, fs7_2⟩
      · have dc1 := tl_nle tn_16 is7_1 c1
        refine ok_ltI (av_mod is7_1 tn_4 (by omega) (by omega)) (fun x11 ix11 => ?_)
        refine ok_ltI (av_div is7_1 tn_4 (by omega) (by omega)) (fun x12 ix12 => ?_)
        refine ok_bnd (Q := fun (z : Int32 × DD) => True ∧ TT G z.2 p 1 L ∧ Fr p [1] M z.2) ?_ ?_
        · refine ok_if (fun c2 => ?_) (fun c2 => ?_)
          · have dc2 := tl_eq (rfl : TI p3 p3.toInt) tn_0 c2
            refine ok_ltI (av_add tn_5 ix11 (by omega) (by omega)) (fun x90 ix90 => ?_)
            refine ok_dr (f_r (b := 147) ts7_2 rfl (by decide)) (g_lt ts7_2 (by decide)) (g_k ts7_2 (by decide) rfl) ?_
            refine ok_chk (nxg (g_n (i := 147) (n := 34) ts7_2 (by decide) rfl) ix90 (by omega) (by omega)) ?_
            refine ok_ltA (fun x92 => ?_)
            exact ok_some ⟨trivial, ts7_2, fs7_2⟩
          · have dc2 := tl_ne (rfl : TI p3 p3.toInt) tn_0 c2
            refine ok_bnd (Q := fun (z : Int32 × DD) => True ∧ TT G z.2 p 1 L ∧ Fr p [1] M z.2) ?_ ?_
            · refine ok_if (fun c3 => ?_) (fun c3 => ?_)
              · have dc3 := tl_eq (rfl : TI p3 p3.toInt) tn_1 c3
                refine ok_ltI (av_sub tn_3 ix12 (by omega) (by omega)) (fun x87 ix87 => ?_)
                refine ok_dr (f_r (b := 147) ts7_2 rfl (by decide)) (g_lt ts7_2 (by decide)) (g_k ts7_2 (by decide) rfl) ?_
                refine ok_chk (nxg (g_n (i := 147) (n := 34) ts7_2 (by decide) rfl) ix87 (by omega) (by omega)) ?_
                refine ok_ltA (fun x89 => ?_)
                exact ok_some ⟨trivial, ts7_2, fs7_2⟩
              · have dc3 := tl_ne (rfl : TI p3 p3.toInt) tn_1 c3
                refine ok_bnd (Q := fun (z : Int32 × DD) => True ∧ TT G z.2 p 1 L ∧ Fr p [1] M z.2) ?_ ?_
                · refine ok_if (fun c4 => ?_) (fun c4 => ?_)
                  · have dc4 := tl_eq (rfl : TI p3 p3.toInt) tn_2 c4
                    refine ok_bnd (s_meanAround ts7_2) ?_
                    intro y86 hyy86
                    obtain ⟨ty86, gy86, _⟩ := hyy86
                    have fy86 := fr_tr fs7_2 gy86 rfl
                    exact ok_some ⟨trivial, ty86, fy86⟩
                  · have dc4 := tl_ne (rfl : TI p3 p3.toInt) tn_2 c4
                    refine ok_bnd (Q := fun (z : Int32 × DD) => True ∧ TT G z.2 p 1 L ∧ Fr p [1] M z.2) ?_ ?_
                    · refine ok_if (fun c5 => ?_) (fun c5 => ?_)
                      · have dc5 := tl_eq (rfl : TI p3 p3.toInt) tn_3 c5
                        refine ok_bnd (Q := fun (z : Int32 × DD) => True ∧ TT G z.2 p 1 L ∧ Fr p [1] M z.2) ?_ ?_
                        · refine ok_if (fun c6 => ?_) (fun c6 => ?_)
                          · have dc6 := tl_eq is7_1 tn_15 c6
                            refine ok_bnd (s_three ts7_2 tn_11 tn_12 tn_12 (by omega) (by omega) (by omega) (by omega) (by omega) (by omega)) ?_
                            intro y85 hyy85
                            obtain ⟨ty85, gy85, _⟩ := hyy85
                            have fy85 := fr_tr fs7_2 gy85 rfl
                            exact ok_some ⟨trivial, ty85, fy85⟩
                          · have dc6 := tl_ne is7_1 tn_15 c6
                            refine ok_ltI (av_add tn_5 ix11 (by omega) (by omega)) (fun x78 ix78 => ?_)
                            refine ok_ltI (av_add ix78 ix12 (by omega) (by omega)) (fun x79 ix79 => ?_)
                            refine ok_ltI (av_add tn_6 ix11 (by omega) (by omega)) (fun x80 ix80 => ?_)
                            refine ok_ltI (av_add ix80 ix12 (by omega) (by omega)) (fun x81 ix81 => ?_)
                            refine ok_ltI (av_add tn_7 ix11 (by omega) (by omega)) (fun x82 ix82 => ?_)
                            refine ok_ltI (av_add ix82 ix12 (by omega) (by omega)) (fun x83 ix83 => ?_)
                            refine ok_bnd (s_three ts7_2 ix79 ix81 ix83 (by omega) (by omega) (by omega) (by omega) (by omega) (by omega)) ?_
                            intro y84 hyy84
                            obtain ⟨ty84, gy84, _⟩ := hyy84
                            have fy84 := fr_tr fs7_2 gy84 rfl
                            exact ok_some ⟨trivial, ty84, fy84⟩
                        · intro y76 hyy76
                          obtain ⟨_, ty76_2, fy76_2⟩ := hyy76
                          exact ok_some ⟨trivial, ty76_2, fy76_2⟩
                      · have dc5 := tl_ne (rfl : TI p3 p3.toInt) tn_3 c5
                        refine ok_bnd (Q := fun (z : Int32 × DD) => True ∧ TT G z.2 p 1 L ∧ Fr p [1] M z.2) ?_ ?_
                        · refine ok_if (fun c7 => ?_) (fun c7 => ?_)
                          · have dc7 := tl_eq (rfl : TI p3 p3.toInt) tn_4 c7
                            refine ok_ltI (av_add tn_3 ix11 (by omega) (by omega)) (fun x69 ix69 => ?_)
                            refine ok_ltI (av_sub ix69 ix12 (by omega) (by omega)) (fun x70 ix70 => ?_)
                            refine ok_ltI (av_add tn_4 ix11 (by omega) (by omega)) (fun x71 ix71 => ?_)
                            refine ok_ltI (av_sub ix71 ix12 (by omega) (by omega)) (fun x72 ix72 => ?_)
                            refine ok_ltI (av_add tn_5 ix11 (by omega) (by omega)) (fun x73 ix73 => ?_)
                            refine ok_ltI (av_sub ix73 ix12 (by omega) (by omega)) (fun x74 ix74 => ?_)
                            refine ok_bnd (s_three ts7_2 ix70 ix72 ix74 (by omega) (by omega) (by omega) (by omega) (by omega) (by omega)) ?_
                            intro y75 hyy75
                            obtain ⟨ty75, gy75, _⟩ := hyy75
                            have fy75 := fr_tr fs7_2 gy75 rfl
                            exact ok_some ⟨trivial, ty75, fy75⟩
                          · have dc7 := tl_ne (rfl : TI p3 p3.toInt) tn_4 c7
                            refine ok_bnd (Q := fun (z : Int32 × DD) => True ∧ TT G z.2 p 1 L ∧ Fr p [1] M z.2) ?_ ?_
                            · refine ok_if (fun c8 => ?_) (fun c8 => ?_)
                              · have dc8 := tl_eq (rfl : TI p3 p3.toInt) tn_5 c8
                                refine ok_bnd (s_slant ts7_2 ix11 ix12 tn_1 (by omega) (by omega) (by omega) (by omega) (by omega)) ?_
                                intro y68 hyy68
                                obtain ⟨ty68, gy68, _⟩ := hyy68
                                have fy68 := fr_tr fs7_2 gy68 rfl
                                exact ok_some ⟨trivial, ty68, fy68⟩
                              · have dc8 := tl_ne (rfl : TI p3 p3.toInt) tn_5 c8
                                refine ok_bnd (Q := fun (z : Int32 × DD) => True ∧ TT G z.2 p 1 L ∧ Fr p [1] M z.2) ?_ ?_
                                · refine ok_if (fun c9 => ?_) (fun c9 => ?_)
                                  · have dc9 := tl_eq (rfl : TI p3 p3.toInt) tn_6 c9
                                    refine ok_bnd (s_slant ts7_2 ix12 ix11 tn_m1 (by omega) (by omega) (by omega) (by omega) (by omega)) ?_
                                    intro y67 hyy67
                                    obtain ⟨ty67, gy67, _⟩ := hyy67
                                    have fy67 := fr_tr fs7_2 gy67 rfl
                                    exact ok_some ⟨trivial, ty67, fy67⟩
                                  · have dc9 := tl_ne (rfl : TI p3 p3.toInt) tn_6 c9
                                    refine ok_bnd (Q := fun (z : Int32 × Int32 × DD) => True ∧ (-1 ≤ z.2.1.toInt ∧ z.2.1.toInt ≤ 9) ∧ TT G z.2.2 p 1 L ∧ Fr p [1] M z.2.2) ?_ ?_
                                    · refine ok_if (fun c10 => ?_) (fun c10 => ?_)
                                      · have dc10 := tl_eq (rfl : TI p3 p3.toInt) tn_7 c10
                                        refine ok_ltI (av_add tn_5 ix11 (by omega) (by omega)) (fun x56 ix56 => ?_)
                                        refine ok_ltI (av_sar 1 ix12 (by decide)) (fun x57 ix57 => ?_)
                                        refine ok_ltI (av_add ix56 ix57 (by omega) (by omega)) (fun x58 ix58 => ?_)
                                        refine ok_ltI (av_mod ix12 tn_2 (by omega) (by omega)) (fun x59 ix59 => ?_)
                                        refine ok_bnd (Q := fun (z : Int32 × DD) => True ∧ TT G z.2 p 1 L ∧ Fr p [1] M z.2) ?_ ?_
                                        · refine ok_if (fun c11 => ?_) (fun c11 => ?_)
                                          · have dc11 := tl_eq ix59 tn_0 c11
                                            refine ok_ltI (av_add ix58 tn_1 (by omega) (by omega)) (fun x65 ix65 => ?_)
                                            refine ok_bnd (s_two ts7_2 ix58 ix65 (by omega) (by omega) (by omega) (by omega)) ?_
                                            intro y66 hyy66
                                            obtain ⟨ty66, gy66, _⟩ := hyy66
                                            have fy66 := fr_tr fs7_2 gy66 rfl
                                            exact ok_some ⟨trivial, ty66, fy66⟩
                                          · have dc11 := tl_ne ix59 tn_0 c11
                                            refine ok_ltI (av_add ix58 tn_1 (by omega) (by omega)) (fun x62 ix62 => ?_)
                                            refine ok_ltI (av_add ix58 tn_2 (by omega) (by omega)) (fun x63 ix63 => ?_)
                                            refine ok_bnd (s_three ts7_2 ix58 ix62 ix63 (by omega) (by omega) (by omega) (by omega) (by omega) (by omega)) ?_
                                            intro y64 hyy64
                                            obtain ⟨ty64, gy64, _⟩ := hyy64
                                            have fy64 := fr_tr fs7_2 gy64 rfl
                                            exact ok_some ⟨trivial, ty64, fy64⟩
                                        · intro y60 hyy60
                                          obtain ⟨_, ty60_2, fy60_2⟩ := hyy60
                                          exact ok_some ⟨trivial, (ti_bd ix58 (by omega) (by omega)), ty60_2, fy60_2⟩
                                      · have dc10 := tl_ne (rfl : TI p3 p3.toInt) tn_7 c10
                                        refine ok_ltI (av_sub tn_3 ix12 (by omega) (by omega)) (fun x36 ix36 => ?_)
                                        refine ok_ltI (av_sar 1 ix11 (by decide)) (fun x37 ix37 => ?_)
                                        refine ok_ltI (av_sub ix36 ix37 (by omega) (by omega)) (fun x38 ix38 => ?_)
                                        refine ok_ltI (av_mul tn_2 ix12 (by omega) (by omega)) (fun x39 ix39 => ?_)
                                        refine ok_ltI (av_add ix11 ix39 (by omega) (by omega)) (fun x40 ix40 => ?_)
                                        refine ok_bnd (Q := fun (z : Int32 × DD) => True ∧ TT G z.2 p 1 L ∧ Fr p [1] M z.2) ?_ ?_
                                        · refine ok_if (fun c12 => ?_) (fun c12 => ?_)
                                          · have dc12 := tl_le ix40 tn_5 c12
                                            refine ok_bnd (Q := fun (z : Int32 × DD) => True ∧ TT G z.2 p 1 L ∧ Fr p [1] M z.2) ?_ ?_
                                            · refine ok_if (fun c13 => ?_) (fun c13 => ?_)
                                              · have dc13 := tl_eq ix40 tn_5 c13
                                                refine ok_bnd (s_three ts7_2 tn_1 tn_0 tn_0 (by omega) (by omega) (by omega) (by omega) (by omega) (by omega)) ?_
                                                intro y53 hyy53
                                                obtain ⟨ty53, gy53, _⟩ := hyy53
                                                have fy53 := fr_tr fs7_2 gy53 rfl
                                                exact ok_some ⟨trivial, ty53, fy53⟩
                                              · have dc13 := tl_ne ix40 tn_5 c13
                                                refine ok_ltI (av_mod ix40 tn_2 (by omega) (by omega)) (fun x45 ix45 => ?_)
                                                refine ok_bnd (Q := fun (z : Int32 × DD) => True ∧ TT G z.2 p 1 L ∧ Fr p [1] M z.2) ?_ ?_
                                                · refine ok_if (fun c14 => ?_) (fun c14 => ?_)
                                                  · have dc14 := tl_eq ix45 tn_0 c14
                                                    refine ok_ltI (av_sub ix38 tn_1 (by omega) (by omega)) (fun x51 ix51 => ?_)
                                                    refine ok_bnd (s_two ts7_2 ix38 ix51 (by omega) (by omega) (by omega) (by omega)) ?_
                                                    intro y52 hyy52
                                                    obtain ⟨ty52, gy52, _⟩ := hyy52
                                                    have fy52 := fr_tr fs7_2 gy52 rfl
                                                    exact ok_some ⟨trivial, ty52, fy52⟩
                                                  · have dc14 := tl_ne ix45 tn_0 c14
                                                    refine ok_ltI (av_sub ix38 tn_1 (by omega) (by omega)) (fun x48 ix48 => ?_)
                                                    refine ok_ltI (av_sub ix38 tn_2 (by omega) (by omega)) (fun x49 ix49 => ?_)
                                                    refine ok_bnd (s_three ts7_2 ix38 ix48 ix49 (by omega) (by omega) (by omega) (by omega) (by omega) (by omega)) ?_
                                                    intro y50 hyy50
                                                    obtain ⟨ty50, gy50, _⟩ := hyy50
                                                    have fy50 := fr_tr fs7_2 gy50 rfl
                                                    exact ok_some ⟨trivial, ty50, fy50⟩
                                                · intro y46 hyy46
                                                  obtain ⟨_, ty46_2, fy46_2⟩ := hyy46
                                                  exact ok_some ⟨trivial, ty46_2, fy46_2⟩
                                            · intro y43 hyy43
                                              obtain ⟨_, ty43_2, fy43_2⟩ := hyy43
                                              exact ok_some ⟨trivial, ty43_2, fy43_2⟩
                                          · have dc12 := tl_nle ix40 tn_5 c12
                                            refine ok_dr (f_r (b := 147) ts7_2 rfl (by decide)) (g_lt ts7_2 (by decide)) (g_k ts7_2 (by decide) rfl) ?_
                                            refine ok_chk (nxg (g_n (i := 147) (n := 34) ts7_2 (by decide) rfl) tn_0 (by omega) (by omega)) ?_
                                            refine ok_ltA (fun x55 => ?_)
                                            exact ok_some ⟨trivial, ts7_2, fs7_2⟩
                                        · intro y41 hyy41
                                          obtain ⟨_, ty41_2, fy41_2⟩ := hyy41
                                          exact ok_some ⟨trivial, (ti_bd ix38 (by omega) (by omega)), ty41_2, fy41_2⟩
                                    · intro y34 hyy34
                                      obtain ⟨_, ly34_2_1, ty34_2_2, fy34_2_2⟩ := hyy34
                                      have iy34_2_1 : TI y34.2.1 y34.2.1.toInt := rfl
                                      exact ok_some ⟨trivial, ty34_2_2, fy34_2_2⟩
                                · intro y32 hyy32
                                  obtain ⟨_, ty32_2, fy32_2⟩ := hyy32
                                  exact ok_some ⟨trivial, ty32_2, fy32_2⟩
                            · intro y30 hyy30
                              obtain ⟨_, ty30_2, fy30_2⟩ := hyy30
                              exact ok_some ⟨trivial, ty30_2, fy30_2⟩
                        · intro y28 hyy28
                          obtain ⟨_, ty28_2, fy28_2⟩ := hyy28
                          exact ok_some ⟨trivial, ty28_2, fy28_2⟩
                    · intro y26 hyy26
                      obtain ⟨_, ty26_2, fy26_2⟩ := hyy26
                      exact ok_some ⟨trivial, ty26_2, fy26_2⟩
                · intro y24 hyy24
                  obtain ⟨_, ty24_2, fy24_2⟩ := hyy24
                  exact ok_some ⟨trivial, ty24_2, fy24_2⟩
            · intro y22 hyy22
              obtain ⟨_, ty22_2, fy22_2⟩ := hyy22
              exact ok_some ⟨trivial, ty22_2, fy22_2⟩
        · intro y13 hyy13
          obtain ⟨_, ty13_2, fy13_2⟩ := hyy13
          refine ok_ltI (av_add iy2 ix12 (by omega) (by omega)) (fun x14 ix14 => ?_)
          refine ok_ltI (av_mul ix14 tn_16 (by omega) (by omega)) (fun x15 ix15 => ?_)
          refine ok_ltI (av_add ix15 iy1 (by omega) (by omega)) (fun x16 ix16 => ?_)
          refine ok_ltI (av_add ix16 ix11 (by omega) (by omega)) (fun x17 ix17 => ?_)
          refine ok_dr (f_r (b := 139) ty13_2 rfl (by decide)) (g_lt ty13_2 (by decide)) (g_k ty13_2 (by decide) rfl) ?_
          refine ok_chk (nxg (g_n (i := 139) (n := 384) ty13_2 (by decide) rfl) ix17 (by omega) (by omega)) ?_
          refine ok_ltt (fun M19 eM19 => ?_)
          have tM19 : TT G M19 p 1 L := by rw [eM19]; exact (tt_w0 ty13_2 rfl)
          have fM19 : Fr p [1] M M19 := by rw [eM19]; exact (fr_w fy13_2 rfl)
          clear eM19
          refine ok_ltI (av_add is7_1 tn_1 (by omega) (by omega)) (fun x20 ix20 => ?_)
          exact ok_some ⟨⟨(ti_bd ix20 (by omega) (by omega)), tM19, fM19⟩, (mu_up ix20 (by omega) (by omega))⟩
    · exact ⟨(ti_bd tn_0 (by omega) (by omega)), ty5, fy5⟩
    · exact mu_0 tn_0 (by omega)
    · intro y6 hyy6
      obtain ⟨ly6_1, ty6_2, fy6_2⟩ := hyy6
      have iy6_1 : TI y6.1 y6.1.toInt := rfl
      exact ok_some ⟨ty6_2, fy6_2⟩
  · refine ok_bnd (s_pieceX t i2 (by omega) (by omega)) ?_
    intro y1 hyy1
    obtain ⟨ty1, gy1, iy1⟩ := hyy1
    have fy1 := fr_tr (fr_0 p [1] M) gy1 rfl
    refine ok_bnd (s_pieceY ty1 i2 (by omega) (by omega)) ?_
    intro y2 hyy2
    obtain ⟨ty2, gy2, iy2⟩ := hyy2
    have fy2 := fr_tr fy1 gy2 rfl
    refine ok_dr rfl (g_lt ty2 (by decide)) (g_k ty2 (by decide) rfl) ?_
    refine ok_bnd (s_lumaAt ty2 (tt_pic ty2) (tt_p ty2) i1 iy1 iy2 (by omega) (by omega) (by omega) (by omega) (by omega) (by omega)) ?_
    intro y4 hyy4
    obtain ⟨ty4, gy4, iy4⟩ := hyy4
    have fy4 := fr_tr fy2 gy4 rfl
    refine ok_bnd (s_takeAround ty4 (tt_pic ty2) (tt_p ty2) iy4 i4 (by omega) (by omega) (by omega) (by omega) (by omega) (by omega) (by omega) (by omega)) ?_
    intro y5 hyy5
    obtain ⟨ty5, gy5⟩ := hyy5
    have fy5 := fr_tr fy4 gy5 rfl
    refine ok_bnd (Q := fun (z : Int32 × DD) => (0 ≤ z.1.toInt ∧ z.1.toInt ≤ 16) ∧ TT G z.2 p 2 L ∧ Fr p [1] M z.2) (ok_itr (fun (z : Int32 × DD) => (0 ≤ z.1.toInt ∧ z.1.toInt ≤ 16) ∧ TT G z.2 p 2 L ∧ Fr p [1] M z.2) (fun z => (16 - z.1.toInt).toNat) ?_ _ _ ?_ ?_) ?_
    · intro s7 hys7
      obtain ⟨ls7_1, ts7_2, fs7_2⟩ := hys7
      have is7_1 : TI s7.1 s7.1.toInt := rfl
      refine ok_if (fun c1 => ?_) (fun c1 => ?_)
      · have dc1 := tl_le tn_16 is7_1 c1
        exact ok_some ⟨(ti_bd is7_1 (by omega) (by omega)), ts7_2, fs7_2⟩
      · have dc1 := tl_nle tn_16 is7_1 c1
        refine ok_ltI (av_mod is7_1 tn_4 (by omega) (by omega)) (fun x11 ix11 => ?_)
        refine ok_ltI (av_div is7_1 tn_4 (by omega) (by omega)) (fun x12 ix12 => ?_)
        refine ok_bnd (Q := fun (z : Int32 × DD) => True ∧ TT G z.2 p 2 L ∧ Fr p [1] M z.2) ?_ ?_
        · refine ok_if (fun c2 => ?_) (fun c2 => ?_)
          · have dc2 := tl_eq (rfl : TI p3 p3.toInt) tn_0 c2
            refine ok_ltI (av_add tn_5 ix11 (by omega) (by omega)) (fun x90 ix90 => ?_)
            refine ok_dr (f_r (b := 147) ts7_2 rfl (by decide)) (g_lt ts7_2 (by decide)) (g_k ts7_2 (by decide) rfl) ?_
            refine ok_chk (nxg (g_n (i := 147) (n := 34) ts7_2 (by decide) rfl) ix90 (by omega) (by omega)) ?_
            refine ok_ltA (fun x92 => ?_)
            exact ok_some ⟨trivial, ts7_2, fs7_2⟩
          · have dc2 := tl_ne (rfl : TI p3 p3.toInt) tn_0 c2
            refine ok_bnd (Q := fun (z : Int32 × DD) => True ∧ TT G z.2 p 2 L ∧ Fr p [1] M z.2) ?_ ?_
            · refine ok_if (fun c3 => ?_) (fun c3 => ?_)
              · have dc3 := tl_eq (rfl : TI p3 p3.toInt) tn_1 c3
                refine ok_ltI (av_sub tn_3 ix12 (by omega) (by omega)) (fun x87 ix87 => ?_)
                refine ok_dr (f_r (b := 147) ts7_2 rfl (by decide)) (g_lt ts7_2 (by decide)) (g_k ts7_2 (by decide) rfl) ?_
                refine ok_chk (nxg (g_n (i := 147) (n := 34) ts7_2 (by decide) rfl) ix87 (by omega) (by omega)) ?_
                refine ok_ltA (fun x89 => ?_)
                exact ok_some ⟨trivial, ts7_2, fs7_2⟩
              · have dc3 := tl_ne (rfl : TI p3 p3.toInt) tn_1 c3
                refine ok_bnd (Q := fun (z : Int32 × DD) => True ∧ TT G z.2 p 2 L ∧ Fr p [1] M z.2) ?_ ?_
                · refine ok_if (fun c4 => ?_) (fun c4 => ?_)
                  · have dc4 := tl_eq (rfl : TI p3 p3.toInt) tn_2 c4
                    refine ok_bnd (s_meanAround ts7_2) ?_
                    intro y86 hyy86
                    obtain ⟨ty86, gy86, _⟩ := hyy86
                    have fy86 := fr_tr fs7_2 gy86 rfl
                    exact ok_some ⟨trivial, ty86, fy86⟩
                  · have dc4 := tl_ne (rfl : TI p3 p3.toInt) tn_2 c4
                    refine ok_bnd (Q := fun (z : Int32 × DD) => True ∧ TT G z.2 p 2 L ∧ Fr p [1] M z.2) ?_ ?_
                    · refine ok_if (fun c5 => ?_) (fun c5 => ?_)
                      · have dc5 := tl_eq (rfl : TI p3 p3.toInt) tn_3 c5
                        refine ok_bnd (Q := fun (z : Int32 × DD) => True ∧ TT G z.2 p 2 L ∧ Fr p [1] M z.2) ?_ ?_
                        · refine ok_if (fun c6 => ?_) (fun c6 => ?_)
                          · have dc6 := tl_eq is7_1 tn_15 c6
                            refine ok_bnd (s_three ts7_2 tn_11 tn_12 tn_12 (by omega) (by omega) (by omega) (by omega) (by omega) (by omega)) ?_
                            intro y85 hyy85
                            obtain ⟨ty85, gy85, _⟩ := hyy85
                            have fy85 := fr_tr fs7_2 gy85 rfl
                            exact ok_some ⟨trivial, ty85, fy85⟩
                          · have dc6 := tl_ne is7_1 tn_15 c6
                            refine ok_ltI (av_add tn_5 ix11 (by omega) (by omega)) (fun x78 ix78 => ?_)
                            refine ok_ltI (av_add ix78 ix12 (by omega) (by omega)) (fun x79 ix79 => ?_)
                            refine ok_ltI (av_add tn_6 ix11 (by omega) (by omega)) (fun x80 ix80 => ?_)
                            refine ok_ltI (av_add ix80 ix12 (by omega) (by omega)) (fun x81 ix81 => ?_)
                            refine ok_ltI (av_add tn_7 ix11 (by omega) (by omega)) (fun x82 ix82 => ?_)
                            refine ok_ltI (av_add ix82 ix12 (by omega) (by omega)) (fun x83 ix83 => ?_)
                            refine ok_bnd (s_three ts7_2 ix79 ix81 ix83 (by omega) (by omega) (by omega) (by omega) (by omega) (by omega)) ?_
                            intro y84 hyy84
                            obtain ⟨ty84, gy84, _⟩ := hyy84
                            have fy84 := fr_tr fs7_2 gy84 rfl
                            exact ok_some ⟨trivial, ty84, fy84⟩
                        · intro y76 hyy76
                          obtain ⟨_, ty76_2, fy76_2⟩ := hyy76
                          exact ok_some ⟨trivial, ty76_2, fy76_2⟩
                      · have dc5 := tl_ne (rfl : TI p3 p3.toInt) tn_3 c5
                        refine ok_bnd (Q := fun (z : Int32 × DD) => True ∧ TT G z.2 p 2 L ∧ Fr p [1] M z.2) ?_ ?_
                        · refine ok_if (fun c7 => ?_) (fun c7 => ?_)
                          · have dc7 := tl_eq (rfl : TI p3 p3.toInt) tn_4 c7
                            refine ok_ltI (av_add tn_3 ix11 (by omega) (by omega)) (fun x69 ix69 => ?_)
                            refine ok_ltI (av_sub ix69 ix12 (by omega) (by omega)) (fun x70 ix70 => ?_)
                            refine ok_ltI (av_add tn_4 ix11 (by omega) (by omega)) (fun x71 ix71 => ?_)
                            refine ok_ltI (av_sub ix71 ix12 (by omega) (by omega)) (fun x72 ix72 => ?_)
                            refine ok_ltI (av_add tn_5 ix11 (by omega) (by omega)) (fun x73 ix73 => ?_)
                            refine ok_ltI (av_sub ix73 ix12 (by omega) (by omega)) (fun x74 ix74 => ?_)
                            refine ok_bnd (s_three ts7_2 ix70 ix72 ix74 (by omega) (by omega) (by omega) (by omega) (by omega) (by omega)) ?_
                            intro y75 hyy75
                            obtain ⟨ty75, gy75, _⟩ := hyy75
                            have fy75 := fr_tr fs7_2 gy75 rfl
                            exact ok_some ⟨trivial, ty75, fy75⟩
                          · have dc7 := tl_ne (rfl : TI p3 p3.toInt) tn_4 c7
                            refine ok_bnd (Q := fun (z : Int32 × DD) => True ∧ TT G z.2 p 2 L ∧ Fr p [1] M z.2) ?_ ?_
                            · refine ok_if (fun c8 => ?_) (fun c8 => ?_)
                              · have dc8 := tl_eq (rfl : TI p3 p3.toInt) tn_5 c8
                                refine ok_bnd (s_slant ts7_2 ix11 ix12 tn_1 (by omega) (by omega) (by omega) (by omega) (by omega)) ?_
                                intro y68 hyy68
                                obtain ⟨ty68, gy68, _⟩ := hyy68
                                have fy68 := fr_tr fs7_2 gy68 rfl
                                exact ok_some ⟨trivial, ty68, fy68⟩
                              · have dc8 := tl_ne (rfl : TI p3 p3.toInt) tn_5 c8
                                refine ok_bnd (Q := fun (z : Int32 × DD) => True ∧ TT G z.2 p 2 L ∧ Fr p [1] M z.2) ?_ ?_
                                · refine ok_if (fun c9 => ?_) (fun c9 => ?_)
                                  · have dc9 := tl_eq (rfl : TI p3 p3.toInt) tn_6 c9
                                    refine ok_bnd (s_slant ts7_2 ix12 ix11 tn_m1 (by omega) (by omega) (by omega) (by omega) (by omega)) ?_
                                    intro y67 hyy67
                                    obtain ⟨ty67, gy67, _⟩ := hyy67
                                    have fy67 := fr_tr fs7_2 gy67 rfl
                                    exact ok_some ⟨trivial, ty67, fy67⟩
                                  · have dc9 := tl_ne (rfl : TI p3 p3.toInt) tn_6 c9
                                    refine ok_bnd (Q := fun (z : Int32 × Int32 × DD) => True ∧ (-1 ≤ z.2.1.toInt ∧ z.2.1.toInt ≤ 9) ∧ TT G z.2.2 p 2 L ∧ Fr p [1] M z.2.2) ?_ ?_
                                    · refine ok_if (fun c10 => ?_) (fun c10 => ?_)
                                      · have dc10 := tl_eq (rfl : TI p3 p3.toInt) tn_7 c10
                                        refine ok_ltI (av_add tn_5 ix11 (by omega) (by omega)) (fun x56 ix56 => ?_)
                                        refine ok_ltI (av_sar 1 ix12 (by decide)) (fun x57 ix57 => ?_)
                                        refine ok_ltI (av_add ix56 ix57 (by omega) (by omega)) (fun x58 ix58 => ?_)
                                        refine ok_ltI (av_mod ix12 tn_2 (by omega) (by omega)) (fun x59 ix59 => ?_)
                                        refine ok_bnd (Q := fun (z : Int32 × DD) => True ∧ TT G z.2 p 2 L ∧ Fr p [1] M z.2) ?_ ?_
                                        · refine ok_if (fun c11 => ?_) (fun c11 => ?_)
                                          · have dc11 := tl_eq ix59 tn_0 c11
                                            refine ok_ltI (av_add ix58 tn_1 (by omega) (by omega)) (fun x65 ix65 => ?_)
                                            refine ok_bnd (s_two ts7_2 ix58 ix65 (by omega) (by omega) (by omega) (by omega)) ?_
                                            intro y66 hyy66
                                            obtain ⟨ty66, gy66, _⟩ := hyy66
                                            have fy66 := fr_tr fs7_2 gy66 rfl
                                            exact ok_some ⟨trivial, ty66, fy66⟩
                                          · have dc11 := tl_ne ix59 tn_0 c11
                                            refine ok_ltI (av_add ix58 tn_1 (by omega) (by omega)) (fun x62 ix62 => ?_)
                                            refine ok_ltI (av_add ix58 tn_2 (by omega) (by omega)) (fun x63 ix63 => ?_)
                                            refine ok_bnd (s_three ts7_2 ix58 ix62 ix63 (by omega) (by omega) (by omega) (by omega) (by omega) (by omega)) ?_
                                            intro y64 hyy64
                                            obtain ⟨ty64, gy64, _⟩ := hyy64
                                            have fy64 := fr_tr fs7_2 gy64 rfl
                                            exact ok_some ⟨trivial, ty64, fy64⟩
                                        · intro y60 hyy60
                                          obtain ⟨_, ty60_2, fy60_2⟩ := hyy60
                                          exact ok_some ⟨trivial, (ti_bd ix58 (by omega) (by omega)), ty60_2, fy60_2⟩
                                      · have dc10 := tl_ne (rfl : TI p3 p3.toInt) tn_7 c10
                                        refine ok_ltI (av_sub tn_3 ix12 (by omega) (by omega)) (fun x36 ix36 => ?_)
                                        refine ok_ltI (av_sar 1 ix11 (by decide)) (fun x37 ix37 => ?_)
                                        refine ok_ltI (av_sub ix36 ix37 (by omega) (by omega)) (fun x38 ix38 => ?_)
                                        refine ok_ltI (av_mul tn_2 ix12 (by omega) (by omega)) (fun x39 ix39 => ?_)
                                        refine ok_ltI (av_add ix11 ix39 (by omega) (by omega)) (fun x40 ix40 => ?_)
                                        refine ok_bnd (Q := fun (z : Int32 × DD) => True ∧ TT G z.2 p 2 L ∧ Fr p [1] M z.2) ?_ ?_
                                        · refine ok_if (fun c12 => ?_) (fun c12 => ?_)
                                          · have dc12 := tl_le ix40 tn_5 c12
                                            refine ok_bnd (Q := fun (z : Int32 × DD) => True ∧ TT G z.2 p 2 L ∧ Fr p [1] M z.2) ?_ ?_
                                            · refine ok_if (fun c13 => ?_) (fun c13 => ?_)
                                              · have dc13 := tl_eq ix40 tn_5 c13
                                                refine ok_bnd (s_three ts7_2 tn_1 tn_0 tn_0 (by omega) (by omega) (by omega) (by omega) (by omega) (by omega)) ?_
                                                intro y53 hyy53
                                                obtain ⟨ty53, gy53, _⟩ := hyy53
                                                have fy53 := fr_tr fs7_2 gy53 rfl
                                                exact ok_some ⟨trivial, ty53, fy53⟩
                                              · have dc13 := tl_ne ix40 tn_5 c13
                                                refine ok_ltI (av_mod ix40 tn_2 (by omega) (by omega)) (fun x45 ix45 => ?_)
                                                refine ok_bnd (Q := fun (z : Int32 × DD) => True ∧ TT G z.2 p 2 L ∧ Fr p [1] M z.2) ?_ ?_
                                                · refine ok_if (fun c14 => ?_) (fun c14 => ?_)
                                                  · have dc14 := tl_eq ix45 tn_0 c14
                                                    refine ok_ltI (av_sub ix38 tn_1 (by omega) (by omega)) (fun x51 ix51 => ?_)
                                                    refine ok_bnd (s_two ts7_2 ix38 ix51 (by omega) (by omega) (by omega) (by omega)) ?_
                                                    intro y52 hyy52
                                                    obtain ⟨ty52, gy52, _⟩ := hyy52
                                                    have fy52 := fr_tr fs7_2 gy52 rfl
                                                    exact ok_some ⟨trivial, ty52, fy52⟩
                                                  · have dc14 := tl_ne ix45 tn_0 c14
                                                    refine ok_ltI (av_sub ix38 tn_1 (by omega) (by omega)) (fun x48 ix48 => ?_)
                                                    refine ok_ltI (av_sub ix38 tn_2 (by omega) (by omega)) (fun x49 ix49 => ?_)
                                                    refine ok_bnd (s_three ts7_2 ix38 ix48 ix49 (by omega) (by omega) (by omega) (by omega) (by omega) (by omega)) ?_
                                                    intro y50 hyy50
                                                    obtain ⟨ty50, gy50, _⟩ := hyy50
                                                    have fy50 := fr_tr fs7_2 gy50 rfl
                                                    exact ok_some ⟨trivial, ty50, fy50⟩
                                                · intro y46 hyy46
                                                  obtain ⟨_, ty46_2, fy46_2⟩ := hyy46
                                                  exact ok_some ⟨trivial, ty46_2, fy46_2⟩
                                            · intro y43 hyy43
                                              obtain ⟨_, ty43_2, fy43_2⟩ := hyy43
                                              exact ok_some ⟨trivial, ty43_2, fy43_2⟩
                                          · have dc12 := tl_nle ix40 tn_5 c12
                                            refine ok_dr (f_r (b := 147) ts7_2 rfl (by decide)) (g_lt ts7_2 (by decide)) (g_k ts7_2 (by decide) rfl) ?_
                                            refine ok_chk (nxg (g_n (i := 147) (n := 34) ts7_2 (by decide) rfl) tn_0 (by omega) (by omega)) ?_
                                            refine ok_ltA (fun x55 => ?_)
                                            exact ok_some ⟨trivial, ts7_2, fs7_2⟩
                                        · intro y41 hyy41
                                          obtain ⟨_, ty41_2, fy41_2⟩ := hyy41
                                          exact ok_some ⟨trivial, (ti_bd ix38 (by omega) (by omega)), ty41_2, fy41_2⟩
                                    · intro y34 hyy34
                                      obtain ⟨_, ly34_2_1, ty34_2_2, fy34_2_2⟩ := hyy34
                                      have iy34_2_1 : TI y34.2.1 y34.2.1.toInt := rfl
                                      exact ok_some ⟨trivial, ty34_2_2, fy34_2_2⟩
                                · intro y32 hyy32
                                  obtain ⟨_, ty32_2, fy32_2⟩ := hyy32
                                  exact ok_some ⟨trivial, ty32_2, fy32_2⟩
                            · intro y30 hyy30
                              obtain ⟨_, ty30_2, fy30_2⟩ := hyy30
                              exact ok_some ⟨trivial, ty30_2, fy30_2⟩
                        · intro y28 hyy28
                          obtain ⟨_, ty28_2, fy28_2⟩ := hyy28
                          exact ok_some ⟨trivial, ty28_2, fy28_2⟩
                    · intro y26 hyy26
                      obtain ⟨_, ty26_2, fy26_2⟩ := hyy26
                      exact ok_some ⟨trivial, ty26_2, fy26_2⟩
                · intro y24 hyy24
                  obtain ⟨_, ty24_2, fy24_2⟩ := hyy24
                  exact ok_some ⟨trivial, ty24_2, fy24_2⟩
            · intro y22 hyy22
              obtain ⟨_, ty22_2, fy22_2⟩ := hyy22
              exact ok_some ⟨trivial, ty22_2, fy22_2⟩
        · intro y13 hyy13
          obtain ⟨_, ty13_2, fy13_2⟩ := hyy13
          refine ok_ltI (av_add iy2 ix12 (by omega) (by omega)) (fun x14 ix14 => ?_)
          refine ok_ltI (av_mul ix14 tn_16 (by omega) (by omega)) (fun x15 ix15 => ?_)
          refine ok_ltI (av_add ix15 iy1 (by omega) (by omega)) (fun x16 ix16 => ?_)
          refine ok_ltI (av_add ix16 ix11 (by omega) (by omega)) (fun x17 ix17 => ?_)
          refine ok_dr (f_r (b := 139) ty13_2 rfl (by decide)) (g_lt ty13_2 (by decide)) (g_k ty13_2 (by decide) rfl) ?_
          refine ok_chk (nxg (g_n (i := 139) (n := 384) ty13_2 (by decide) rfl) ix17 (by omega) (by omega)) ?_
          refine ok_ltt (fun M19 eM19 => ?_)
          have tM19 : TT G M19 p 2 L := by rw [eM19]; exact (tt_w0 ty13_2 rfl)
          have fM19 : Fr p [1] M M19 := by rw [eM19]; exact (fr_w fy13_2 rfl)
          clear eM19
          refine ok_ltI (av_add is7_1 tn_1 (by omega) (by omega)) (fun x20 ix20 => ?_)
          exact ok_some ⟨⟨(ti_bd ix20 (by omega) (by omega)), tM19, fM19⟩, (mu_up ix20 (by omega) (by omega))⟩
    · exact ⟨(ti_bd tn_0 (by omega) (by omega)), ty5, fy5⟩
    · exact mu_0 tn_0 (by omega)
    · intro y6 hyy6
      obtain ⟨ly6_1, ty6_2, fy6_2⟩ := hyy6
      have iy6_1 : TI y6.1 y6.1.toInt := rfl
      exact ok_some ⟨ty6_2, fy6_2⟩
theorem s_predictSixteen {G : GG} {M : DD} {p : Nat} {w : Int} {L : List Nat} (t : TT G M p w L) {p0 : Option Nat} (e0 : p0 = some 125) {p1 : Int32} {a1 : Int} (i1 : TI p1 a1) {p2 : Int32} {p3 : Int32} {a3 : Int} (i3 : TI p3 a3) (h0 : 0 ≤ a1) (h1 : a1 < 2 * w) (h2 : 0 ≤ a3) (h3 : a3 ≤ 15) (h4 : a3 % 2 = 1 → 1 ≤ a1 % w) (h5 : a3 / 2 % 2 = 1 → w ≤ a1) (h6 : a3 / 4 % 2 = 1 → 1 ≤ a1 % w ∧ w ≤ a1) (h7 : a3 / 8 % 2 = 1 → w ≤ a1) : OK (FX6_predictSixteen G M 138 p0 p1 p2 p3) (fun y => TT G y p w L ∧ Fr p [1] M y) := by
  unfold FX6_predictSixteen
  subst e0
  have hw12 : 1 ≤ w ∧ w ≤ 2 := by rcases tt_w t with h | h <;> omega
  rcases tt_w t with rfl | rfl
  · refine ok_dr rfl (g_lt t (by decide)) (g_k t (by decide) rfl) ?_
    refine ok_dr (tt_pic t) (by have q := (tt_q0b t (tt_p t)); omega) (gk_0 t (tt_p t)) ?_
    refine ok_dr (pr_4 t (tt_p t)) (by have q := (tt_q0b t (tt_p t)); omega) (gk_2 t (tt_p t)) ?_
    refine ok_chk (nxg (gl_2 t (tt_p t)) tn_0 (by omega) (by omega)) ?_
    refine ok_bnd (s_lumaAt t (tt_pic t) (tt_p t) i1 tn_0 tn_0 (by omega) (by omega) (by omega) (by omega) (by omega) (by omega)) ?_
    intro y5 hyy5
    obtain ⟨ty5, gy5, iy5⟩ := hyy5
    have fy5 := fr_tr (fr_0 p [1] M) gy5 rfl
    refine ok_dr (tt_pic ty5) (by have q := (tt_q0b ty5 (tt_p ty5)); omega) (gk_0 ty5 (tt_p ty5)) ?_
    refine ok_ltI (tw_q ty5 (tt_p ty5)) (fun x7 ix7 => ?_)
    refine ok_ltI (av_mul tn_16 ix7 (by omega) (by omega)) (fun x8 ix8 => ?_)
    refine ok_bnd (s_takeSides ty5 (pp_0 t (tt_p t)) (by omega : 9 = 9 ∨ 9 = 10 ∨ 9 = 11) (gl_9 t (tt_p t)) iy5 ix8 tn_16 i3 (by omega) (by omega) (by omega) (by omega) (by omega) (by omega) (by omega) (by omega)) ?_
    intro y9 hyy9
    obtain ⟨ty9, gy9⟩ := hyy9
    have fy9 := fr_tr fy5 gy9 rfl
    refine ok_if (fun c1 => ?_) (fun c1 => ?_)
    · have dc1 := tl_eq (rfl : TI p2 p2.toInt) tn_3 c1
      refine ok_bnd (s_fillPlane ty9 tn_0 tn_16 (by omega) (by omega)) ?_
      intro y64 hyy64
      obtain ⟨ty64, gy64⟩ := hyy64
      have fy64 := fr_tr fy9 gy64 rfl
      exact ok_some ⟨ty64, fy64⟩
    · have dc1 := tl_ne (rfl : TI p2 p2.toInt) tn_3 c1
      refine ok_ltI (av_and 1 i3 (by decide) (by decide)) (fun x11 ix11 => ?_)
      refine ok_bnd (Q := fun (z : Int32) => (0 ≤ z.toInt ∧ z.toInt ≤ 1)) ?_ ?_
      · refine ok_if (fun c2 => ?_) (fun c2 => ?_)
        · have dc2 := tl_eq ix11 tn_0 c2
          exact ok_some (ti_bd tn_0 (by omega) (by omega))
        · have dc2 := tl_ne ix11 tn_0 c2
          exact ok_some (ti_bd tn_1 (by omega) (by omega))
      · intro y12 hyy12
        have ly12 := hyy12
        have iy12 : TI y12 y12.toInt := rfl
        refine ok_ltI (av_bit 1 i3 (by omega) (by decide) (by decide)) (fun x13 ix13 => ?_)
        refine ok_bnd (Q := fun (z : Int32) => (0 ≤ z.toInt ∧ z.toInt ≤ 1)) ?_ ?_
        · refine ok_if (fun c3 => ?_) (fun c3 => ?_)
          · have dc3 := tl_eq ix13 tn_0 c3
            exact ok_some (ti_bd tn_0 (by omega) (by omega))
          · have dc3 := tl_ne ix13 tn_0 c3
            exact ok_some (ti_bd tn_1 (by omega) (by omega))
        · intro y14 hyy14
          have ly14 := hyy14
          have iy14 : TI y14 y14.toInt := rfl
          refine ok_bnd (s_sumAround ty9 tn_1 tn_16 (by omega) (by omega) (by omega)) ?_
          intro y15 hyy15
          obtain ⟨ty15, gy15, _⟩ := hyy15
          have fy15 := fr_tr fy9 gy15 rfl
          refine ok_bnd (s_sumAround ty15 tn_18 tn_16 (by omega) (by omega) (by omega)) ?_
          intro y16 hyy16
          obtain ⟨ty16, gy16, _⟩ := hyy16
          have fy16 := fr_tr fy15 gy16 rfl
          refine ok_ltA (fun x17 => ?_)
          refine ok_bnd (Q := fun (z : Int32) => True) ?_ ?_
          · refine ok_if (fun c4 => ?_) (fun c4 => ?_)
            · have dc4 := tl_eq iy12 tn_0 c4
              refine ok_bnd (Q := fun (z : Int32) => True) ?_ ?_
              · refine ok_if (fun c5 => ?_) (fun c5 => ?_)
                · have dc5 := tl_eq iy14 tn_0 c5
                  exact ok_some trivial
                · have dc5 := tl_ne iy14 tn_0 c5
                  refine ok_bnd (Q := fun (z : Int32) => True) ?_ ?_
                  · refine ok_if (fun c6 => ?_) (fun c6 => ?_)
                    · have dc6 := tl_eq iy12 tn_0 c6
                      refine ok_ltA (fun x54 => ?_)
                      refine ok_ltA (fun x55 => ?_)
                      exact ok_some trivial
                    · have dc6 := tl_ne iy12 tn_0 c6
                      exfalso
                      omega
                  · intro y52 hyy52
                    have u_y52 := hyy52
                    exact ok_some trivial
              · intro y50 hyy50
                have u_y50 := hyy50
                exact ok_some trivial
            · have dc4 := tl_ne iy12 tn_0 c4
              refine ok_bnd (Q := fun (z : Int32) => True) ?_ ?_
              · refine ok_if (fun c7 => ?_) (fun c7 => ?_)
                · have dc7 := tl_eq iy12 tn_0 c7
                  exfalso
                  omega
                · have dc7 := tl_ne iy12 tn_0 c7
                  refine ok_bnd (Q := fun (z : Int32) => True) ?_ ?_
                  · refine ok_if (fun c8 => ?_) (fun c8 => ?_)
                    · have dc8 := tl_eq iy14 tn_0 c8
                      refine ok_ltA (fun x46 => ?_)
                      refine ok_ltA (fun x47 => ?_)
                      exact ok_some trivial
                    · have dc8 := tl_ne iy14 tn_0 c8
                      refine ok_ltA (fun x48 => ?_)
                      refine ok_ltA (fun x49 => ?_)
                      exact ok_some trivial
                  · intro y44 hyy44
                    have u_y44 := hyy44
                    exact ok_some trivial
              · intro y40 hyy40
                have u_y40 := hyy40
                exact ok_some trivial
          · intro y18 hyy18
            have u_y18 := hyy18
            refine ok_bnd (Q := fun (z : Int32 × DD) => (0 ≤ z.1.toInt ∧ z.1.toInt ≤ 256) ∧ TT G z.2 p 1 L ∧ Fr p [1] M z.2) (ok_itr (fun (z : Int32 × DD) => (0 ≤ z.1.toInt ∧ z.1.toInt ≤ 256) ∧ TT G z.2 p 1 L ∧ Fr p [1] M z.2) (fun z => (256 - z.1.toInt).toNat) ?_ _ _ ?_ ?_) ?_
            · intro s20 hys20
              obtain ⟨ls20_1, ts20_2, fs20_2⟩ := hys20
              have is20_1 : TI s20.1 s20.1.toInt := rfl
              refine ok_if (fun c9 => ?_) (fun c9 => ?_)
              · have dc9 := tl_le tn_256 is20_1 c9
                exact ok_some ⟨(ti_bd is20_1 (by omega) (by omega)), ts20_2, fs20_2⟩
              · have dc9 := tl_nle tn_256 is20_1 c9
                refine ok_bnd (Q := fun (z : Int32) => True) ?_ ?_
                · refine ok_if (fun c10 => ?_) (fun c10 => ?_)
                  · have dc10 := tl_eq (rfl : TI p2 p2.toInt) tn_0 c10
                    refine ok_ltI (av_mod is20_1 tn_16 (by omega) (by omega)) (fun x35 ix35 => ?_)
                    refine ok_ltI (av_add tn_1 ix35 (by omega) (by omega)) (fun x36 ix36 => ?_)
                    refine ok_dr (f_r (b := 147) ts20_2 rfl (by decide)) (g_lt ts20_2 (by decide)) (g_k ts20_2 (by decide) rfl) ?_
                    refine ok_chk (nxg (g_n (i := 147) (n := 34) ts20_2 (by decide) rfl) ix36 (by omega) (by omega)) ?_
                    refine ok_ltA (fun x38 => ?_)
                    exact ok_some trivial
                  · have dc10 := tl_ne (rfl : TI p2 p2.toInt) tn_0 c10
                    refine ok_bnd (Q := fun (z : Int32) => True) ?_ ?_
                    · refine ok_if (fun c11 => ?_) (fun c11 => ?_)
                      · have dc11 := tl_eq (rfl : TI p2 p2.toInt) tn_1 c11
                        refine ok_ltI (av_div is20_1 tn_16 (by omega) (by omega)) (fun x31 ix31 => ?_)
                        refine ok_ltI (av_add tn_18 ix31 (by omega) (by omega)) (fun x32 ix32 => ?_)
                        refine ok_dr (f_r (b := 147) ts20_2 rfl (by decide)) (g_lt ts20_2 (by decide)) (g_k ts20_2 (by decide) rfl) ?_
                        refine ok_chk (nxg (g_n (i := 147) (n := 34) ts20_2 (by decide) rfl) ix32 (by omega) (by omega)) ?_
                        refine ok_ltA (fun x34 => ?_)
                        exact ok_some trivial
                      · have dc11 := tl_ne (rfl : TI p2 p2.toInt) tn_1 c11
                        exact ok_some trivial
                    · intro y29 hyy29
                      have u_y29 := hyy29
                      exact ok_some trivial
                · intro y24 hyy24
                  have u_y24 := hyy24
                  refine ok_dr (f_r (b := 139) ts20_2 rfl (by decide)) (g_lt ts20_2 (by decide)) (g_k ts20_2 (by decide) rfl) ?_
                  refine ok_chk (nxg (g_n (i := 139) (n := 384) ts20_2 (by decide) rfl) is20_1 (by omega) (by omega)) ?_
                  refine ok_ltt (fun M26 eM26 => ?_)
                  have tM26 : TT G M26 p 1 L := by rw [eM26]; exact (tt_w0 ts20_2 rfl)
                  have fM26 : Fr p [1] M M26 := by rw [eM26]; exact (fr_w fs20_2 rfl)
                  clear eM26
                  refine ok_ltI (av_add is20_1 tn_1 (by omega) (by omega)) (fun x27 ix27 => ?_)
                  exact ok_some ⟨⟨(ti_bd ix27 (by omega) (by omega)), tM26, fM26⟩, (mu_up ix27 (by omega) (by omega))⟩
            · exact ⟨(ti_bd tn_0 (by omega) (by omega)), ty16, fy16⟩
            · exact mu_0 tn_0 (by omega)
            · intro y19 hyy19
              obtain ⟨ly19_1, ty19_2, fy19_2⟩ := hyy19
              have iy19_1 : TI y19.1 y19.1.toInt := rfl
              exact ok_some ⟨ty19_2, fy19_2⟩
  · refine ok_dr rfl (g_lt t (by decide)) (g_k t (by decide) rfl) ?_
    refine ok_dr (tt_pic t) (by have q := (tt_q0b t (tt_p t)); omega) (gk_0 t (tt_p t)) ?_
    refine ok_dr (pr_4 t (tt_p t)) (by have q := (tt_q0b t (tt_p t)); omega) (gk_2 t (tt_p t)) ?_
    refine ok_chk (nxg (gl_2 t (tt_p t)) tn_0 (by omega) (by omega)) ?_
    refine ok_bnd (s_lumaAt t (tt_pic t) (tt_p t) i1 tn_0 tn_0 (by omega) (by omega) (by omega) (by omega) (by omega) (by omega)) ?_
    intro y5 hyy5
    obtain ⟨ty5, gy5, iy5⟩ := hyy5
    have fy5 := fr_tr (fr_0 p [1] M) gy5 rfl
    refine ok_dr (tt_pic ty5) (by have q := (tt_q0b ty5 (tt_p ty5)); omega) (gk_0 ty5 (tt_p ty5)) ?_
    refine ok_ltI (tw_q ty5 (tt_p ty5)) (fun x7 ix7 => ?_)
    refine ok_ltI (av_mul tn_16 ix7 (by omega) (by omega)) (fun x8 ix8 => ?_)
    refine ok_bnd (s_takeSides ty5 (pp_0 t (tt_p t)) (by omega : 9 = 9 ∨ 9 = 10 ∨ 9 = 11) (gl_9 t (tt_p t)) iy5 ix8 tn_16 i3 (by omega) (by omega) (by omega) (by omega) (by omega) (by omega) (by omega) (by omega)) ?_
    intro y9 hyy9
    obtain ⟨ty9, gy9⟩ := hyy9
    have fy9 := fr_tr fy5 gy9 rfl
    refine ok_if (fun c1 => ?_) (fun c1 => ?_)
    · have dc1 := tl_eq (rfl : TI p2 p2.toInt) tn_3 c1
      refine ok_bnd (s_fillPlane ty9 tn_0 tn_16 (by omega) (by omega)) ?_
      intro y64 hyy64
      obtain ⟨ty64, gy64⟩ := hyy64
      have fy64 := fr_tr fy9 gy64 rfl
      exact ok_some ⟨ty64, fy64⟩
    · have dc1 := tl_ne (rfl : TI p2 p2.toInt) tn_3 c1
      refine ok_ltI (av_and 1 i3 (by decide) (by decide)) (fun x11 ix11 => ?_)
      refine ok_bnd (Q := fun (z : Int32) => (0 ≤ z.toInt ∧ z.toInt ≤ 1)) ?_ ?_
      · refine ok_if (fun c2 => ?_) (fun c2 => ?_)
        · have dc2 := tl_eq ix11 tn_0 c2
          exact ok_some (ti_bd tn_0 (by omega) (by omega))
        · have dc2 := tl_ne ix11 tn_0 c2
          exact ok_some (ti_bd tn_1 (by omega) (by omega))
      · intro y12 hyy12
        have ly12 := hyy12
        have iy12 : TI y12 y12.toInt := rfl
        refine ok_ltI (av_bit 1 i3 (by omega) (by decide) (by decide)) (fun x13 ix13 => ?_)
        refine ok_bnd (Q := fun (z : Int32) => (0 ≤ z.toInt ∧ z.toInt ≤ 1)) ?_ ?_
        · refine ok_if (fun c3 => ?_) (fun c3 => ?_)
          · have dc3 := tl_eq ix13 tn_0 c3
            exact ok_some (ti_bd tn_0 (by omega) (by omega))
          · have dc3 := tl_ne ix13 tn_0 c3
            exact ok_some (ti_bd tn_1 (by omega) (by omega))
        · intro y14 hyy14
          have ly14 := hyy14
          have iy14 : TI y14 y14.toInt := rfl
          refine ok_bnd (s_sumAround ty9 tn_1 tn_16 (by omega) (by omega) (by omega)) ?_
          intro y15 hyy15
          obtain ⟨ty15, gy15, _⟩ := hyy15
          have fy15 := fr_tr fy9 gy15 rfl
          refine ok_bnd (s_sumAround ty15 tn_18 tn_16 (by omega) (by omega) (by omega)) ?_
          intro y16 hyy16
          obtain ⟨ty16, gy16, _⟩ := hyy16
          have fy16 := fr_tr fy15 gy16 rfl
          refine ok_ltA (fun x17 => ?_)
          refine ok_bnd (Q := fun (z : Int32) => True) ?_ ?_
          · refine ok_if (fun c4 => ?_) (fun c4 => ?_)
            · have dc4 := tl_eq iy12 tn_0 c4
              refine ok_bnd (Q := fun (z : Int32) => True) ?_ ?_
              · refine ok_if (fun c5 => ?_) (fun c5 => ?_)
                · have dc5 := tl_eq iy14 tn_0 c5
                  exact ok_some trivial
                · have dc5 := tl_ne iy14 tn_0 c5
                  refine ok_bnd (Q := fun (z : Int32) => True) ?_ ?_
                  · refine ok_if (fun c6 => ?_) (fun c6 => ?_)
                    · have dc6 := tl_eq iy12 tn_0 c6
                      refine ok_ltA (fun x54 => ?_)
                      refine ok_ltA (fun x55 => ?_)
                      exact ok_some trivial
                    · have dc6 := tl_ne iy12 tn_0 c6
                      exfalso
                      omega
                  · intro y52 hyy52
                    have u_y52 := hyy52
                    exact ok_some trivial
              · intro y50 hyy50
                have u_y50 := hyy50
                exact ok_some trivial
            · have dc4 := tl_ne iy12 tn_0 c4
              refine ok_bnd (Q := fun (z : Int32) => True) ?_ ?_
              · refine ok_if (fun c7 => ?_) (fun c7 => ?_)
                · have dc7 := tl_eq iy12 tn_0 c7
                  exfalso
                  omega
                · have dc7 := tl_ne iy12 tn_0 c7
                  refine ok_bnd (Q := fun (z : Int32) => True) ?_ ?_
                  · refine ok_if (fun c8 => ?_) (fun c8 => ?_)
                    · have dc8 := tl_eq iy14 tn_0 c8
                      refine ok_ltA (fun x46 => ?_)
                      refine ok_ltA (fun x47 => ?_)
                      exact ok_some trivial
                    · have dc8 := tl_ne iy14 tn_0 c8
                      refine ok_ltA (fun x48 => ?_)
                      refine ok_ltA (fun x49 => ?_)
                      exact ok_some trivial
                  · intro y44 hyy44
                    have u_y44 := hyy44
                    exact ok_some trivial
              · intro y40 hyy40
                have u_y40 := hyy40
                exact ok_some trivial
          · intro y18 hyy18
            have u_y18 := hyy18
            refine ok_bnd (Q := fun (z : Int32 × DD) => (0 ≤ z.1.toInt ∧ z.1.toInt ≤ 256) ∧ TT G z.2 p 2 L ∧ Fr p [1] M z.2) (ok_itr (fun (z : Int32 × DD) => (0 ≤ z.1.toInt ∧ z.1.toInt ≤ 256) ∧ TT G z.2 p 2 L ∧ Fr p [1] M z.2) (fun z => (256 - z.1.toInt).toNat) ?_ _ _ ?_ ?_) ?_
            · intro s20 hys20
              obtain ⟨ls20_1, ts20_2, fs20_2⟩ := hys20
              have is20_1 : TI s20.1 s20.1.toInt := rfl
              refine ok_if (fun c9 => ?_) (fun c9 => ?_)
              · have dc9 := tl_le tn_256 is20_1 c9
                exact ok_some ⟨(ti_bd is20_1 (by omega) (by omega)), ts20_2, fs20_2⟩
              · have dc9 := tl_nle tn_256 is20_1 c9
                refine ok_bnd (Q := fun (z : Int32) => True) ?_ ?_
                · refine ok_if (fun c10 => ?_) (fun c10 => ?_)
                  · have dc10 := tl_eq (rfl : TI p2 p2.toInt) tn_0 c10
                    refine ok_ltI (av_mod is20_1 tn_16 (by omega) (by omega)) (fun x35 ix35 => ?_)
                    refine ok_ltI (av_add tn_1 ix35 (by omega) (by omega)) (fun x36 ix36 => ?_)
                    refine ok_dr (f_r (b := 147) ts20_2 rfl (by decide)) (g_lt ts20_2 (by decide)) (g_k ts20_2 (by decide) rfl) ?_
                    refine ok_chk (nxg (g_n (i := 147) (n := 34) ts20_2 (by decide) rfl) ix36 (by omega) (by omega)) ?_
                    refine ok_ltA (fun x38 => ?_)
                    exact ok_some trivial
                  · have dc10 := tl_ne (rfl : TI p2 p2.toInt) tn_0 c10
                    refine ok_bnd (Q := fun (z : Int32) => True) ?_ ?_
                    · refine ok_if (fun c11 => ?_) (fun c11 => ?_)
                      · have dc11 := tl_eq (rfl : TI p2 p2.toInt) tn_1 c11
                        refine ok_ltI (av_div is20_1 tn_16 (by omega) (by omega)) (fun x31 ix31 => ?_)
                        refine ok_ltI (av_add tn_18 ix31 (by omega) (by omega)) (fun x32 ix32 => ?_)
                        refine ok_dr (f_r (b := 147) ts20_2 rfl (by decide)) (g_lt ts20_2 (by decide)) (g_k ts20_2 (by decide) rfl) ?_
                        refine ok_chk (nxg (g_n (i := 147) (n := 34) ts20_2 (by decide) rfl) ix32 (by omega) (by omega)) ?_
                        refine ok_ltA (fun x34 => ?_)
                        exact ok_some trivial
                      · have dc11 := tl_ne (rfl : TI p2 p2.toInt) tn_1 c11
                        exact ok_some trivial
                    · intro y29 hyy29
                      have u_y29 := hyy29
                      exact ok_some trivial
                · intro y24 hyy24
                  have u_y24 := hyy24
                  refine ok_dr (f_r (b := 139) ts20_2 rfl (by decide)) (g_lt ts20_2 (by decide)) (g_k ts20_2 (by decide) rfl) ?_
                  refine ok_chk (nxg (g_n (i := 139) (n := 384) ts20_2 (by decide) rfl) is20_1 (by omega) (by omega)) ?_
                  refine ok_ltt (fun M26 eM26 => ?_)
                  have tM26 : TT G M26 p 2 L := by rw [eM26]; exact (tt_w0 ts20_2 rfl)
                  have fM26 : Fr p [1] M M26 := by rw [eM26]; exact (fr_w fs20_2 rfl)
                  clear eM26
                  refine ok_ltI (av_add is20_1 tn_1 (by omega) (by omega)) (fun x27 ix27 => ?_)
                  exact ok_some ⟨⟨(ti_bd ix27 (by omega) (by omega)), tM26, fM26⟩, (mu_up ix27 (by omega) (by omega))⟩
            · exact ⟨(ti_bd tn_0 (by omega) (by omega)), ty16, fy16⟩
            · exact mu_0 tn_0 (by omega)
            · intro y19 hyy19
              obtain ⟨ly19_1, ty19_2, fy19_2⟩ := hyy19
              have iy19_1 : TI y19.1 y19.1.toInt := rfl
              exact ok_some ⟨ty19_2, fy19_2⟩
theorem s_predictColours_ {G : GG} {M : DD} {p : Nat} {w : Int} {L : List Nat} (t : TT G M p w L) {p0 : Option Nat} (e0 : p0 = some 125) {p1 : Int32} {a1 : Int} (i1 : TI p1 a1) {p2 : Int32} {p3 : Int32} {a3 : Int} (i3 : TI p3 a3) (h0 : 0 ≤ a1) (h1 : a1 < 2 * w) (h2 : 0 ≤ a3) (h3 : a3 ≤ 15) (h4 : a3 % 2 = 1 → 1 ≤ a1 % w) (h5 : a3 / 2 % 2 = 1 → w ≤ a1) (h6 : a3 / 4 % 2 = 1 → 1 ≤ a1 % w ∧ w ≤ a1) (h7 : a3 / 8 % 2 = 1 → w ≤ a1) : OK (FX6_predictColours_ G M 138 p0 p1 p2 p3) (fun y => TT G y p w L ∧ Fr p [1] M y) := by
  unfold FX6_predictColours_
  subst e0
  have hw12 : 1 ≤ w ∧ w ≤ 2 := by rcases tt_w t with h | h <;> omega
  rcases tt_w t with rfl | rfl
  · refine ok_bnd (Q := fun (z : Int32 × DD) => (1 ≤ z.1.toInt ∧ z.1.toInt ≤ 3) ∧ TT G z.2 p 1 L ∧ Fr p [1] M z.2) (ok_itr (fun (z : Int32 × DD) => (1 ≤ z.1.toInt ∧ z.1.toInt ≤ 3) ∧ TT G z.2 p 1 L ∧ Fr p [1] M z.2) (fun z => (3 - z.1.toInt).toNat) ?_ _ _ ?_ ?_) ?_
    · intro s2 hys2
      obtain ⟨ls2_1, ts2_2, fs2_2⟩ := hys2
      have is2_1 : TI s2.1 s2.1.toInt := rfl
      refine ok_if (fun c1 => ?_) (fun c1 => ?_)
      · have dc1 := tl_le tn_3 is2_1 c1
        exact ok_some ⟨(ti_bd is2_1 (by omega) (by omega)), ts2_2, fs2_2⟩
      · have dc1 := tl_nle tn_3 is2_1 c1
        refine ok_ltI (av_mul tn_64 is2_1 (by omega) (by omega)) (fun x6 ix6 => ?_)
        refine ok_ltI (av_add tn_192 ix6 (by omega) (by omega)) (fun x7 ix7 => ?_)
        refine ok_dr rfl (g_lt ts2_2 (by decide)) (g_k ts2_2 (by decide) rfl) ?_
        refine ok_dr (tt_pic ts2_2) (by have q := (tt_q0b ts2_2 (tt_p ts2_2)); omega) (gk_0 ts2_2 (tt_p ts2_2)) ?_
        refine ok_dr (pr_4 ts2_2 (tt_p ts2_2)) (by have q := (tt_q0b ts2_2 (tt_p ts2_2)); omega) (gk_2 ts2_2 (tt_p ts2_2)) ?_
        refine ok_chk (nxg (gl_2 ts2_2 (tt_p ts2_2)) is2_1 (by omega) (by omega)) ?_
        refine ok_bnd (s_colourAt ts2_2 (tt_pic ts2_2) (tt_p ts2_2) i1 tn_0 tn_0 (by omega) (by omega) (by omega) (by omega) (by omega) (by omega)) ?_
        intro y11 hyy11
        obtain ⟨ty11, gy11, iy11⟩ := hyy11
        have fy11 := fr_tr fs2_2 gy11 rfl
        refine ok_dr (tt_pic ty11) (by have q := (tt_q0b ty11 (tt_p ty11)); omega) (gk_0 ty11 (tt_p ty11)) ?_
        refine ok_ltI (tw_q ty11 (tt_p ty11)) (fun x13 ix13 => ?_)
        refine ok_ltI (av_mul tn_8 ix13 (by omega) (by omega)) (fun x14 ix14 => ?_)
        obtain ⟨j2, hj2, nj2, ej2⟩ := pp_v ts2_2 (tt_p ts2_2) is2_1 (by omega) (by omega)
        refine ok_bnd (s_takeSides ty11 ej2 (pl_3 hj2) nj2 iy11 ix14 tn_8 i3 (by omega) (by omega) (by omega) (by omega) (by omega) (by omega) (by omega) (by omega)) ?_
        intro y15 hyy15
        obtain ⟨ty15, gy15⟩ := hyy15
        have fy15 := fr_tr fy11 gy15 rfl
        refine ok_bnd (Q := fun (z : DD) => TT G z p 1 L ∧ Fr p [1] M z) ?_ ?_
        · refine ok_if (fun c3 => ?_) (fun c3 => ?_)
          · have dc3 := tl_eq (rfl : TI p2 p2.toInt) tn_3 c3
            refine ok_bnd (s_fillPlane ty15 ix7 tn_8 (by omega) (by omega)) ?_
            intro y67 hyy67
            obtain ⟨ty67, gy67⟩ := hyy67
            have fy67 := fr_tr fy15 gy67 rfl
            exact ok_some ⟨ty67, fy67⟩
          · refine ok_bnd (Q := fun (z : Int32 × DD) => (0 ≤ z.1.toInt ∧ z.1.toInt ≤ 64) ∧ TT G z.2 p 1 L ∧ Fr p [1] M z.2) (ok_itr (fun (z : Int32 × DD) => (0 ≤ z.1.toInt ∧ z.1.toInt ≤ 64) ∧ TT G z.2 p 1 L ∧ Fr p [1] M z.2) (fun z => (64 - z.1.toInt).toNat) ?_ _ _ ?_ ?_) ?_
            · intro s20 hys20
              obtain ⟨ls20_1, ts20_2, fs20_2⟩ := hys20
              have is20_1 : TI s20.1 s20.1.toInt := rfl
              refine ok_if (fun c4 => ?_) (fun c4 => ?_)
              · have dc4 := tl_le tn_64 is20_1 c4
                exact ok_some ⟨(ti_bd is20_1 (by omega) (by omega)), ts20_2, fs20_2⟩
              · have dc4 := tl_nle tn_64 is20_1 c4
                refine ok_ltI (av_mod is20_1 tn_8 (by omega) (by omega)) (fun x51 ix51 => ?_)
                refine ok_ltI (av_div is20_1 tn_8 (by omega) (by omega)) (fun x52 ix52 => ?_)
                refine ok_ltI (av_add ix7 is20_1 (by omega) (by omega)) (fun x53 ix53 => ?_)
                refine ok_bnd (Q := fun (z : Int32) => True) ?_ ?_
                · refine ok_if (fun c5 => ?_) (fun c5 => ?_)
                  · have dc5 := tl_eq (rfl : TI p2 p2.toInt) tn_1 c5
                    refine ok_ltI (av_add tn_10 ix52 (by omega) (by omega)) (fun x64 ix64 => ?_)
                    refine ok_dr (f_r (b := 147) ts20_2 rfl (by decide)) (g_lt ts20_2 (by decide)) (g_k ts20_2 (by decide) rfl) ?_
                    refine ok_chk (nxg (g_n (i := 147) (n := 34) ts20_2 (by decide) rfl) ix64 (by omega) (by omega)) ?_
                    refine ok_ltA (fun x66 => ?_)
                    exact ok_some trivial
                  · refine ok_bnd (Q := fun (z : Int32) => True) ?_ ?_
                    · refine ok_if (fun c6 => ?_) (fun c6 => ?_)
                      · have dc6 := tl_eq (rfl : TI p2 p2.toInt) tn_2 c6
                        refine ok_ltI (av_add tn_1 ix51 (by omega) (by omega)) (fun x61 ix61 => ?_)
                        refine ok_dr (f_r (b := 147) ts20_2 rfl (by decide)) (g_lt ts20_2 (by decide)) (g_k ts20_2 (by decide) rfl) ?_
                        refine ok_chk (nxg (g_n (i := 147) (n := 34) ts20_2 (by decide) rfl) ix61 (by omega) (by omega)) ?_
                        refine ok_ltA (fun x63 => ?_)
                        exact ok_some trivial
                      · exact ok_some trivial
                    · intro y59 hyy59
                      have u_y59 := hyy59
                      exact ok_some trivial
                · intro y54 hyy54
                  have u_y54 := hyy54
                  refine ok_dr (f_r (b := 139) ts20_2 rfl (by decide)) (g_lt ts20_2 (by decide)) (g_k ts20_2 (by decide) rfl) ?_
                  refine ok_chk (nxg (g_n (i := 139) (n := 384) ts20_2 (by decide) rfl) ix53 (by omega) (by omega)) ?_
                  refine ok_ltt (fun M56 eM56 => ?_)
                  have tM56 : TT G M56 p 1 L := by rw [eM56]; exact (tt_w0 ts20_2 rfl)
                  have fM56 : Fr p [1] M M56 := by rw [eM56]; exact (fr_w fs20_2 rfl)
                  clear eM56
                  refine ok_ltI (av_add is20_1 tn_1 (by omega) (by omega)) (fun x57 ix57 => ?_)
                  exact ok_some ⟨⟨(ti_bd ix57 (by omega) (by omega)), tM56, fM56⟩, (mu_up ix57 (by omega) (by omega))⟩
            · exact ⟨(ti_bd tn_0 (by omega) (by omega)), ty15, fy15⟩
            · exact mu_0 tn_0 (by omega)
            · intro y19 hyy19
              obtain ⟨ly19_1, ty19_2, fy19_2⟩ := hyy19
              have iy19_1 : TI y19.1 y19.1.toInt := rfl
              refine ok_bnd (Q := fun (z : Int32 × DD) => (0 ≤ z.1.toInt ∧ z.1.toInt ≤ 4) ∧ TT G z.2 p 1 L ∧ Fr p [1] M z.2) (ok_itr (fun (z : Int32 × DD) => (0 ≤ z.1.toInt ∧ z.1.toInt ≤ 4) ∧ TT G z.2 p 1 L ∧ Fr p [1] M z.2) (fun z => (4 - z.1.toInt).toNat) ?_ _ _ ?_ ?_) ?_
              · intro s23 hys23
                obtain ⟨ls23_1, ts23_2, fs23_2⟩ := hys23
                have is23_1 : TI s23.1 s23.1.toInt := rfl
                refine ok_if (fun c7 => ?_) (fun c7 => ?_)
                · have dc7 := tl_le tn_4 is23_1 c7
                  exact ok_some ⟨(ti_bd is23_1 (by omega) (by omega)), ts23_2, fs23_2⟩
                · have dc7 := tl_nle tn_4 is23_1 c7
                  refine ok_if (fun c8 => ?_) (fun c8 => ?_)
                  · have dc8 := tl_eq (rfl : TI p2 p2.toInt) tn_0 c8
                    refine ok_bnd (s_colourMean ts23_2 is23_1 i3 (by omega) (by omega)) ?_
                    intro y28 hyy28
                    obtain ⟨ty28, gy28, _⟩ := hyy28
                    have fy28 := fr_tr fs23_2 gy28 rfl
                    refine ok_bnd (Q := fun (z : Int32 × DD) => (0 ≤ z.1.toInt ∧ z.1.toInt ≤ 16) ∧ TT G z.2 p 1 L ∧ Fr p [1] M z.2) (ok_itr (fun (z : Int32 × DD) => (0 ≤ z.1.toInt ∧ z.1.toInt ≤ 16) ∧ TT G z.2 p 1 L ∧ Fr p [1] M z.2) (fun z => (16 - z.1.toInt).toNat) ?_ _ _ ?_ ?_) ?_
                    · intro s30 hys30
                      obtain ⟨ls30_1, ts30_2, fs30_2⟩ := hys30
                      have is30_1 : TI s30.1 s30.1.toInt := rfl
                      refine ok_if (fun c9 => ?_) (fun c9 => ?_)
                      · have dc9 := tl_le tn_16 is30_1 c9
                        exact ok_some ⟨(ti_bd is30_1 (by omega) (by omega)), ts30_2, fs30_2⟩
                      · have dc9 := tl_nle tn_16 is30_1 c9
                        refine ok_ltI (av_div is23_1 tn_2 (by omega) (by omega)) (fun x35 ix35 => ?_)
                        refine ok_ltI (av_mul ix35 tn_4 (by omega) (by omega)) (fun x36 ix36 => ?_)
                        refine ok_ltI (av_div is30_1 tn_4 (by omega) (by omega)) (fun x37 ix37 => ?_)
                        refine ok_ltI (av_add ix36 ix37 (by omega) (by omega)) (fun x38 ix38 => ?_)
                        refine ok_ltI (av_mul ix38 tn_8 (by omega) (by omega)) (fun x39 ix39 => ?_)
                        refine ok_ltI (av_add ix7 ix39 (by omega) (by omega)) (fun x40 ix40 => ?_)
                        refine ok_ltI (av_mod is23_1 tn_2 (by omega) (by omega)) (fun x41 ix41 => ?_)
                        refine ok_ltI (av_mul ix41 tn_4 (by omega) (by omega)) (fun x42 ix42 => ?_)
                        refine ok_ltI (av_add ix40 ix42 (by omega) (by omega)) (fun x43 ix43 => ?_)
                        refine ok_ltI (av_mod is30_1 tn_4 (by omega) (by omega)) (fun x44 ix44 => ?_)
                        refine ok_ltI (av_add ix43 ix44 (by omega) (by omega)) (fun x45 ix45 => ?_)
                        refine ok_dr (f_r (b := 139) ts30_2 rfl (by decide)) (g_lt ts30_2 (by decide)) (g_k ts30_2 (by decide) rfl) ?_
                        refine ok_chk (nxg (g_n (i := 139) (n := 384) ts30_2 (by decide) rfl) ix45 (by omega) (by omega)) ?_
                        refine ok_ltt (fun M47 eM47 => ?_)
                        have tM47 : TT G M47 p 1 L := by rw [eM47]; exact (tt_w0 ts30_2 rfl)
                        have fM47 : Fr p [1] M M47 := by rw [eM47]; exact (fr_w fs30_2 rfl)
                        clear eM47
                        refine ok_ltI (av_add is30_1 tn_1 (by omega) (by omega)) (fun x48 ix48 => ?_)
                        exact ok_some ⟨⟨(ti_bd ix48 (by omega) (by omega)), tM47, fM47⟩, (mu_up ix48 (by omega) (by omega))⟩
                    · exact ⟨(ti_bd tn_0 (by omega) (by omega)), ty28, fy28⟩
                    · exact mu_0 tn_0 (by omega)
                    · intro y29 hyy29
                      obtain ⟨ly29_1, ty29_2, fy29_2⟩ := hyy29
                      have iy29_1 : TI y29.1 y29.1.toInt := rfl
                      refine ok_ltI (av_add is23_1 tn_1 (by omega) (by omega)) (fun x32 ix32 => ?_)
                      exact ok_some ⟨⟨(ti_bd ix32 (by omega) (by omega)), ty29_2, fy29_2⟩, (mu_up ix32 (by omega) (by omega))⟩
                  · exact ok_some ⟨(ti_bd is23_1 (by omega) (by omega)), ts23_2, fs23_2⟩
              · exact ⟨(ti_bd tn_0 (by omega) (by omega)), ty19_2, fy19_2⟩
              · exact mu_0 tn_0 (by omega)
              · intro y22 hyy22
                obtain ⟨ly22_1, ty22_2, fy22_2⟩ := hyy22
                have iy22_1 : TI y22.1 y22.1.toInt := rfl
                exact ok_some ⟨ty22_2, fy22_2⟩
        · intro y16 hyy16
          obtain ⟨ty16, fy16⟩ := hyy16
          refine ok_ltI (av_add is2_1 tn_1 (by omega) (by omega)) (fun x17 ix17 => ?_)
          exact ok_some ⟨⟨(ti_bd ix17 (by omega) (by omega)), ty16, fy16⟩, (mu_up ix17 (by omega) (by omega))⟩
    · exact ⟨(ti_bd tn_1 (by omega) (by omega)), t, (fr_0 p [1] M)⟩
    · exact mu_0 tn_1 (by omega)
    · intro y1 hyy1
      obtain ⟨ly1_1, ty1_2, fy1_2⟩ := hyy1
      have iy1_1 : TI y1.1 y1.1.toInt := rfl
      exact ok_some ⟨ty1_2, fy1_2⟩
  · refine ok_bnd (Q := fun (z : Int32 × DD) => (1 ≤ z.1.toInt ∧ z.1.toInt ≤ 3) ∧ TT G z.2 p 2 L ∧ Fr p [1] M z.2) (ok_itr (fun (z : Int32 × DD) => (1 ≤ z.1.toInt ∧ z.1.toInt ≤ 3) ∧ TT G z.2 p 2 L ∧ Fr p [1] M z.2) (fun z => (3 - z.1.toInt).toNat) ?_ _ _ ?_ ?_) ?_
    · intro s2 hys2
      obtain ⟨ls2_1, ts2_2, fs2_2⟩ := hys2
      have is2_1 : TI s2.1 s2.1.toInt := rfl
      refine ok_if (fun c1 => ?_) (fun c1 => ?_)
      · have dc1 := tl_le tn_3 is2_1 c1
        exact ok_some ⟨(ti_bd is2_1 (by omega) (by omega)), ts2_2, fs2_2⟩
      · have dc1 := tl_nle tn_3 is2_1 c1
        refine ok_ltI (av_mul tn_64 is2_1 (by omega) (by omega)) (fun x6 ix6 => ?_)
        refine ok_ltI (av_add tn_192 ix6 (by omega) (by omega)) (fun x7 ix7 => ?_)
        refine ok_dr rfl (g_lt ts2_2 (by decide)) (g_k ts2_2 (by decide) rfl) ?_
        refine ok_dr (tt_pic ts2_2) (by have q := (tt_q0b ts2_2 (tt_p ts2_2)); omega) (gk_0 ts2_2 (tt_p ts2_2)) ?_
        refine ok_dr (pr_4 ts2_2 (tt_p ts2_2)) (by have q := (tt_q0b ts2_2 (tt_p ts2_2)); omega) (gk_2 ts2_2 (tt_p ts2_2)) ?_
        refine ok_chk (nxg (gl_2 ts2_2 (tt_p ts2_2)) is2_1 (by omega) (by omega)) ?_
        refine ok_bnd (s_colourAt ts2_2 (tt_pic ts2_2) (tt_p ts2_2) i1 tn_0 tn_0 (by omega) (by omega) (by omega) (by omega) (by omega) (by omega)) ?_
        intro y11 hyy11
        obtain ⟨ty11, gy11, iy11⟩ := hyy11
        have fy11 := fr_tr fs2_2 gy11 rfl
        refine ok_dr (tt_pic ty11) (by have q := (tt_q0b ty11 (tt_p ty11)); omega) (gk_0 ty11 (tt_p ty11)) ?_
        refine ok_ltI (tw_q ty11 (tt_p ty11)) (fun x13 ix13 => ?_)
        refine ok_ltI (av_mul tn_8 ix13 (by omega) (by omega)) (fun x14 ix14 => ?_)
        obtain ⟨j2, hj2, nj2, ej2⟩ := pp_v ts2_2 (tt_p ts2_2) is2_1 (by omega) (by omega)
        refine ok_bnd (s_takeSides ty11 ej2 (pl_3 hj2) nj2 iy11 ix14 tn_8 i3 (by omega) (by omega) (by omega) (by omega) (by omega) (by omega) (by omega) (by omega)) ?_
        intro y15 hyy15
        obtain ⟨ty15, gy15⟩ := hyy15
        have fy15 := fr_tr fy11 gy15 rfl
        refine ok_bnd (Q := fun (z : DD) => TT G z p 2 L ∧ Fr p [1] M z) ?_ ?_
        · refine ok_if (fun c3 => ?_) (fun c3 => ?_)
          · have dc3 := tl_eq (rfl : TI p2 p2.toInt) tn_3 c3
            refine ok_bnd (s_fillPlane ty15 ix7 tn_8 (by omega) (by omega)) ?_
            intro y67 hyy67
            obtain ⟨ty67, gy67⟩ := hyy67
            have fy67 := fr_tr fy15 gy67 rfl
            exact ok_some ⟨ty67, fy67⟩
          · refine ok_bnd (Q := fun (z : Int32 × DD) => (0 ≤ z.1.toInt ∧ z.1.toInt ≤ 64) ∧ TT G z.2 p 2 L ∧ Fr p [1] M z.2) (ok_itr (fun (z : Int32 × DD) => (0 ≤ z.1.toInt ∧ z.1.toInt ≤ 64) ∧ TT G z.2 p 2 L ∧ Fr p [1] M z.2) (fun z => (64 - z.1.toInt).toNat) ?_ _ _ ?_ ?_) ?_
            · intro s20 hys20
              obtain ⟨ls20_1, ts20_2, fs20_2⟩ := hys20
              have is20_1 : TI s20.1 s20.1.toInt := rfl
              refine ok_if (fun c4 => ?_) (fun c4 => ?_)
              · have dc4 := tl_le tn_64 is20_1 c4
                exact ok_some ⟨(ti_bd is20_1 (by omega) (by omega)), ts20_2, fs20_2⟩
              · have dc4 := tl_nle tn_64 is20_1 c4
                refine ok_ltI (av_mod is20_1 tn_8 (by omega) (by omega)) (fun x51 ix51 => ?_)
                refine ok_ltI (av_div is20_1 tn_8 (by omega) (by omega)) (fun x52 ix52 => ?_)
                refine ok_ltI (av_add ix7 is20_1 (by omega) (by omega)) (fun x53 ix53 => ?_)
                refine ok_bnd (Q := fun (z : Int32) => True) ?_ ?_
                · refine ok_if (fun c5 => ?_) (fun c5 => ?_)
                  · have dc5 := tl_eq (rfl : TI p2 p2.toInt) tn_1 c5
                    refine ok_ltI (av_add tn_10 ix52 (by omega) (by omega)) (fun x64 ix64 => ?_)
                    refine ok_dr (f_r (b := 147) ts20_2 rfl (by decide)) (g_lt ts20_2 (by decide)) (g_k ts20_2 (by decide) rfl) ?_
                    refine ok_chk (nxg (g_n (i := 147) (n := 34) ts20_2 (by decide) rfl) ix64 (by omega) (by omega)) ?_
                    refine ok_ltA (fun x66 => ?_)
                    exact ok_some trivial
                  · refine ok_bnd (Q := fun (z : Int32) => True) ?_ ?_
                    · refine ok_if (fun c6 => ?_) (fun c6 => ?_)
                      · have dc6 := tl_eq (rfl : TI p2 p2.toInt) tn_2 c6
                        refine ok_ltI (av_add tn_1 ix51 (by omega) (by omega)) (fun x61 ix61 => ?_)
                        refine ok_dr (f_r (b := 147) ts20_2 rfl (by decide)) (g_lt ts20_2 (by decide)) (g_k ts20_2 (by decide) rfl) ?_
                        refine ok_chk (nxg (g_n (i := 147) (n := 34) ts20_2 (by decide) rfl) ix61 (by omega) (by omega)) ?_
                        refine ok_ltA (fun x63 => ?_)
                        exact ok_some trivial
                      · exact ok_some trivial
                    · intro y59 hyy59
                      have u_y59 := hyy59
                      exact ok_some trivial
                · intro y54 hyy54
                  have u_y54 := hyy54
                  refine ok_dr (f_r (b := 139) ts20_2 rfl (by decide)) (g_lt ts20_2 (by decide)) (g_k ts20_2 (by decide) rfl) ?_
                  refine ok_chk (nxg (g_n (i := 139) (n := 384) ts20_2 (by decide) rfl) ix53 (by omega) (by omega)) ?_
                  refine ok_ltt (fun M56 eM56 => ?_)
                  have tM56 : TT G M56 p 2 L := by rw [eM56]; exact (tt_w0 ts20_2 rfl)
                  have fM56 : Fr p [1] M M56 := by rw [eM56]; exact (fr_w fs20_2 rfl)
                  clear eM56
                  refine ok_ltI (av_add is20_1 tn_1 (by omega) (by omega)) (fun x57 ix57 => ?_)
                  exact ok_some ⟨⟨(ti_bd ix57 (by omega) (by omega)), tM56, fM56⟩, (mu_up ix57 (by omega) (by omega))⟩
            · exact ⟨(ti_bd tn_0 (by omega) (by omega)), ty15, fy15⟩
            · exact mu_0 tn_0 (by omega)
            · intro y19 hyy19
              obtain ⟨ly19_1, ty19_2, fy19_2⟩ := hyy19
              have iy19_1 : TI y19.1 y19.1.toInt := rfl
              refine ok_bnd (Q := fun (z : Int32 × DD) => (0 ≤ z.1.toInt ∧ z.1.toInt ≤ 4) ∧ TT G z.2 p 2 L ∧ Fr p [1] M z.2) (ok_itr (fun (z : Int32 × DD) => (0 ≤ z.1.toInt ∧ z.1.toInt ≤ 4) ∧ TT G z.2 p 2 L ∧ Fr p [1] M z.2) (fun z => (4 - z.1.toInt).toNat) ?_ _ _ ?_ ?_) ?_
              · intro s23 hys23
                obtain ⟨ls23_1, ts23_2, fs23_2⟩ := hys23
                have is23_1 : TI s23.1 s23.1.toInt := rfl
                refine ok_if (fun c7 => ?_) (fun c7 => ?_)
                · have dc7 := tl_le tn_4 is23_1 c7
                  exact ok_some ⟨(ti_bd is23_1 (by omega) (by omega)), ts23_2, fs23_2⟩
                · have dc7 := tl_nle tn_4 is23_1 c7
                  refine ok_if (fun c8 => ?_) (fun c8 => ?_)
                  · have dc8 := tl_eq (rfl : TI p2 p2.toInt) tn_0 c8
                    refine ok_bnd (s_colourMean ts23_2 is23_1 i3 (by omega) (by omega)) ?_
                    intro y28 hyy28
                    obtain ⟨ty28, gy28, _⟩ := hyy28
                    have fy28 := fr_tr fs23_2 gy28 rfl
                    refine ok_bnd (Q := fun (z : Int32 × DD) => (0 ≤ z.1.toInt ∧ z.1.toInt ≤ 16) ∧ TT G z.2 p 2 L ∧ Fr p [1] M z.2) (ok_itr (fun (z : Int32 × DD) => (0 ≤ z.1.toInt ∧ z.1.toInt ≤ 16) ∧ TT G z.2 p 2 L ∧ Fr p [1] M z.2) (fun z => (16 - z.1.toInt).toNat) ?_ _ _ ?_ ?_) ?_
                    · intro s30 hys30
                      obtain ⟨ls30_1, ts30_2, fs30_2⟩ := hys30
                      have is30_1 : TI s30.1 s30.1.toInt := rfl
                      refine ok_if (fun c9 => ?_) (fun c9 => ?_)
                      · have dc9 := tl_le tn_16 is30_1 c9
                        exact ok_some ⟨(ti_bd is30_1 (by omega) (by omega)), ts30_2, fs30_2⟩
                      · have dc9 := tl_nle tn_16 is30_1 c9
                        refine ok_ltI (av_div is23_1 tn_2 (by omega) (by omega)) (fun x35 ix35 => ?_)
                        refine ok_ltI (av_mul ix35 tn_4 (by omega) (by omega)) (fun x36 ix36 => ?_)
                        refine ok_ltI (av_div is30_1 tn_4 (by omega) (by omega)) (fun x37 ix37 => ?_)
                        refine ok_ltI (av_add ix36 ix37 (by omega) (by omega)) (fun x38 ix38 => ?_)
                        refine ok_ltI (av_mul ix38 tn_8 (by omega) (by omega)) (fun x39 ix39 => ?_)
                        refine ok_ltI (av_add ix7 ix39 (by omega) (by omega)) (fun x40 ix40 => ?_)
                        refine ok_ltI (av_mod is23_1 tn_2 (by omega) (by omega)) (fun x41 ix41 => ?_)
                        refine ok_ltI (av_mul ix41 tn_4 (by omega) (by omega)) (fun x42 ix42 => ?_)
                        refine ok_ltI (av_add ix40 ix42 (by omega) (by omega)) (fun x43 ix43 => ?_)
                        refine ok_ltI (av_mod is30_1 tn_4 (by omega) (by omega)) (fun x44 ix44 => ?_)
                        refine ok_ltI (av_add ix43 ix44 (by omega) (by omega)) (fun x45 ix45 => ?_)
                        refine ok_dr (f_r (b := 139) ts30_2 rfl (by decide)) (g_lt ts30_2 (by decide)) (g_k ts30_2 (by decide) rfl) ?_
                        refine ok_chk (nxg (g_n (i := 139) (n := 384) ts30_2 (by decide) rfl) ix45 (by omega) (by omega)) ?_
                        refine ok_ltt (fun M47 eM47 => ?_)
                        have tM47 : TT G M47 p 2 L := by rw [eM47]; exact (tt_w0 ts30_2 rfl)
                        have fM47 : Fr p [1] M M47 := by rw [eM47]; exact (fr_w fs30_2 rfl)
                        clear eM47
                        refine ok_ltI (av_add is30_1 tn_1 (by omega) (by omega)) (fun x48 ix48 => ?_)
                        exact ok_some ⟨⟨(ti_bd ix48 (by omega) (by omega)), tM47, fM47⟩, (mu_up ix48 (by omega) (by omega))⟩
                    · exact ⟨(ti_bd tn_0 (by omega) (by omega)), ty28, fy28⟩
                    · exact mu_0 tn_0 (by omega)
                    · intro y29 hyy29
                      obtain ⟨ly29_1, ty29_2, fy29_2⟩ := hyy29
                      have iy29_1 : TI y29.1 y29.1.toInt := rfl
                      refine ok_ltI (av_add is23_1 tn_1 (by omega) (by omega)) (fun x32 ix32 => ?_)
                      exact ok_some ⟨⟨(ti_bd ix32 (by omega) (by omega)), ty29_2, fy29_2⟩, (mu_up ix32 (by omega) (by omega))⟩
                  · exact ok_some ⟨(ti_bd is23_1 (by omega) (by omega)), ts23_2, fs23_2⟩
              · exact ⟨(ti_bd tn_0 (by omega) (by omega)), ty19_2, fy19_2⟩
              · exact mu_0 tn_0 (by omega)
              · intro y22 hyy22
                obtain ⟨ly22_1, ty22_2, fy22_2⟩ := hyy22
                have iy22_1 : TI y22.1 y22.1.toInt := rfl
                exact ok_some ⟨ty22_2, fy22_2⟩
        · intro y16 hyy16
          obtain ⟨ty16, fy16⟩ := hyy16
          refine ok_ltI (av_add is2_1 tn_1 (by omega) (by omega)) (fun x17 ix17 => ?_)
          exact ok_some ⟨⟨(ti_bd ix17 (by omega) (by omega)), ty16, fy16⟩, (mu_up ix17 (by omega) (by omega))⟩
    · exact ⟨(ti_bd tn_1 (by omega) (by omega)), t, (fr_0 p [1] M)⟩
    · exact mu_0 tn_1 (by omega)
    · intro y1 hyy1
      obtain ⟨ly1_1, ty1_2, fy1_2⟩ := hyy1
      have iy1_1 : TI y1.1 y1.1.toInt := rfl
      exact ok_some ⟨ty1_2, fy1_2⟩
theorem s_differences {G : GG} {M : DD} {p : Nat} {w : Int} {L : List Nat} (t : TT G M p w L) {p0 : Option Nat} (e0 : p0 = some 125) {p1 : Option Nat} {c1 : Nat} (e1 : p1 = some c1) (hc1 : 222 ≤ c1 ∧ c1 < 234) {n1 : Int} (hn1 : (G.2.2 c1 : Int) = n1) {p2 : Int32} {a2 : Int} (i2 : TI p2 a2) {p3 : Int32} {a3 : Int} (i3 : TI p3 a3) {p4 : Int32} {a4 : Int} (i4 : TI p4 a4) (h0 : 0 ≤ a2) (h1 : a2 < 2 * w) (h2 : 0 ≤ a3) (h3 : a3 ≤ 15) (h4 : 0 ≤ a4) (h5 : a4 = 4 ∨ a4 = 16 ∧ a3 = 0) (h6 : n1 = 512 * w) : OK (FX6_differences G M 138 p0 p1 p2 p3 p4) (fun y => TT G y.1 p w L ∧ Fr p [] M y.1 ∧ True) := by
  unfold FX6_differences
  subst e0 e1
  have hw12 : 1 ≤ w ∧ w ≤ 2 := by rcases tt_w t with h | h <;> omega
  rcases tt_w t with rfl | rfl
  · rcases h5 with rfl | ⟨rfl, rfl⟩
    · refine ok_bnd (s_pieceX t i3 (by omega) (by omega)) ?_
      intro y1 hyy1
      obtain ⟨ty1, gy1, iy1⟩ := hyy1
      have fy1 := fr_tr (fr_0 p [] M) gy1 rfl
      refine ok_bnd (s_pieceY ty1 i3 (by omega) (by omega)) ?_
      intro y2 hyy2
      obtain ⟨ty2, gy2, iy2⟩ := hyy2
      have fy2 := fr_tr fy1 gy2 rfl
      have kp4 : p4.toInt = _ := i4
      refine ok_bnd (Q := fun (z : Int32 × Int32 × DD) => True ∧ (0 ≤ z.2.1.toInt ∧ z.2.1.toInt ≤ p4.toInt) ∧ TT G z.2.2 p 1 L ∧ Fr p [] M z.2.2) (ok_itr (fun (z : Int32 × Int32 × DD) => True ∧ (0 ≤ z.2.1.toInt ∧ z.2.1.toInt ≤ p4.toInt) ∧ TT G z.2.2 p 1 L ∧ Fr p [] M z.2.2) (fun z => (p4.toInt - z.2.1.toInt).toNat) ?_ _ _ ?_ ?_) ?_
      · intro s4 hys4
        obtain ⟨_, ls4_2_1, ts4_2_2, fs4_2_2⟩ := hys4
        have is4_2_1 : TI s4.2.1 s4.2.1.toInt := rfl
        refine ok_if (fun c1 => ?_) (fun c1 => ?_)
        · have dc1 := tl_le i4 is4_2_1 c1
          exact ok_some ⟨trivial, (ti_bd is4_2_1 (by omega) (by omega)), ts4_2_2, fs4_2_2⟩
        · have dc1 := tl_nle i4 is4_2_1 c1
          refine ok_dr rfl (g_lt ts4_2_2 (by decide)) (g_k ts4_2_2 (by decide) rfl) ?_
          refine ok_ltI (av_add iy2 is4_2_1 (by omega) (by omega)) (fun x9 ix9 => ?_)
          refine ok_bnd (s_lumaAt ts4_2_2 (tt_pic ts4_2_2) (tt_p ts4_2_2) i2 iy1 ix9 (by omega) (by omega) (by omega) (by omega) (by omega) (by omega)) ?_
          intro y10 hyy10
          obtain ⟨ty10, gy10, iy10⟩ := hyy10
          have fy10 := fr_tr fs4_2_2 gy10 rfl
          have kp4 : p4.toInt = _ := i4
          refine ok_bnd (Q := fun (z : Int32 × Int32) => True ∧ (0 ≤ z.2.toInt ∧ z.2.toInt ≤ p4.toInt)) (ok_itr (fun (z : Int32 × Int32) => True ∧ (0 ≤ z.2.toInt ∧ z.2.toInt ≤ p4.toInt)) (fun z => (p4.toInt - z.2.toInt).toNat) ?_ _ _ ?_ ?_) ?_
          · intro s12 hys12
            obtain ⟨_, ls12_2⟩ := hys12
            have is12_2 : TI s12.2 s12.2.toInt := rfl
            refine ok_if (fun c2 => ?_) (fun c2 => ?_)
            · have dc2 := tl_le i4 is12_2 c2
              exact ok_some ⟨trivial, (ti_bd is12_2 (by omega) (by omega))⟩
            · have dc2 := tl_nle i4 is12_2 c2
              refine ok_ltI (av_add iy10 is12_2 (by omega) (by omega)) (fun x17 ix17 => ?_)
              refine ok_dr rfl (g_lt ty10 hc1.2) (gk_src ty10 hc1) ?_
              refine ok_chk (nxi hn1 ix17 (by omega) (by omega)) ?_
              refine ok_ltA (fun x19 => ?_)
              refine ok_ltI (av_add iy2 is4_2_1 (by omega) (by omega)) (fun x20 ix20 => ?_)
              refine ok_ltI (av_mul tn_16 ix20 (by omega) (by omega)) (fun x21 ix21 => ?_)
              refine ok_ltI (av_add ix21 iy1 (by omega) (by omega)) (fun x22 ix22 => ?_)
              refine ok_ltI (av_add ix22 is12_2 (by omega) (by omega)) (fun x23 ix23 => ?_)
              refine ok_dr (f_r (b := 139) ty10 rfl (by decide)) (g_lt ty10 (by decide)) (g_k ty10 (by decide) rfl) ?_
              refine ok_chk (nxg (g_n (i := 139) (n := 384) ty10 (by decide) rfl) ix23 (by omega) (by omega)) ?_
              refine ok_ltA (fun x25 => ?_)
              refine ok_ltA (fun x26 => ?_)
              refine ok_bnd (Q := fun (z : Int32) => True) ?_ ?_
              · refine ok_if (fun c3 => ?_) (fun c3 => ?_)
                · have dc3 := tl_le tn_0 (rfl : TI x26 x26.toInt) c3
                  exact ok_some trivial
                · have dc3 := tl_nle tn_0 (rfl : TI x26 x26.toInt) c3
                  refine ok_ltA (fun x31 => ?_)
                  exact ok_some trivial
              · intro y27 hyy27
                have u_y27 := hyy27
                refine ok_ltA (fun x28 => ?_)
                refine ok_ltI (av_add is12_2 tn_1 (by omega) (by omega)) (fun x29 ix29 => ?_)
                exact ok_some ⟨⟨trivial, (ti_bd ix29 (by omega) (by omega))⟩, (mu_up ix29 (by omega) (by omega))⟩
          · exact ⟨trivial, (ti_bd tn_0 (by omega) (by omega))⟩
          · exact mu_0 tn_0 (by omega)
          · intro y11 hyy11
            obtain ⟨_, ly11_2⟩ := hyy11
            have iy11_2 : TI y11.2 y11.2.toInt := rfl
            refine ok_ltI (av_add is4_2_1 tn_1 (by omega) (by omega)) (fun x14 ix14 => ?_)
            exact ok_some ⟨⟨trivial, (ti_bd ix14 (by omega) (by omega)), ty10, fy10⟩, (mu_up ix14 (by omega) (by omega))⟩
      · exact ⟨trivial, (ti_bd tn_0 (by omega) (by omega)), ty2, fy2⟩
      · exact mu_0 tn_0 (by omega)
      · intro y3 hyy3
        obtain ⟨_, ly3_2_1, ty3_2_2, fy3_2_2⟩ := hyy3
        have iy3_2_1 : TI y3.2.1 y3.2.1.toInt := rfl
        exact ok_some ⟨ty3_2_2, fy3_2_2, trivial⟩
    · refine ok_bnd (s_pieceX t i3 (by omega) (by omega)) ?_
      intro y1 hyy1
      obtain ⟨ty1, gy1, iy1⟩ := hyy1
      have fy1 := fr_tr (fr_0 p [] M) gy1 rfl
      refine ok_bnd (s_pieceY ty1 i3 (by omega) (by omega)) ?_
      intro y2 hyy2
      obtain ⟨ty2, gy2, iy2⟩ := hyy2
      have fy2 := fr_tr fy1 gy2 rfl
      have kp4 : p4.toInt = _ := i4
      refine ok_bnd (Q := fun (z : Int32 × Int32 × DD) => True ∧ (0 ≤ z.2.1.toInt ∧ z.2.1.toInt ≤ p4.toInt) ∧ TT G z.2.2 p 1 L ∧ Fr p [] M z.2.2) (ok_itr (fun (z : Int32 × Int32 × DD) => True ∧ (0 ≤ z.2.1.toInt ∧ z.2.1.toInt ≤ p4.toInt) ∧ TT G z.2.2 p 1 L ∧ Fr p [] M z.2.2) (fun z => (p4.toInt - z.2.1.toInt).toNat) ?_ _ _ ?_ ?_) ?_
      · intro s4 hys4
        obtain ⟨_, ls4_2_1, ts4_2_2, fs4_2_2⟩ := hys4
        have is4_2_1 : TI s4.2.1 s4.2.1.toInt := rfl
        refine ok_if (fun c1 => ?_) (fun c1 => ?_)
        · have dc1 := tl_le i4 is4_2_1 c1
          exact ok_some ⟨trivial, (ti_bd is4_2_1 (by omega) (by omega)), ts4_2_2, fs4_2_2⟩
        · have dc1 := tl_nle i4 is4_2_1 c1
          refine ok_dr rfl (g_lt ts4_2_2 (by decide)) (g_k ts4_2_2 (by decide) rfl) ?_
          refine ok_ltI (av_add iy2 is4_2_1 (by omega) (by omega)) (fun x9 ix9 => ?_)
          refine ok_bnd (s_lumaAt ts4_2_2 (tt_pic ts4_2_2) (tt_p ts4_2_2) i2 iy1 ix9 (by omega) (by omega) (by omega) (by omega) (by omega) (by omega)) ?_
          intro y10 hyy10
          obtain ⟨ty10, gy10, iy10⟩ := hyy10
          have fy10 := fr_tr fs4_2_2 gy10 rfl
          have kp4 : p4.toInt = _ := i4
          refine ok_bnd (Q := fun (z : Int32 × Int32) => True ∧ (0 ≤ z.2.toInt ∧ z.2.toInt ≤ p4.toInt)) (ok_itr (fun (z : Int32 × Int32) => True ∧ (0 ≤ z.2.toInt ∧ z.2.toInt ≤ p4.toInt)) (fun z => (p4.toInt - z.2.toInt).toNat) ?_ _ _ ?_ ?_) ?_
          · intro s12 hys12
            obtain ⟨_, ls12_2⟩ := hys12
            have is12_2 : TI s12.2 s12.2.toInt := rfl
            refine ok_if (fun c2 => ?_) (fun c2 => ?_)
            · have dc2 := tl_le i4 is12_2 c2
              exact ok_some ⟨trivial, (ti_bd is12_2 (by omega) (by omega))⟩
            · have dc2 := tl_nle i4 is12_2 c2
              refine ok_ltI (av_add iy10 is12_2 (by omega) (by omega)) (fun x17 ix17 => ?_)
              refine ok_dr rfl (g_lt ty10 hc1.2) (gk_src ty10 hc1) ?_
              refine ok_chk (nxi hn1 ix17 (by omega) (by omega)) ?_
              refine ok_ltA (fun x19 => ?_)
              refine ok_ltI (av_add iy2 is4_2_1 (by omega) (by omega)) (fun x20 ix20 => ?_)
              refine ok_ltI (av_mul tn_16 ix20 (by omega) (by omega)) (fun x21 ix21 => ?_)
              refine ok_ltI (av_add ix21 iy1 (by omega) (by omega)) (fun x22 ix22 => ?_)
              refine ok_ltI (av_add ix22 is12_2 (by omega) (by omega)) (fun x23 ix23 => ?_)
              refine ok_dr (f_r (b := 139) ty10 rfl (by decide)) (g_lt ty10 (by decide)) (g_k ty10 (by decide) rfl) ?_
              refine ok_chk (nxg (g_n (i := 139) (n := 384) ty10 (by decide) rfl) ix23 (by omega) (by omega)) ?_
              refine ok_ltA (fun x25 => ?_)
              refine ok_ltA (fun x26 => ?_)
              refine ok_bnd (Q := fun (z : Int32) => True) ?_ ?_
              · refine ok_if (fun c3 => ?_) (fun c3 => ?_)
                · have dc3 := tl_le tn_0 (rfl : TI x26 x26.toInt) c3
                  exact ok_some trivial
                · have dc3 := tl_nle tn_0 (rfl : TI x26 x26.toInt) c3
                  refine ok_ltA (fun x31 => ?_)
                  exact ok_some trivial
              · intro y27 hyy27
                have u_y27 := hyy27
                refine ok_ltA (fun x28 => ?_)
                refine ok_ltI (av_add is12_2 tn_1 (by omega) (by omega)) (fun x29 ix29 => ?_)
                exact ok_some ⟨⟨trivial, (ti_bd ix29 (by omega) (by omega))⟩, (mu_up ix29 (by omega) (by omega))⟩
          · exact ⟨trivial, (ti_bd tn_0 (by omega) (by omega))⟩
          · exact mu_0 tn_0 (by omega)
          · intro y11 hyy11
            obtain ⟨_, ly11_2⟩ := hyy11
            have iy11_2 : TI y11.2 y11.2.toInt := rfl
            refine ok_ltI (av_add is4_2_1 tn_1 (by omega) (by omega)) (fun x14 ix14 => ?_)
            exact ok_some ⟨⟨trivial, (ti_bd ix14 (by omega) (by omega)), ty10, fy10⟩, (mu_up ix14 (by omega) (by omega))⟩
      · exact ⟨trivial, (ti_bd tn_0 (by omega) (by omega)), ty2, fy2⟩
      · exact mu_0 tn_0 (by omega)
      · intro y3 hyy3
        obtain ⟨_, ly3_2_1, ty3_2_2, fy3_2_2⟩ := hyy3
        have iy3_2_1 : TI y3.2.1 y3.2.1.toInt := rfl
        exact ok_some ⟨ty3_2_2, fy3_2_2, trivial⟩
  · rcases h5 with rfl | ⟨rfl, rfl⟩
    · refine ok_bnd (s_pieceX t i3 (by omega) (by omega)) ?_
      intro y1 hyy1
      obtain ⟨ty1, gy1, iy1⟩ := hyy1
      have fy1 := fr_tr (fr_0 p [] M) gy1 rfl
      refine ok_bnd (s_pieceY ty1 i3 (by omega) (by omega)) ?_
      intro y2 hyy2
      obtain ⟨ty2, gy2, iy2⟩ := hyy2
      have fy2 := fr_tr fy1 gy2 rfl
      have kp4 : p4.toInt = _ := i4
      refine ok_bnd (Q := fun (z : Int32 × Int32 × DD) => True ∧ (0 ≤ z.2.1.toInt ∧ z.2.1.toInt ≤ p4.toInt) ∧ TT G z.2.2 p 2 L ∧ Fr p [] M z.2.2) (ok_itr (fun (z : Int32 × Int32 × DD) => True ∧ (0 ≤ z.2.1.toInt ∧ z.2.1.toInt ≤ p4.toInt) ∧ TT G z.2.2 p 2 L ∧ Fr p [] M z.2.2) (fun z => (p4.toInt - z.2.1.toInt).toNat) ?_ _ _ ?_ ?_) ?_
      · intro s4 hys4
        obtain ⟨_, ls4_2_1, ts4_2_2, fs4_2_2⟩ := hys4
        have is4_2_1 : TI s4.2.1 s4.2.1.toInt := rfl
        refine ok_if (fun c1 => ?_) (fun c1 => ?_)
        · have dc1 := tl_le i4 is4_2_1 c1
          exact ok_some ⟨trivial, (ti_bd is4_2_1 (by omega) (by omega)), ts4_2_2, fs4_2_2⟩
        · have dc1 := tl_nle i4 is4_2_1 c1
          refine ok_dr rfl (g_lt ts4_2_2 (by decide)) (g_k ts4_2_2 (by decide) rfl) ?_
          refine ok_ltI (av_add iy2 is4_2_1 (by omega) (by omega)) (fun x9 ix9 => ?_)
          refine ok_bnd (s_lumaAt ts4_2_2 (tt_pic ts4_2_2) (tt_p ts4_2_2) i2 iy1 ix9 (by omega) (by omega) (by omega) (by omega) (by omega) (by omega)) ?_
          intro y10 hyy10
          obtain ⟨ty10, gy10, iy10⟩ := hyy10
          have fy10 := fr_tr fs4_2_2 gy10 rfl
          have kp4 : p4.toInt = _ := i4
          refine ok_bnd (Q := fun (z : Int32 × Int32) => True ∧ (0 ≤ z.2.toInt ∧ z.2.toInt ≤ p4.toInt)) (ok_itr (fun (z : Int32 × Int32) => True ∧ (0 ≤ z.2.toInt ∧ z.2.toInt ≤ p4.toInt)) (fun z => (p4.toInt - z.2.toInt).toNat) ?_ _ _ ?_ ?_) ?_
          · intro s12 hys12
            obtain ⟨_, ls12_2⟩ := hys12
            have is12_2 : TI s12.2 s12.2.toInt := rfl
            refine ok_if (fun c2 => ?_) (fun c2 => ?_)
            · have dc2 := tl_le i4 is12_2 c2
              exact ok_some ⟨trivial, (ti_bd is12_2 (by omega) (by omega))⟩
            · have dc2 := tl_nle i4 is12_2 c2
              refine ok_ltI (av_add iy10 is12_2 (by omega) (by omega)) (fun x17 ix17 => ?_)
              refine ok_dr rfl (g_lt ty10 hc1.2) (gk_src ty10 hc1) ?_
              refine ok_chk (nxi hn1 ix17 (by omega) (by omega)) ?_
              refine ok_ltA (fun x19 => ?_)
              refine ok_ltI (av_add iy2 is4_2_1 (by omega) (by omega)) (fun x20 ix20 => ?_)
              refine ok_ltI (av_mul tn_16 ix20 (by omega) (by omega)) (fun x21 ix21 => ?_)
              refine ok_ltI (av_add ix21 iy1 (by omega) (by omega)) (fun x22 ix22 => ?_)
              refine ok_ltI (av_add ix22 is12_2 (by omega) (by omega)) (fun x23 ix23 => ?_)
              refine ok_dr (f_r (b := 139) ty10 rfl (by decide)) (g_lt ty10 (by decide)) (g_k ty10 (by decide) rfl) ?_
              refine ok_chk (nxg (g_n (i := 139) (n := 384) ty10 (by decide) rfl) ix23 (by omega) (by omega)) ?_
              refine ok_ltA (fun x25 => ?_)
              refine ok_ltA (fun x26 => ?_)
              refine ok_bnd (Q := fun (z : Int32) => True) ?_ ?_
              · refine ok_if (fun c3 => ?_) (fun c3 => ?_)
                · have dc3 := tl_le tn_0 (rfl : TI x26 x26.toInt) c3
                  exact ok_some trivial
                · have dc3 := tl_nle tn_0 (rfl : TI x26 x26.toInt) c3
                  refine ok_ltA (fun x31 => ?_)
                  exact ok_some trivial
              · intro y27 hyy27
                have u_y27 := hyy27
                refine ok_ltA (fun x28 => ?_)
                refine ok_ltI (av_add is12_2 tn_1 (by omega) (by omega)) (fun x29 ix29 => ?_)
                exact ok_some ⟨⟨trivial, (ti_bd ix29 (by omega) (by omega))⟩, (mu_up ix29 (by omega) (by omega))⟩
          · exact ⟨trivial, (ti_bd tn_0 (by omega) (by omega))⟩
          · exact mu_0 tn_0 (by omega)
          · intro y11 hyy11
            obtain ⟨_, ly11_2⟩ := hyy11
            have iy11_2 : TI y11.2 y11.2.toInt := rfl
            refine ok_ltI (av_add is4_2_1 tn_1 (by omega) (by omega)) (fun x14 ix14 => ?_)
            exact ok_some ⟨⟨trivial, (ti_bd ix14 (by omega) (by omega)), ty10, fy10⟩, (mu_up ix14 (by omega) (by omega))⟩
      · exact ⟨trivial, (ti_bd tn_0 (by omega) (by omega)), ty2, fy2⟩
      · exact mu_0 tn_0 (by omega)
      · intro y3 hyy3
        obtain ⟨_, ly3_2_1, ty3_2_2, fy3_2_2⟩ := hyy3
        have iy3_2_1 : TI y3.2.1 y3.2.1.toInt := rfl
        exact ok_some ⟨ty3_2_2, fy3_2_2, trivial⟩
    · refine ok_bnd (s_pieceX t i3 (by omega) (by omega)) ?_
      intro y1 hyy1
      obtain ⟨ty1, gy1, iy1⟩ := hyy1
      have fy1 := fr_tr (fr_0 p [] M) gy1 rfl
      refine ok_bnd (s_pieceY ty1 i3 (by omega) (by omega)) ?_
      intro y2 hyy2
      obtain ⟨ty2, gy2, iy2⟩ := hyy2
      have fy2 := fr_tr fy1 gy2 rfl
      have kp4 : p4.toInt = _ := i4
      refine ok_bnd (Q := fun (z : Int32 × Int32 × DD) => True ∧ (0 ≤ z.2.1.toInt ∧ z.2.1.toInt ≤ p4.toInt) ∧ TT G z.2.2 p 2 L ∧ Fr p [] M z.2.2) (ok_itr (fun (z : Int32 × Int32 × DD) => True ∧ (0 ≤ z.2.1.toInt ∧ z.2.1.toInt ≤ p4.toInt) ∧ TT G z.2.2 p 2 L ∧ Fr p [] M z.2.2) (fun z => (p4.toInt - z.2.1.toInt).toNat) ?_ _ _ ?_ ?_) ?_
      · intro s4 hys4
        obtain ⟨_, ls4_2_1, ts4_2_2, fs4_2_2⟩ := hys4
        have is4_2_1 : TI s4.2.1 s4.2.1.toInt := rfl
        refine ok_if (fun c1 => ?_) (fun c1 => ?_)
        · have dc1 := tl_le i4 is4_2_1 c1
          exact ok_some ⟨trivial, (ti_bd is4_2_1 (by omega) (by omega)), ts4_2_2, fs4_2_2⟩
        · have dc1 := tl_nle i4 is4_2_1 c1
          refine ok_dr rfl (g_lt ts4_2_2 (by decide)) (g_k ts4_2_2 (by decide) rfl) ?_
          refine ok_ltI (av_add iy2 is4_2_1 (by omega) (by omega)) (fun x9 ix9 => ?_)
          refine ok_bnd (s_lumaAt ts4_2_2 (tt_pic ts4_2_2) (tt_p ts4_2_2) i2 iy1 ix9 (by omega) (by omega) (by omega) (by omega) (by omega) (by omega)) ?_
          intro y10 hyy10
          obtain ⟨ty10, gy10, iy10⟩ := hyy10
          have fy10 := fr_tr fs4_2_2 gy10 rfl
          have kp4 : p4.toInt = _ := i4
          refine ok_bnd (Q := fun (z : Int32 × Int32) => True ∧ (0 ≤ z.2.toInt ∧ z.2.toInt ≤ p4.toInt)) (ok_itr (fun (z : Int32 × Int32) => True ∧ (0 ≤ z.2.toInt ∧ z.2.toInt ≤ p4.toInt)) (fun z => (p4.toInt - z.2.toInt).toNat) ?_ _ _ ?_ ?_) ?_
          · intro s12 hys12
            obtain ⟨_, ls12_2⟩ := hys12
            have is12_2 : TI s12.2 s12.2.toInt := rfl
            refine ok_if (fun c2 => ?_) (fun c2 => ?_)
            · have dc2 := tl_le i4 is12_2 c2
              exact ok_some ⟨trivial, (ti_bd is12_2 (by omega) (by omega))⟩
            · have dc2 := tl_nle i4 is12_2 c2
              refine ok_ltI (av_add iy10 is12_2 (by omega) (by omega)) (fun x17 ix17 => ?_)
              refine ok_dr rfl (g_lt ty10 hc1.2) (gk_src ty10 hc1) ?_
              refine ok_chk (nxi hn1 ix17 (by omega) (by omega)) ?_
              refine ok_ltA (fun x19 => ?_)
              refine ok_ltI (av_add iy2 is4_2_1 (by omega) (by omega)) (fun x20 ix20 => ?_)
              refine ok_ltI (av_mul tn_16 ix20 (by omega) (by omega)) (fun x21 ix21 => ?_)
              refine ok_ltI (av_add ix21 iy1 (by omega) (by omega)) (fun x22 ix22 => ?_)
              refine ok_ltI (av_add ix22 is12_2 (by omega) (by omega)) (fun x23 ix23 => ?_)
              refine ok_dr (f_r (b := 139) ty10 rfl (by decide)) (g_lt ty10 (by decide)) (g_k ty10 (by decide) rfl) ?_
              refine ok_chk (nxg (g_n (i := 139) (n := 384) ty10 (by decide) rfl) ix23 (by omega) (by omega)) ?_
              refine ok_ltA (fun x25 => ?_)
              refine ok_ltA (fun x26 => ?_)
              refine ok_bnd (Q := fun (z : Int32) => True) ?_ ?_
              · refine ok_if (fun c3 => ?_) (fun c3 => ?_)
                · have dc3 := tl_le tn_0 (rfl : TI x26 x26.toInt) c3
                  exact ok_some trivial
                · have dc3 := tl_nle tn_0 (rfl : TI x26 x26.toInt) c3
                  refine ok_ltA (fun x31 => ?_)
                  exact ok_some trivial
              · intro y27 hyy27
                have u_y27 := hyy27
                refine ok_ltA (fun x28 => ?_)
                refine ok_ltI (av_add is12_2 tn_1 (by omega) (by omega)) (fun x29 ix29 => ?_)
                exact ok_some ⟨⟨trivial, (ti_bd ix29 (by omega) (by omega))⟩, (mu_up ix29 (by omega) (by omega))⟩
          · exact ⟨trivial, (ti_bd tn_0 (by omega) (by omega))⟩
          · exact mu_0 tn_0 (by omega)
          · intro y11 hyy11
            obtain ⟨_, ly11_2⟩ := hyy11
            have iy11_2 : TI y11.2 y11.2.toInt := rfl
            refine ok_ltI (av_add is4_2_1 tn_1 (by omega) (by omega)) (fun x14 ix14 => ?_)
            exact ok_some ⟨⟨trivial, (ti_bd ix14 (by omega) (by omega)), ty10, fy10⟩, (mu_up ix14 (by omega) (by omega))⟩
      · exact ⟨trivial, (ti_bd tn_0 (by omega) (by omega)), ty2, fy2⟩
      · exact mu_0 tn_0 (by omega)
      · intro y3 hyy3
        obtain ⟨_, ly3_2_1, ty3_2_2, fy3_2_2⟩ := hyy3
        have iy3_2_1 : TI y3.2.1 y3.2.1.toInt := rfl
        exact ok_some ⟨ty3_2_2, fy3_2_2, trivial⟩
theorem s_colourDifferences {G : GG} {M : DD} {p : Nat} {w : Int} {L : List Nat} (t : TT G M p w L) {p0 : Option Nat} (e0 : p0 = some 125) {p1 : Option Nat} (e1 : p1 = some 209) {p2 : Int32} {a2 : Int} (i2 : TI p2 a2) (h0 : 0 ≤ a2) (h1 : a2 < 2 * w) : OK (FX6_colourDifferences G M 138 p0 p1 p2) (fun y => TT G y.1 p w L ∧ Fr p [] M y.1 ∧ True) := by
  unfold FX6_colourDifferences
  subst e0 e1
  have hw12 : 1 ≤ w ∧ w ≤ 2 := by rcases tt_w t with h | h <;> omega
  rcases tt_w t with rfl | rfl
  · refine ok_bnd (Q := fun (z : Int32 × Int32 × DD) => True ∧ (0 ≤ z.2.1.toInt ∧ z.2.1.toInt ≤ 128) ∧ TT G z.2.2 p 1 L ∧ Fr p [] M z.2.2) (ok_itr (fun (z : Int32 × Int32 × DD) => True ∧ (0 ≤ z.2.1.toInt ∧ z.2.1.toInt ≤ 128) ∧ TT G z.2.2 p 1 L ∧ Fr p [] M z.2.2) (fun z => (128 - z.2.1.toInt).toNat) ?_ _ _ ?_ ?_) ?_
    · intro s2 hys2
      obtain ⟨_, ls2_2_1, ts2_2_2, fs2_2_2⟩ := hys2
      have is2_2_1 : TI s2.2.1 s2.2.1.toInt := rfl
      refine ok_if (fun c1 => ?_) (fun c1 => ?_)
      · have dc1 := tl_le tn_128 is2_2_1 c1
        exact ok_some ⟨trivial, (ti_bd is2_2_1 (by omega) (by omega)), ts2_2_2, fs2_2_2⟩
      · have dc1 := tl_nle tn_128 is2_2_1 c1
        refine ok_ltI (av_div is2_2_1 tn_64 (by omega) (by omega)) (fun x6 ix6 => ?_)
        refine ok_ltI (av_add tn_1 ix6 (by omega) (by omega)) (fun x7 ix7 => ?_)
        refine ok_dr rfl (g_lt ts2_2_2 (by decide)) (g_k ts2_2_2 (by decide) rfl) ?_
        refine ok_chk (nxg (g_n (i := 209) (n := 3) ts2_2_2 (by decide) rfl) ix7 (by omega) (by omega)) ?_
        refine ok_dr rfl (g_lt ts2_2_2 (by decide)) (g_k ts2_2_2 (by decide) rfl) ?_
        refine ok_ltI (av_mod is2_2_1 tn_8 (by omega) (by omega)) (fun x10 ix10 => ?_)
        refine ok_ltI (av_div is2_2_1 tn_8 (by omega) (by omega)) (fun x11 ix11 => ?_)
        refine ok_ltI (av_mod ix11 tn_8 (by omega) (by omega)) (fun x12 ix12 => ?_)
        refine ok_bnd (s_colourAt ts2_2_2 (tt_pic ts2_2_2) (tt_p ts2_2_2) i2 ix10 ix12 (by omega) (by omega) (by omega) (by omega) (by omega) (by omega)) ?_
        intro y13 hyy13
        obtain ⟨ty13, gy13, iy13⟩ := hyy13
        have fy13 := fr_tr fs2_2_2 gy13 rfl
        refine ok_dsv ts2_2_2 ix7 (by omega) (by omega) (fun b14 hb14 nb14 => ?_)
        refine ok_chk (nxi nb14 iy13 (by omega) (by omega)) ?_
        refine ok_ltA (fun x15 => ?_)
        refine ok_ltI (av_add tn_256 is2_2_1 (by omega) (by omega)) (fun x16 ix16 => ?_)
        refine ok_dr (f_r (b := 139) ty13 rfl (by decide)) (g_lt ty13 (by decide)) (g_k ty13 (by decide) rfl) ?_
        refine ok_chk (nxg (g_n (i := 139) (n := 384) ty13 (by decide) rfl) ix16 (by omega) (by omega)) ?_
        refine ok_ltA (fun x18 => ?_)
        refine ok_ltA (fun x19 => ?_)
        refine ok_bnd (Q := fun (z : Int32) => True) ?_ ?_
        · refine ok_if (fun c2 => ?_) (fun c2 => ?_)
          · have dc2 := tl_le tn_0 (rfl : TI x19 x19.toInt) c2
            exact ok_some trivial
          · have dc2 := tl_nle tn_0 (rfl : TI x19 x19.toInt) c2
            refine ok_ltA (fun x24 => ?_)
            exact ok_some trivial
        · intro y20 hyy20
          have u_y20 := hyy20
          refine ok_ltA (fun x21 => ?_)
          refine ok_ltI (av_add is2_2_1 tn_1 (by omega) (by omega)) (fun x22 ix22 => ?_)
          exact ok_some ⟨⟨trivial, (ti_bd ix22 (by omega) (by omega)), ty13, fy13⟩, (mu_up ix22 (by omega) (by omega))⟩
    · exact ⟨trivial, (ti_bd tn_0 (by omega) (by omega)), t, (fr_0 p [] M)⟩
    · exact mu_0 tn_0 (by omega)
    · intro y1 hyy1
      obtain ⟨_, ly1_2_1, ty1_2_2, fy1_2_2⟩ := hyy1
      have iy1_2_1 : TI y1.2.1 y1.2.1.toInt := rfl
      exact ok_some ⟨ty1_2_2, fy1_2_2, trivial⟩
  · refine ok_bnd (Q := fun (z : Int32 × Int32 × DD) => True ∧ (0 ≤ z.2.1.toInt ∧ z.2.1.toInt ≤ 128) ∧ TT G z.2.2 p 2 L ∧ Fr p [] M z.2.2) (ok_itr (fun (z : Int32 × Int32 × DD) => True ∧ (0 ≤ z.2.1.toInt ∧ z.2.1.toInt ≤ 128) ∧ TT G z.2.2 p 2 L ∧ Fr p [] M z.2.2) (fun z => (128 - z.2.1.toInt).toNat) ?_ _ _ ?_ ?_) ?_
    · intro s2 hys2
      obtain ⟨_, ls2_2_1, ts2_2_2, fs2_2_2⟩ := hys2
      have is2_2_1 : TI s2.2.1 s2.2.1.toInt := rfl
      refine ok_if (fun c1 => ?_) (fun c1 => ?_)
      · have dc1 := tl_le tn_128 is2_2_1 c1
        exact ok_some ⟨trivial, (ti_bd is2_2_1 (by omega) (by omega)), ts2_2_2, fs2_2_2⟩
      · have dc1 := tl_nle tn_128 is2_2_1 c1
        refine ok_ltI (av_div is2_2_1 tn_64 (by omega) (by omega)) (fun x6 ix6 => ?_)
        refine ok_ltI (av_add tn_1 ix6 (by omega) (by omega)) (fun x7 ix7 => ?_)
        refine ok_dr rfl (g_lt ts2_2_2 (by decide)) (g_k ts2_2_2 (by decide) rfl) ?_
        refine ok_chk (nxg (g_n (i := 209) (n := 3) ts2_2_2 (by decide) rfl) ix7 (by omega) (by omega)) ?_
        refine ok_dr rfl (g_lt ts2_2_2 (by decide)) (g_k ts2_2_2 (by decide) rfl) ?_
        refine ok_ltI (av_mod is2_2_1 tn_8 (by omega) (by omega)) (fun x10 ix10 => ?_)
        refine ok_ltI (av_div is2_2_1 tn_8 (by omega) (by omega)) (fun x11 ix11 => ?_)
        refine ok_ltI (av_mod ix11 tn_8 (by omega) (by omega)) (fun x12 ix12 => ?_)
        refine ok_bnd (s_colourAt ts2_2_2 (tt_pic ts2_2_2) (tt_p ts2_2_2) i2 ix10 ix12 (by omega) (by omega) (by omega) (by omega) (by omega) (by omega)) ?_
        intro y13 hyy13
        obtain ⟨ty13, gy13, iy13⟩ := hyy13
        have fy13 := fr_tr fs2_2_2 gy13 rfl
        refine ok_dsv ts2_2_2 ix7 (by omega) (by omega) (fun b14 hb14 nb14 => ?_)
        refine ok_chk (nxi nb14 iy13 (by omega) (by omega)) ?_
        refine ok_ltA (fun x15 => ?_)
        refine ok_ltI (av_add tn_256 is2_2_1 (by omega) (by omega)) (fun x16 ix16 => ?_)
        refine ok_dr (f_r (b := 139) ty13 rfl (by decide)) (g_lt ty13 (by decide)) (g_k ty13 (by decide) rfl) ?_
        refine ok_chk (nxg (g_n (i := 139) (n := 384) ty13 (by decide) rfl) ix16 (by omega) (by omega)) ?_
        refine ok_ltA (fun x18 => ?_)
        refine ok_ltA (fun x19 => ?_)
        refine ok_bnd (Q := fun (z : Int32) => True) ?_ ?_
        · refine ok_if (fun c2 => ?_) (fun c2 => ?_)
          · have dc2 := tl_le tn_0 (rfl : TI x19 x19.toInt) c2
            exact ok_some trivial
          · have dc2 := tl_nle tn_0 (rfl : TI x19 x19.toInt) c2
            refine ok_ltA (fun x24 => ?_)
            exact ok_some trivial
        · intro y20 hyy20
          have u_y20 := hyy20
          refine ok_ltA (fun x21 => ?_)
          refine ok_ltI (av_add is2_2_1 tn_1 (by omega) (by omega)) (fun x22 ix22 => ?_)
          exact ok_some ⟨⟨trivial, (ti_bd ix22 (by omega) (by omega)), ty13, fy13⟩, (mu_up ix22 (by omega) (by omega))⟩
    · exact ⟨trivial, (ti_bd tn_0 (by omega) (by omega)), t, (fr_0 p [] M)⟩
    · exact mu_0 tn_0 (by omega)
    · intro y1 hyy1
      obtain ⟨_, ly1_2_1, ty1_2_2, fy1_2_2⟩ := hyy1
      have iy1_2_1 : TI y1.2.1 y1.2.1.toInt := rfl
      exact ok_some ⟨ty1_2_2, fy1_2_2, trivial⟩
theorem s_turn {G : GG} {M : DD} {p : Nat} {w : Int} {L : List Nat} (t : TT G M p w L) {p0 : Option Nat} {c0 : Nat} (e0 : p0 = some c0) (hc0 : 222 ≤ c0 ∧ c0 < 234) {n0 : Int} (hn0 : (G.2.2 c0 : Int) = n0) {p1 : Int32} {a1 : Int} (i1 : TI p1 a1) {p2 : Int32} {a2 : Int} (i2 : TI p2 a2) {p3 : Int32} {a3 : Int} (i3 : TI p3 a3) {p4 : Int32} {a4 : Int} (i4 : TI p4 a4) (h0 : 0 ≤ a1) (h1 : a1 + 3 * a2 + 3 < n0) (h2 : n0 ≤ 1024) (h3 : a2 = 8 ∨ a2 = 16 ∨ a2 = 32) (h4 : 0 ≤ a3) (h5 : a3 + 3 * a4 + 3 < 384) (h6 : a4 = 8 ∨ a4 = 16) : OK (FX6_turn G M 138 p0 p1 p2 p3 p4) (fun y => TT G y p w L ∧ Fr p [2] M y) := by
  unfold FX6_turn
  subst e0
  have hw12 : 1 ≤ w ∧ w ≤ 2 := by rcases tt_w t with h | h <;> omega
  rcases h3 with rfl | rfl | rfl
  · rcases h6 with rfl | rfl
    · refine ok_bnd (Q := fun (z : Int32 × DD) => (0 ≤ z.1.toInt ∧ z.1.toInt ≤ 16) ∧ TT G z.2 p w L ∧ Fr p [2] M z.2) (ok_itr (fun (z : Int32 × DD) => (0 ≤ z.1.toInt ∧ z.1.toInt ≤ 16) ∧ TT G z.2 p w L ∧ Fr p [2] M z.2) (fun z => (16 - z.1.toInt).toNat) ?_ _ _ ?_ ?_) ?_
      · intro s2 hys2
        obtain ⟨ls2_1, ts2_2, fs2_2⟩ := hys2
        have is2_1 : TI s2.1 s2.1.toInt := rfl
        refine ok_if (fun c1 => ?_) (fun c1 => ?_)
        · have dc1 := tl_le tn_16 is2_1 c1
          exact ok_some ⟨(ti_bd is2_1 (by omega) (by omega)), ts2_2, fs2_2⟩
        · have dc1 := tl_nle tn_16 is2_1 c1
          refine ok_ltI (av_div is2_1 tn_4 (by omega) (by omega)) (fun x64 ix64 => ?_)
          refine ok_ltI (av_mul ix64 i2 (by omega) (by omega)) (fun x65 ix65 => ?_)
          refine ok_ltI (av_add i1 ix65 (by omega) (by omega)) (fun x66 ix66 => ?_)
          refine ok_ltI (av_mod is2_1 tn_4 (by omega) (by omega)) (fun x67 ix67 => ?_)
          refine ok_ltI (av_add ix66 ix67 (by omega) (by omega)) (fun x68 ix68 => ?_)
          refine ok_dr rfl (g_lt ts2_2 hc0.2) (gk_src ts2_2 hc0) ?_
          refine ok_chk (nxi hn0 ix68 (by omega) (by omega)) ?_
          refine ok_ltA (fun x70 => ?_)
          refine ok_ltI (av_div is2_1 tn_4 (by omega) (by omega)) (fun x71 ix71 => ?_)
          refine ok_ltI (av_mul ix71 i4 (by omega) (by omega)) (fun x72 ix72 => ?_)
          refine ok_ltI (av_add i3 ix72 (by omega) (by omega)) (fun x73 ix73 => ?_)
          refine ok_ltI (av_mod is2_1 tn_4 (by omega) (by omega)) (fun x74 ix74 => ?_)
          refine ok_ltI (av_add ix73 ix74 (by omega) (by omega)) (fun x75 ix75 => ?_)
          refine ok_dr (f_r (b := 139) ts2_2 rfl (by decide)) (g_lt ts2_2 (by decide)) (g_k ts2_2 (by decide) rfl) ?_
          refine ok_chk (nxg (g_n (i := 139) (n := 384) ts2_2 (by decide) rfl) ix75 (by omega) (by omega)) ?_
          refine ok_ltA (fun x77 => ?_)
          refine ok_ltA (fun x78 => ?_)
          refine ok_dr (f_r (b := 145) ts2_2 rfl (by decide)) (g_lt ts2_2 (by decide)) (g_k ts2_2 (by decide) rfl) ?_
          refine ok_chk (nxg (g_n (i := 145) (n := 16) ts2_2 (by decide) rfl) is2_1 (by omega) (by omega)) ?_
          refine ok_ltt (fun M80 eM80 => ?_)
          have tM80 : TT G M80 p w L := by rw [eM80]; exact (tt_w0 ts2_2 rfl)
          have fM80 : Fr p [2] M M80 := by rw [eM80]; exact (fr_w fs2_2 rfl)
          clear eM80
          refine ok_ltI (av_add is2_1 tn_1 (by omega) (by omega)) (fun x81 ix81 => ?_)
          exact ok_some ⟨⟨(ti_bd ix81 (by omega) (by omega)), tM80, fM80⟩, (mu_up ix81 (by omega) (by omega))⟩
      · exact ⟨(ti_bd tn_0 (by omega) (by omega)), t, (fr_0 p [2] M)⟩
      · exact mu_0 tn_0 (by omega)
      · intro y1 hyy1
        obtain ⟨ly1_1, ty1_2, fy1_2⟩ := hyy1
        have iy1_1 : TI y1.1 y1.1.toInt := rfl
        refine ok_bnd (Q := fun (z : Int32 × DD) => (0 ≤ z.1.toInt ∧ z.1.toInt ≤ 2) ∧ TT G z.2 p w L ∧ Fr p [2] M z.2) (ok_itr (fun (z : Int32 × DD) => (0 ≤ z.1.toInt ∧ z.1.toInt ≤ 2) ∧ TT G z.2 p w L ∧ Fr p [2] M z.2) (fun z => (2 - z.1.toInt).toNat) ?_ _ _ ?_ ?_) ?_
        · intro s5 hys5
          obtain ⟨ls5_1, ts5_2, fs5_2⟩ := hys5
          have is5_1 : TI s5.1 s5.1.toInt := rfl
          refine ok_if (fun c2 => ?_) (fun c2 => ?_)
          · have dc2 := tl_le tn_2 is5_1 c2
            exact ok_some ⟨(ti_bd is5_1 (by omega) (by omega)), ts5_2, fs5_2⟩
          · have dc2 := tl_nle tn_2 is5_1 c2
            refine ok_bnd (Q := fun (z : Int32) => (1 ≤ z.toInt ∧ z.toInt ≤ 4) ∧ ((s5.1.toInt = 0 → z.toInt = 1) ∧ (s5.1.toInt ≠ 0 → z.toInt = 4))) ?_ ?_
            · refine ok_if (fun c3 => ?_) (fun c3 => ?_)
              · have dc3 := tl_eq is5_1 tn_0 c3
                exact ok_some ⟨(ti_bd tn_1 (by omega) (by omega)), (by have q : _ = _ := tn_1; (try dsimp only); omega)⟩
              · have dc3 := tl_ne is5_1 tn_0 c3
                exact ok_some ⟨(ti_bd tn_4 (by omega) (by omega)), (by have q : _ = _ := tn_4; (try dsimp only); omega)⟩
            · intro y9 hyy9
              obtain ⟨ly9, jy9⟩ := hyy9
              have iy9 : TI y9 y9.toInt := rfl
              refine ok_bnd (Q := fun (z : Int32 × DD) => (0 ≤ z.1.toInt ∧ z.1.toInt ≤ 4) ∧ TT G z.2 p w L ∧ Fr p [2] M z.2) (ok_itr (fun (z : Int32 × DD) => (0 ≤ z.1.toInt ∧ z.1.toInt ≤ 4) ∧ TT G z.2 p w L ∧ Fr p [2] M z.2) (fun z => (4 - z.1.toInt).toNat) ?_ _ _ ?_ ?_) ?_
              · intro s11 hys11
                obtain ⟨ls11_1, ts11_2, fs11_2⟩ := hys11
                have is11_1 : TI s11.1 s11.1.toInt := rfl
                refine ok_if (fun c4 => ?_) (fun c4 => ?_)
                · have dc4 := tl_le tn_4 is11_1 c4
                  exact ok_some ⟨(ti_bd is11_1 (by omega) (by omega)), ts11_2, fs11_2⟩
                · have dc4 := tl_nle tn_4 is11_1 c4
                  refine ok_bnd (Q := fun (z : Int32) => (0 ≤ z.toInt ∧ z.toInt ≤ 12) ∧ ((s5.1.toInt = 0 → z.toInt = 4 * s11.1.toInt) ∧ (s5.1.toInt ≠ 0 → z.toInt = s11.1.toInt))) ?_ ?_
                  · refine ok_if (fun c5 => ?_) (fun c5 => ?_)
                    · have dc5 := tl_eq is5_1 tn_0 c5
                      refine ok_ltI (av_mul tn_4 is11_1 (by omega) (by omega)) (fun x60 ix60 => ?_)
                      exact ok_some ⟨(ti_bd ix60 (by omega) (by omega)), (by have q : _ = _ := ix60; (try dsimp only); omega)⟩
                    · have dc5 := tl_ne is5_1 tn_0 c5
                      exact ok_some ⟨(ti_bd is11_1 (by omega) (by omega)), (by have q : _ = _ := is11_1; (try dsimp only); omega)⟩
                  · intro y16 hyy16
                    obtain ⟨ly16, jy16⟩ := hyy16
                    have iy16 : TI y16 y16.toInt := rfl
                    refine ok_dr (f_r (b := 145) ts11_2 rfl (by decide)) (g_lt ts11_2 (by decide)) (g_k ts11_2 (by decide) rfl) ?_
                    refine ok_chk (nxg (g_n (i := 145) (n := 16) ts11_2 (by decide) rfl) iy16 (by omega) (by omega)) ?_
                    refine ok_ltA (fun x18 => ?_)
                    refine ok_ltI (av_mul tn_3 iy9 (by omega) (by omega)) (fun x19 ix19 => ?_)
                    refine ok_ltI (av_add iy16 ix19 (by omega) (by omega)) (fun x20 ix20 => ?_)
                    refine ok_chk (nxg (g_n (i := 145) (n := 16) ts11_2 (by decide) rfl) ix20 (by omega) (by omega)) ?_
                    refine ok_ltA (fun x21 => ?_)
                    refine ok_ltA (fun x22 => ?_)
                    refine ok_ltI (av_add iy16 iy9 (by omega) (by omega)) (fun x23 ix23 => ?_)
                    refine ok_chk (nxg (g_n (i := 145) (n := 16) ts11_2 (by decide) rfl) ix23 (by omega) (by omega)) ?_
                    refine ok_ltA (fun x24 => ?_)
                    refine ok_ltI (av_mul tn_2 iy9 (by omega) (by omega)) (fun x25 ix25 => ?_)
                    refine ok_ltI (av_add iy16 ix25 (by omega) (by omega)) (fun x26 ix26 => ?_)
                    refine ok_chk (nxg (g_n (i := 145) (n := 16) ts11_2 (by decide) rfl) ix26 (by omega) (by omega)) ?_
                    refine ok_ltA (fun x27 => ?_)
                    refine ok_ltA (fun x28 => ?_)
                    refine ok_ltI (av_add iy16 iy9 (by omega) (by omega)) (fun x29 ix29 => ?_)
                    refine ok_chk (nxg (g_n (i := 145) (n := 16) ts11_2 (by decide) rfl) ix29 (by omega) (by omega)) ?_
                    refine ok_ltA (fun x30 => ?_)
                    refine ok_ltI (av_mul tn_2 iy9 (by omega) (by omega)) (fun x31 ix31 => ?_)
                    refine ok_ltI (av_add iy16 ix31 (by omega) (by omega)) (fun x32 ix32 => ?_)
                    refine ok_chk (nxg (g_n (i := 145) (n := 16) ts11_2 (by decide) rfl) ix32 (by omega) (by omega)) ?_
                    refine ok_ltA (fun x33 => ?_)
                    refine ok_ltA (fun x34 => ?_)
                    refine ok_chk (nxg (g_n (i := 145) (n := 16) ts11_2 (by decide) rfl) iy16 (by omega) (by omega)) ?_
                    refine ok_ltA (fun x35 => ?_)
                    refine ok_ltI (av_mul tn_3 iy9 (by omega) (by omega)) (fun x36 ix36 => ?_)
                    refine ok_ltI (av_add iy16 ix36 (by omega) (by omega)) (fun x37 ix37 => ?_)
                    refine ok_chk (nxg (g_n (i := 145) (n := 16) ts11_2 (by decide) rfl) ix37 (by omega) (by omega)) ?_
                    refine ok_ltA (fun x38 => ?_)
                    refine ok_ltA (fun x39 => ?_)
                    refine ok_ltA (fun x40 => ?_)
                    refine ok_chk (nxg (g_n (i := 145) (n := 16) ts11_2 (by decide) rfl) iy16 (by omega) (by omega)) ?_
                    refine ok_ltt (fun M41 eM41 => ?_)
                    have tM41 : TT G M41 p w L := by rw [eM41]; exact (tt_w0 ts11_2 rfl)
                    have fM41 : Fr p [2] M M41 := by rw [eM41]; exact (fr_w fs11_2 rfl)
                    clear eM41
                    refine ok_ltI (av_add iy16 iy9 (by omega) (by omega)) (fun x42 ix42 => ?_)
                    refine ok_ltA (fun x43 => ?_)
                    refine ok_ltA (fun x44 => ?_)
                    refine ok_dr (f_r (b := 145) tM41 rfl (by decide)) (g_lt tM41 (by decide)) (g_k tM41 (by decide) rfl) ?_
                    refine ok_chk (nxg (g_n (i := 145) (n := 16) tM41 (by decide) rfl) ix42 (by omega) (by omega)) ?_
                    refine ok_ltt (fun M46 eM46 => ?_)
                    have tM46 : TT G M46 p w L := by rw [eM46]; exact (tt_w0 tM41 rfl)
                    have fM46 : Fr p [2] M M46 := by rw [eM46]; exact (fr_w fM41 rfl)
                    clear eM46
                    refine ok_ltI (av_mul tn_2 iy9 (by omega) (by omega)) (fun x47 ix47 => ?_)
                    refine ok_ltI (av_add iy16 ix47 (by omega) (by omega)) (fun x48 ix48 => ?_)
                    refine ok_ltA (fun x49 => ?_)
                    refine ok_dr (f_r (b := 145) tM46 rfl (by decide)) (g_lt tM46 (by decide)) (g_k tM46 (by decide) rfl) ?_
                    refine ok_chk (nxg (g_n (i := 145) (n := 16) tM46 (by decide) rfl) ix48 (by omega) (by omega)) ?_
                    refine ok_ltt (fun M51 eM51 => ?_)
                    have tM51 : TT G M51 p w L := by rw [eM51]; exact (tt_w0 tM46 rfl)
                    have fM51 : Fr p [2] M M51 := by rw [eM51]; exact (fr_w fM46 rfl)
                    clear eM51
                    refine ok_ltI (av_mul tn_3 iy9 (by omega) (by omega)) (fun x52 ix52 => ?_)
                    refine ok_ltI (av_add iy16 ix52 (by omega) (by omega)) (fun x53 ix53 => ?_)
                    refine ok_ltA (fun x54 => ?_)
                    refine ok_ltA (fun x55 => ?_)
                    refine ok_dr (f_r (b := 145) tM51 rfl (by decide)) (g_lt tM51 (by decide)) (g_k tM51 (by decide) rfl) ?_
                    refine ok_chk (nxg (g_n (i := 145) (n := 16) tM51 (by decide) rfl) ix53 (by omega) (by omega)) ?_
                    refine ok_ltt (fun M57 eM57 => ?_)
                    have tM57 : TT G M57 p w L := by rw [eM57]; exact (tt_w0 tM51 rfl)
                    have fM57 : Fr p [2] M M57 := by rw [eM57]; exact (fr_w fM51 rfl)
                    clear eM57
                    refine ok_ltI (av_add is11_1 tn_1 (by omega) (by omega)) (fun x58 ix58 => ?_)
                    exact ok_some ⟨⟨(ti_bd ix58 (by omega) (by omega)), tM57, fM57⟩, (mu_up ix58 (by omega) (by omega))⟩
              · exact ⟨(ti_bd tn_0 (by omega) (by omega)), ts5_2, fs5_2⟩
              · exact mu_0 tn_0 (by omega)
              · intro y10 hyy10
                obtain ⟨ly10_1, ty10_2, fy10_2⟩ := hyy10
                have iy10_1 : TI y10.1 y10.1.toInt := rfl
                refine ok_ltI (av_add is5_1 tn_1 (by omega) (by omega)) (fun x13 ix13 => ?_)
                exact ok_some ⟨⟨(ti_bd ix13 (by omega) (by omega)), ty10_2, fy10_2⟩, (mu_up ix13 (by omega) (by omega))⟩
        · exact ⟨(ti_bd tn_0 (by omega) (by omega)), ty1_2, fy1_2⟩
        · exact mu_0 tn_0 (by omega)
        · intro y4 hyy4
          obtain ⟨ly4_1, ty4_2, fy4_2⟩ := hyy4
          have iy4_1 : TI y4.1 y4.1.toInt := rfl
          exact ok_some ⟨ty4_2, fy4_2⟩
    · refine ok_bnd (Q := fun (z : Int32 × DD) => (0 ≤ z.1.toInt ∧ z.1.toInt ≤ 16) ∧ TT G z.2 p w L ∧ Fr p [2] M z.2) (ok_itr (fun (z : Int32 × DD) => (0 ≤ z.1.toInt ∧ z.1.toInt ≤ 16) ∧ TT G z.2 p w L ∧ Fr p [2] M z.2) (fun z => (16 - z.1.toInt).toNat) ?_ _ _ ?_ ?_) ?_
      · intro s2 hys2
        obtain ⟨ls2_1, ts2_2, fs2_2⟩ := hys2
        have is2_1 : TI s2.1 s2.1.toInt := rfl
        refine ok_if (fun c1 => ?_) (fun c1 => ?_)
        · have dc1 := tl_le tn_16 is2_1 c1
          exact ok_some ⟨(ti_bd is2_1 (by omega) (by omega)), ts2_2, fs2_2⟩
        · have dc1 := tl_nle tn_16 is2_1 c1
          refine ok_ltI (av_div is2_1 tn_4 (by omega) (by omega)) (fun x64 ix64 => ?_)
          refine ok_ltI (av_mul ix64 i2 (by omega) (by omega)) (fun x65 ix65 => ?_)
          refine ok_ltI (av_add i1 ix65 (by omega) (by omega)) (fun x66 ix66 => ?_)
          refine ok_ltI (av_mod is2_1 tn_4 (by omega) (by omega)) (fun x67 ix67 => ?_)
          refine ok_ltI (av_add ix66 ix67 (by omega) (by omega)) (fun x68 ix68 => ?_)
          refine ok_dr rfl (g_lt ts2_2 hc0.2) (gk_src ts2_2 hc0) ?_
          refine ok_chk (nxi hn0 ix68 (by omega) (by omega)) ?_
          refine ok_ltA (fun x70 => ?_)
          refine ok_ltI (av_div is2_1 tn_4 (by omega) (by omega)) (fun x71 ix71 => ?_)
          refine ok_ltI (av_mul ix71 i4 (by omega) (by omega)) (fun x72 ix72 => ?_)
          refine ok_ltI (av_add i3 ix72 (by omega) (by omega)) (fun x73 ix73 => ?_)
          refine ok_ltI (av_mod is2_1 tn_4 (by omega) (by omega)) (fun x74 ix74 => ?_)
          refine ok_ltI (av_add ix73 ix74 (by omega) (by omega)) (fun x75 ix75 => ?_)
          refine ok_dr (f_r (b := 139) ts2_2 rfl (by decide)) (g_lt ts2_2 (by decide)) (g_k ts2_2 (by decide) rfl) ?_
          refine ok_chk (nxg (g_n (i := 139) (n := 384) ts2_2 (by decide) rfl) ix75 (by omega) (by omega)) ?_
          refine ok_ltA (fun x77 => ?_)
          refine ok_ltA (fun x78 => ?_)
          refine ok_dr (f_r (b := 145) ts2_2 rfl (by decide)) (g_lt ts2_2 (by decide)) (g_k ts2_2 (by decide) rfl) ?_
          refine ok_chk (nxg (g_n (i := 145) (n := 16) ts2_2 (by decide) rfl) is2_1 (by omega) (by omega)) ?_
          refine ok_ltt (fun M80 eM80 => ?_)
          have tM80 : TT G M80 p w L := by rw [eM80]; exact (tt_w0 ts2_2 rfl)
          have fM80 : Fr p [2] M M80 := by rw [eM80]; exact (fr_w fs2_2 rfl)
          clear eM80
          refine ok_ltI (av_add is2_1 tn_1 (by omega) (by omega)) (fun x81 ix81 => ?_)
          exact ok_some ⟨⟨(ti_bd ix81 (by omega) (by omega)), tM80, fM80⟩, (mu_up ix81 (by omega) (by omega))⟩
      · exact ⟨(ti_bd tn_0 (by omega) (by omega)), t, (fr_0 p [2] M)⟩
      · exact mu_0 tn_0 (by omega)
      · intro y1 hyy1
        obtain ⟨ly1_1, ty1_2, fy1_2⟩ := hyy1
        have iy1_1 : TI y1.1 y1.1.toInt := rfl
        refine ok_bnd (Q := fun (z : Int32 × DD) => (0 ≤ z.1.toInt ∧ z.1.toInt ≤ 2) ∧ TT G z.2 p w L ∧ Fr p [2] M z.2) (ok_itr (fun (z : Int32 × DD) => (0 ≤ z.1.toInt ∧ z.1.toInt ≤ 2) ∧ TT G z.2 p w L ∧ Fr p [2] M z.2) (fun z => (2 - z.1.toInt).toNat) ?_ _ _ ?_ ?_) ?_
        · intro s5 hys5
          obtain ⟨ls5_1, ts5_2, fs5_2⟩ := hys5
          have is5_1 : TI s5.1 s5.1.toInt := rfl
          refine ok_if (fun c2 => ?_) (fun c2 => ?_)
          · have dc2 := tl_le tn_2 is5_1 c2
            exact ok_some ⟨(ti_bd is5_1 (by omega) (by omega)), ts5_2, fs5_2⟩
          · have dc2 := tl_nle tn_2 is5_1 c2
            refine ok_bnd (Q := fun (z : Int32) => (1 ≤ z.toInt ∧ z.toInt ≤ 4) ∧ ((s5.1.toInt = 0 → z.toInt = 1) ∧ (s5.1.toInt ≠ 0 → z.toInt = 4))) ?_ ?_
            · refine ok_if (fun c3 => ?_) (fun c3 => ?_)
              · have dc3 := tl_eq is5_1 tn_0 c3
                exact ok_some ⟨(ti_bd tn_1 (by omega) (by omega)), (by have q : _ = _ := tn_1; (try dsimp only); omega)⟩
              · have dc3 := tl_ne is5_1 tn_0 c3
                exact ok_some ⟨(ti_bd tn_4 (by omega) (by omega)), (by have q : _ = _ := tn_4; (try dsimp only); omega)⟩
            · intro y9 hyy9
              obtain ⟨ly9, jy9⟩ := hyy9
              have iy9 : TI y9 y9.toInt := rfl
              refine ok_bnd (Q := fun (z : Int32 × DD) => (0 ≤ z.1.toInt ∧ z.1.toInt ≤ 4) ∧ TT G z.2 p w L ∧ Fr p [2] M z.2) (ok_itr (fun (z : Int32 × DD) => (0 ≤ z.1.toInt ∧ z.1.toInt ≤ 4) ∧ TT G z.2 p w L ∧ Fr p [2] M z.2) (fun z => (4 - z.1.toInt).toNat) ?_ _ _ ?_ ?_) ?_
              · intro s11 hys11
                obtain ⟨ls11_1, ts11_2, fs11_2⟩ := hys11
                have is11_1 : TI s11.1 s11.1.toInt := rfl
                refine ok_if (fun c4 => ?_) (fun c4 => ?_)
                · have dc4 := tl_le tn_4 is11_1 c4
                  exact ok_some ⟨(ti_bd is11_1 (by omega) (by omega)), ts11_2, fs11_2⟩
                · have dc4 := tl_nle tn_4 is11_1 c4
                  refine ok_bnd (Q := fun (z : Int32) => (0 ≤ z.toInt ∧ z.toInt ≤ 12) ∧ ((s5.1.toInt = 0 → z.toInt = 4 * s11.1.toInt) ∧ (s5.1.toInt ≠ 0 → z.toInt = s11.1.toInt))) ?_ ?_
                  · refine ok_if (fun c5 => ?_) (fun c5 => ?_)
                    · have dc5 := tl_eq is5_1 tn_0 c5
                      refine ok_ltI (av_mul tn_4 is11_1 (by omega) (by omega)) (fun x60 ix60 => ?_)
                      exact ok_some ⟨(ti_bd ix60 (by omega) (by omega)), (by have q : _ = _ := ix60; (try dsimp only); omega)⟩
                    · have dc5 := tl_ne is5_1 tn_0 c5
                      exact ok_some ⟨(ti_bd is11_1 (by omega) (by omega)), (by have q : _ = _ := is11_1; (try dsimp only); omega)⟩
                  · intro y16 hyy16
                    obtain ⟨ly16, jy16⟩ := hyy16
                    have iy16 : TI y16 y16.toInt := rfl
                    refine ok_dr (f_r (b := 145) ts11_2 rfl (by decide)) (g_lt ts11_2 (by decide)) (g_k ts11_2 (by decide) rfl) ?_
                    refine ok_chk (nxg (g_n (i := 145) (n := 16) ts11_2 (by decide) rfl) iy16 (by omega) (by omega)) ?_
                    refine ok_ltA (fun x18 => ?_)
                    refine ok_ltI (av_mul tn_3 iy9 (by omega) (by omega)) (fun x19 ix19 => ?_)
                    refine ok_ltI (av_add iy16 ix19 (by omega) (by omega)) (fun x20 ix20 => ?_)
                    refine ok_chk (nxg (g_n (i := 145) (n := 16) ts11_2 (by decide) rfl) ix20 (by omega) (by omega)) ?_
                    refine ok_ltA (fun x21 => ?_)
                    refine ok_ltA (fun x22 => ?_)
                    refine ok_ltI (av_add iy16 iy9 (by omega) (by omega)) (fun x23 ix23 => ?_)
                    refine ok_chk (nxg (g_n (i := 145) (n := 16) ts11_2 (by decide) rfl) ix23 (by omega) (by omega)) ?_
                    refine ok_ltA (fun x24 => ?_)
                    refine ok_ltI (av_mul tn_2 iy9 (by omega) (by omega)) (fun x25 ix25 => ?_)
                    refine ok_ltI (av_add iy16 ix25 (by omega) (by omega)) (fun x26 ix26 => ?_)
                    refine ok_chk (nxg (g_n (i := 145) (n := 16) ts11_2 (by decide) rfl) ix26 (by omega) (by omega)) ?_
                    refine ok_ltA (fun x27 => ?_)
                    refine ok_ltA (fun x28 => ?_)
                    refine ok_ltI (av_add iy16 iy9 (by omega) (by omega)) (fun x29 ix29 => ?_)
                    refine ok_chk (nxg (g_n (i := 145) (n := 16) ts11_2 (by decide) rfl) ix29 (by omega) (by omega)) ?_
                    refine ok_ltA (fun x30 => ?_)
                    refine ok_ltI (av_mul tn_2 iy9 (by omega) (by omega)) (fun x31 ix31 => ?_)
                    refine ok_ltI (av_add iy16 ix31 (by omega) (by omega)) (fun x32 ix32 => ?_)
                    refine ok_chk (nxg (g_n (i := 145) (n := 16) ts11_2 (by decide) rfl) ix32 (by omega) (by omega)) ?_
                    refine ok_ltA (fun x33 => ?_)
                    refine ok_ltA (fun x34 => ?_)
                    refine ok_chk (nxg (g_n (i := 145) (n := 16) ts11_2 (by decide) rfl) iy16 (by omega) (by omega)) ?_
                    refine ok_ltA (fun x35 => ?_)
                    refine ok_ltI (av_mul tn_3 iy9 (by omega) (by omega)) (fun x36 ix36 => ?_)
                    refine ok_ltI (av_add iy16 ix36 (by omega) (by omega)) (fun x37 ix37 => ?_)
                    refine ok_chk (nxg (g_n (i := 145) (n := 16) ts11_2 (by decide) rfl) ix37 (by omega) (by omega)) ?_
                    refine ok_ltA (fun x38 => ?_)
                    refine ok_ltA (fun x39 => ?_)
                    refine ok_ltA (fun x40 => ?_)
                    refine ok_chk (nxg (g_n (i := 145) (n := 16) ts11_2 (by decide) rfl) iy16 (by omega) (by omega)) ?_
                    refine ok_ltt (fun M41 eM41 => ?_)
                    have tM41 : TT G M41 p w L := by rw [eM41]; exact (tt_w0 ts11_2 rfl)
                    have fM41 : Fr p [2] M M41 := by rw [eM41]; exact (fr_w fs11_2 rfl)
                    clear eM41
                    refine ok_ltI (av_add iy16 iy9 (by omega) (by omega)) (fun x42 ix42 => ?_)
                    refine ok_ltA (fun x43 => ?_)
                    refine ok_ltA (fun x44 => ?_)
                    refine ok_dr (f_r (b := 145) tM41 rfl (by decide)) (g_lt tM41 (by decide)) (g_k tM41 (by decide) rfl) ?_
                    refine ok_chk (nxg (g_n (i := 145) (n := 16) tM41 (by decide) rfl) ix42 (by omega) (by omega)) ?_
                    refine ok_ltt (fun M46 eM46 => ?_)
                    have tM46 : TT G M46 p w L := by rw [eM46]; exact (tt_w0 tM41 rfl)
                    have fM46 : Fr p [2] M M46 := by rw [eM46]; exact (fr_w fM41 rfl)
                    clear eM46
                    refine ok_ltI (av_mul tn_2 iy9 (by omega) (by omega)) (fun x47 ix47 => ?_)
                    refine ok_ltI (av_add iy16 ix47 (by omega) (by omega)) (fun x48 ix48 => ?_)
                    refine ok_ltA (fun x49 => ?_)
                    refine ok_dr (f_r (b := 145) tM46 rfl (by decide)) (g_lt tM46 (by decide)) (g_k tM46 (by decide) rfl) ?_
                    refine ok_chk (nxg (g_n (i := 145) (n := 16) tM46 (by decide) rfl) ix48 (by omega) (by omega)) ?_
                    refine ok_ltt (fun M51 eM51 => ?_)
                    have tM51 : TT G M51 p w L := by rw [eM51]; exact (tt_w0 tM46 rfl)
                    have fM51 : Fr p [2] M M51 := by rw [eM51]; exact (fr_w fM46 rfl)
                    clear eM51
                    refine ok_ltI (av_mul tn_3 iy9 (by omega) (by omega)) (fun x52 ix52 => ?_)
                    refine ok_ltI (av_add iy16 ix52 (by omega) (by omega)) (fun x53 ix53 => ?_)
                    refine ok_ltA (fun x54 => ?_)
                    refine ok_ltA (fun x55 => ?_)
                    refine ok_dr (f_r (b := 145) tM51 rfl (by decide)) (g_lt tM51 (by decide)) (g_k tM51 (by decide) rfl) ?_
                    refine ok_chk (nxg (g_n (i := 145) (n := 16) tM51 (by decide) rfl) ix53 (by omega) (by omega)) ?_
                    refine ok_ltt (fun M57 eM57 => ?_)
                    have tM57 : TT G M57 p w L := by rw [eM57]; exact (tt_w0 tM51 rfl)
                    have fM57 : Fr p [2] M M57 := by rw [eM57]; exact (fr_w fM51 rfl)
                    clear eM57
                    refine ok_ltI (av_add is11_1 tn_1 (by omega) (by omega)) (fun x58 ix58 => ?_)
                    exact ok_some ⟨⟨(ti_bd ix58 (by omega) (by omega)), tM57, fM57⟩, (mu_up ix58 (by omega) (by omega))⟩
              · exact ⟨(ti_bd tn_0 (by omega) (by omega)), ts5_2, fs5_2⟩
              · exact mu_0 tn_0 (by omega)
              · intro y10 hyy10
                obtain ⟨ly10_1, ty10_2, fy10_2⟩ := hyy10
                have iy10_1 : TI y10.1 y10.1.toInt := rfl
                refine ok_ltI (av_add is5_1 tn_1 (by omega) (by omega)) (fun x13 ix13 => ?_)
                exact ok_some ⟨⟨(ti_bd ix13 (by omega) (by omega)), ty10_2, fy10_2⟩, (mu_up ix13 (by omega) (by omega))⟩
        · exact ⟨(ti_bd tn_0 (by omega) (by omega)), ty1_2, fy1_2⟩
        · exact mu_0 tn_0 (by omega)
        · intro y4 hyy4
          obtain ⟨ly4_1, ty4_2, fy4_2⟩ := hyy4
          have iy4_1 : TI y4.1 y4.1.toInt := rfl
          exact ok_some ⟨ty4_2, fy4_2⟩
  · rcases h6 with rfl | rfl
    · refine ok_bnd (Q := fun (z : Int32 × DD) => (0 ≤ z.1.toInt ∧ z.1.toInt ≤ 16) ∧ TT G z.2 p w L ∧ Fr p [2] M z.2) (ok_itr (fun (z : Int32 × DD) => (0 ≤ z.1.toInt ∧ z.1.toInt ≤ 16) ∧ TT G z.2 p w L ∧ Fr p [2] M z.2) (fun z => (16 - z.1.toInt).toNat) ?_ _ _ ?_ ?_) ?_
      · intro s2 hys2
        obtain ⟨ls2_1, ts2_2, fs2_2⟩ := hys2
        have is2_1 : TI s2.1 s2.1.toInt := rfl
        refine ok_if (fun c1 => ?_) (fun c1 => ?_)
        · have dc1 := tl_le tn_16 is2_1 c1
          exact ok_some ⟨(ti_bd is2_1 (by omega) (by omega)), ts2_2, fs2_2⟩
        · have dc1 := tl_nle tn_16 is2_1 c1
          refine ok_ltI (av_div is2_1 tn_4 (by omega) (by omega)) (fun x64 ix64 => ?_)
          refine ok_ltI (av_mul ix64 i2 (by omega) (by omega)) (fun x65 ix65 => ?_)
          refine ok_ltI (av_add i1 ix65 (by omega) (by omega)) (fun x66 ix66 => ?_)
          refine ok_ltI (av_mod is2_1 tn_4 (by omega) (by omega)) (fun x67 ix67 => ?_)
          refine ok_ltI (av_add ix66 ix67 (by omega) (by omega)) (fun x68 ix68 => ?_)
          refine ok_dr rfl (g_lt ts2_2 hc0.2) (gk_src ts2_2 hc0) ?_
          refine ok_chk (nxi hn0 ix68 (by omega) (by omega)) ?_
          refine ok_ltA (fun x70 => ?_)
          refine ok_ltI (av_div is2_1 tn_4 (by omega) (by omega)) (fun x71 ix71 => ?_)
          refine ok_ltI (av_mul ix71 i4 (by omega) (by omega)) (fun x72 ix72 => ?_)
          refine ok_ltI (av_add i3 ix72 (by omega) (by omega)) (fun x73 ix73 => ?_)
          refine ok_ltI (av_mod is2_1 tn_4 (by omega) (by omega)) (fun x74 ix74 => ?_)
          refine ok_ltI (av_add ix73 ix74 (by omega) (by omega)) (fun x75 ix75 => ?_)
          refine ok_dr (f_r (b := 139) ts2_2 rfl (by decide)) (g_lt ts2_2 (by decide)) (g_k ts2_2 (by decide) rfl) ?_
          refine ok_chk (nxg (g_n (i := 139) (n := 384) ts2_2 (by decide) rfl) ix75 (by omega) (by omega)) ?_
          refine ok_ltA (fun x77 => ?_)
          refine ok_ltA (fun x78 => ?_)
          refine ok_dr (f_r (b := 145) ts2_2 rfl (by decide)) (g_lt ts2_2 (by decide)) (g_k ts2_2 (by decide) rfl) ?_
          refine ok_chk (nxg (g_n (i := 145) (n := 16) ts2_2 (by decide) rfl) is2_1 (by omega) (by omega)) ?_
          refine ok_ltt (fun M80 eM80 => ?_)
          have tM80 : TT G M80 p w L := by rw [eM80]; exact (tt_w0 ts2_2 rfl)
          have fM80 : Fr p [2] M M80 := by rw [eM80]; exact (fr_w fs2_2 rfl)
          clear eM80
          refine ok_ltI (av_add is2_1 tn_1 (by omega) (by omega)) (fun x81 ix81 => ?_)
          exact ok_some ⟨⟨(ti_bd ix81 (by omega) (by omega)), tM80, fM80⟩, (mu_up ix81 (by omega) (by omega))⟩
      · exact ⟨(ti_bd tn_0 (by omega) (by omega)), t, (fr_0 p [2] M)⟩
      · exact mu_0 tn_0 (by omega)
      · intro y1 hyy1
        obtain ⟨ly1_1, ty1_2, fy1_2⟩ := hyy1
        have iy1_1 : TI y1.1 y1.1.toInt := rfl
        refine ok_bnd (Q := fun (z : Int32 × DD) => (0 ≤ z.1.toInt ∧ z.1.toInt ≤ 2) ∧ TT G z.2 p w L ∧ Fr p [2] M z.2) (ok_itr (fun (z : Int32 × DD) => (0 ≤ z.1.toInt ∧ z.1.toInt ≤ 2) ∧ TT G z.2 p w L ∧ Fr p [2] M z.2) (fun z => (2 - z.1.toInt).toNat) ?_ _ _ ?_ ?_) ?_
        · intro s5 hys5
          obtain ⟨ls5_1, ts5_2, fs5_2⟩ := hys5
          have is5_1 : TI s5.1 s5.1.toInt := rfl
          refine ok_if (fun c2 => ?_) (fun c2 => ?_)
          · have dc2 := tl_le tn_2 is5_1 c2
            exact ok_some ⟨(ti_bd is5_1 (by omega) (by omega)), ts5_2, fs5_2⟩
          · have dc2 := tl_nle tn_2 is5_1 c2
            refine ok_bnd (Q := fun (z : Int32) => (1 ≤ z.toInt ∧ z.toInt ≤ 4) ∧ ((s5.1.toInt = 0 → z.toInt = 1) ∧ (s5.1.toInt ≠ 0 → z.toInt = 4))) ?_ ?_
            · refine ok_if (fun c3 => ?_) (fun c3 => ?_)
              · have dc3 := tl_eq is5_1 tn_0 c3
                exact ok_some ⟨(ti_bd tn_1 (by omega) (by omega)), (by have q : _ = _ := tn_1; (try dsimp only); omega)⟩
              · have dc3 := tl_ne is5_1 tn_0 c3
                exact ok_some ⟨(ti_bd tn_4 (by omega) (by omega)), (by have q : _ = _ := tn_4; (try dsimp only); omega)⟩
            · intro y9 hyy9
              obtain ⟨ly9, jy9⟩ := hyy9
              have iy9 : TI y9 y9.toInt := rfl
              refine ok_bnd (Q := fun (z : Int32 × DD) => (0 ≤ z.1.toInt ∧ z.1.toInt ≤ 4) ∧ TT G z.2 p w L ∧ Fr p [2] M z.2) (ok_itr (fun (z : Int32 × DD) => (0 ≤ z.1.toInt ∧ z.1.toInt ≤ 4) ∧ TT G z.2 p w L ∧ Fr p [2] M z.2) (fun z => (4 - z.1.toInt).toNat) ?_ _ _ ?_ ?_) ?_
              · intro s11 hys11
                obtain ⟨ls11_1, ts11_2, fs11_2⟩ := hys11
                have is11_1 : TI s11.1 s11.1.toInt := rfl
                refine ok_if (fun c4 => ?_) (fun c4 => ?_)
                · have dc4 := tl_le tn_4 is11_1 c4
                  exact ok_some ⟨(ti_bd is11_1 (by omega) (by omega)), ts11_2, fs11_2⟩
                · have dc4 := tl_nle tn_4 is11_1 c4
                  refine ok_bnd (Q := fun (z : Int32) => (0 ≤ z.toInt ∧ z.toInt ≤ 12) ∧ ((s5.1.toInt = 0 → z.toInt = 4 * s11.1.toInt) ∧ (s5.1.toInt ≠ 0 → z.toInt = s11.1.toInt))) ?_ ?_
                  · refine ok_if (fun c5 => ?_) (fun c5 => ?_)
                    · have dc5 := tl_eq is5_1 tn_0 c5
                      refine ok_ltI (av_mul tn_4 is11_1 (by omega) (by omega)) (fun x60 ix60 => ?_)
                      exact ok_some ⟨(ti_bd ix60 (by omega) (by omega)), (by have q : _ = _ := ix60; (try dsimp only); omega)⟩
                    · have dc5 := tl_ne is5_1 tn_0 c5
                      exact ok_some ⟨(ti_bd is11_1 (by omega) (by omega)), (by have q : _ = _ := is11_1; (try dsimp only); omega)⟩
                  · intro y16 hyy16
                    obtain ⟨ly16, jy16⟩ := hyy16
                    have iy16 : TI y16 y16.toInt := rfl
                    refine ok_dr (f_r (b := 145) ts11_2 rfl (by decide)) (g_lt ts11_2 (by decide)) (g_k ts11_2 (by decide) rfl) ?_
                    refine ok_chk (nxg (g_n (i := 145) (n := 16) ts11_2 (by decide) rfl) iy16 (by omega) (by omega)) ?_
                    refine ok_ltA (fun x18 => ?_)
                    refine ok_ltI (av_mul tn_3 iy9 (by omega) (by omega)) (fun x19 ix19 => ?_)
                    refine ok_ltI (av_add iy16 ix19 (by omega) (by omega)) (fun x20 ix20 => ?_)
                    refine ok_chk (nxg (g_n (i := 145) (n := 16) ts11_2 (by decide) rfl) ix20 (by omega) (by omega)) ?_
                    refine ok_ltA (fun x21 => ?_)
                    refine ok_ltA (fun x22 => ?_)
                    refine ok_ltI (av_add iy16 iy9 (by omega) (by omega)) (fun x23 ix23 => ?_)
                    refine ok_chk (nxg (g_n (i := 145) (n := 16) ts11_2 (by decide) rfl) ix23 (by omega) (by omega)) ?_
                    refine ok_ltA (fun x24 => ?_)
                    refine ok_ltI (av_mul tn_2 iy9 (by omega) (by omega)) (fun x25 ix25 => ?_)
                    refine ok_ltI (av_add iy16 ix25 (by omega) (by omega)) (fun x26 ix26 => ?_)
                    refine ok_chk (nxg (g_n (i := 145) (n := 16) ts11_2 (by decide) rfl) ix26 (by omega) (by omega)) ?_
                    refine ok_ltA (fun x27 => ?_)
                    refine ok_ltA (fun x28 => ?_)
                    refine ok_ltI (av_add iy16 iy9 (by omega) (by omega)) (fun x29 ix29 => ?_)
                    refine ok_chk (nxg (g_n (i := 145) (n := 16) ts11_2 (by decide) rfl) ix29 (by omega) (by omega)) ?_
                    refine ok_ltA (fun x30 => ?_)
                    refine ok_ltI (av_mul tn_2 iy9 (by omega) (by omega)) (fun x31 ix31 => ?_)
                    refine ok_ltI (av_add iy16 ix31 (by omega) (by omega)) (fun x32 ix32 => ?_)
                    refine ok_chk (nxg (g_n (i := 145) (n := 16) ts11_2 (by decide) rfl) ix32 (by omega) (by omega)) ?_
                    refine ok_ltA (fun x33 => ?_)
                    refine ok_ltA (fun x34 => ?_)
                    refine ok_chk (nxg (g_n (i := 145) (n := 16) ts11_2 (by decide) rfl) iy16 (by omega) (by omega)) ?_
                    refine ok_ltA (fun x35 => ?_)
                    refine ok_ltI (av_mul tn_3 iy9 (by omega) (by omega)) (fun x36 ix36 => ?_)
                    refine ok_ltI (av_add iy16 ix36 (by omega) (by omega)) (fun x37 ix37 => ?_)
                    refine ok_chk (nxg (g_n (i := 145) (n := 16) ts11_2 (by decide) rfl) ix37 (by omega) (by omega)) ?_
                    refine ok_ltA (fun x38 => ?_)
                    refine ok_ltA (fun x39 => ?_)
                    refine ok_ltA (fun x40 => ?_)
                    refine ok_chk (nxg (g_n (i := 145) (n := 16) ts11_2 (by decide) rfl) iy16 (by omega) (by omega)) ?_
                    refine ok_ltt (fun M41 eM41 => ?_)
                    have tM41 : TT G M41 p w L := by rw [eM41]; exact (tt_w0 ts11_2 rfl)
                    have fM41 : Fr p [2] M M41 := by rw [eM41]; exact (fr_w fs11_2 rfl)
                    clear eM41
                    refine ok_ltI (av_add iy16 iy9 (by omega) (by omega)) (fun x42 ix42 => ?_)
                    refine ok_ltA (fun x43 => ?_)
                    refine ok_ltA (fun x44 => ?_)
                    refine ok_dr (f_r (b := 145) tM41 rfl (by decide)) (g_lt tM41 (by decide)) (g_k tM41 (by decide) rfl) ?_
                    refine ok_chk (nxg (g_n (i := 145) (n := 16) tM41 (by decide) rfl) ix42 (by omega) (by omega)) ?_
                    refine ok_ltt (fun M46 eM46 => ?_)
                    have tM46 : TT G M46 p w L := by rw [eM46]; exact (tt_w0 tM41 rfl)
                    have fM46 : Fr p [2] M M46 := by rw [eM46]; exact (fr_w fM41 rfl)
                    clear eM46
                    refine ok_ltI (av_mul tn_2 iy9 (by omega) (by omega)) (fun x47 ix47 => ?_)
                    refine ok_ltI (av_add iy16 ix47 (by omega) (by omega)) (fun x48 ix48 => ?_)
                    refine ok_ltA (fun x49 => ?_)
                    refine ok_dr (f_r (b := 145) tM46 rfl (by decide)) (g_lt tM46 (by decide)) (g_k tM46 (by decide) rfl) ?_
                    refine ok_chk (nxg (g_n (i := 145) (n := 16) tM46 (by decide) rfl) ix48 (by omega) (by omega)) ?_
                    refine ok_ltt (fun M51 eM51 => ?_)
                    have tM51 : TT G M51 p w L := by rw [eM51]; exact (tt_w0 tM46 rfl)
                    have fM51 : Fr p [2] M M51 := by rw [eM51]; exact (fr_w fM46 rfl)
                    clear eM51
                    refine ok_ltI (av_mul tn_3 iy9 (by omega) (by omega)) (fun x52 ix52 => ?_)
                    refine ok_ltI (av_add iy16 ix52 (by omega) (by omega)) (fun x53 ix53 => ?_)
                    refine ok_ltA (fun x54 => ?_)
                    refine ok_ltA (fun x55 => ?_)
                    refine ok_dr (f_r (b := 145) tM51 rfl (by decide)) (g_lt tM51 (by decide)) (g_k tM51 (by decide) rfl) ?_
                    refine ok_chk (nxg (g_n (i := 145) (n := 16) tM51 (by decide) rfl) ix53 (by omega) (by omega)) ?_
                    refine ok_ltt (fun M57 eM57 => ?_)
                    have tM57 : TT G M57 p w L := by rw [eM57]; exact (tt_w0 tM51 rfl)
                    have fM57 : Fr p [2] M M57 := by rw [eM57]; exact (fr_w fM51 rfl)
                    clear eM57
                    refine ok_ltI (av_add is11_1 tn_1 (by omega) (by omega)) (fun x58 ix58 => ?_)
                    exact ok_some ⟨⟨(ti_bd ix58 (by omega) (by omega)), tM57, fM57⟩, (mu_up ix58 (by omega) (by omega))⟩
              · exact ⟨(ti_bd tn_0 (by omega) (by omega)), ts5_2, fs5_2⟩
              · exact mu_0 tn_0 (by omega)
              · intro y10 hyy10
                obtain ⟨ly10_1, ty10_2, fy10_2⟩ := hyy10
                have iy10_1 : TI y10.1 y10.1.toInt := rfl
                refine ok_ltI (av_add is5_1 tn_1 (by omega) (by omega)) (fun x13 ix13 => ?_)
                exact ok_some ⟨⟨(ti_bd ix13 (by omega) (by omega)), ty10_2, fy10_2⟩, (mu_up ix13 (by omega) (by omega))⟩
        · exact ⟨(ti_bd tn_0 (by omega) (by omega)), ty1_2, fy1_2⟩
        · exact mu_0 tn_0 (by omega)
        · intro y4 hyy4
          obtain ⟨ly4_1, ty4_2, fy4_2⟩ := hyy4
          have iy4_1 : TI y4.1 y4.1.toInt := rfl
          exact ok_some ⟨ty4_2, fy4_2⟩
    · refine ok_bnd (Q := fun (z : Int32 × DD) => (0 ≤ z.1.toInt ∧ z.1.toInt ≤ 16) ∧ TT G z.2 p w L ∧ Fr p [2] M z.2) (ok_itr (fun (z : Int32 × DD) => (0 ≤ z.1.toInt ∧ z.1.toInt ≤ 16) ∧ TT G z.2 p w L ∧ Fr p [2] M z.2) (fun z => (16 - z.1.toInt).toNat) ?_ _ _ ?_ ?_) ?_
      · intro s2 hys2
        obtain ⟨ls2_1, ts2_2, fs2_2⟩ := hys2
        have is2_1 : TI s2.1 s2.1.toInt := rfl
        refine ok_if (fun c1 => ?_) (fun c1 => ?_)
        · have dc1 := tl_le tn_16 is2_1 c1
          exact ok_some ⟨(ti_bd is2_1 (by omega) (by omega)), ts2_2, fs2_2⟩
        · have dc1 := tl_nle tn_16 is2_1 c1
          refine ok_ltI (av_div is2_1 tn_4 (by omega) (by omega)) (fun x64 ix64 => ?_)
          refine ok_ltI (av_mul ix64 i2 (by omega) (by omega)) (fun x65 ix65 => ?_)
          refine ok_ltI (av_add i1 ix65 (by omega) (by omega)) (fun x66 ix66 => ?_)
          refine ok_ltI (av_mod is2_1 tn_4 (by omega) (by omega)) (fun x67 ix67 => ?_)
          refine ok_ltI (av_add ix66 ix67 (by omega) (by omega)) (fun x68 ix68 => ?_)
          refine ok_dr rfl (g_lt ts2_2 hc0.2) (gk_src ts2_2 hc0) ?_
          refine ok_chk (nxi hn0 ix68 (by omega) (by omega)) ?_
          refine ok_ltA (fun x70 => ?_)
          refine ok_ltI (av_div is2_1 tn_4 (by omega) (by omega)) (fun x71 ix71 => ?_)
          refine ok_ltI (av_mul ix71 i4 (by omega) (by omega)) (fun x72 ix72 => ?_)
          refine ok_ltI (av_add i3 ix72 (by omega) (by omega)) (fun x73 ix73 => ?_)
          refine ok_ltI (av_mod is2_1 tn_4 (by omega) (by omega)) (fun x74 ix74 => ?_)
          refine ok_ltI (av_add ix73 ix74 (by omega) (by omega)) (fun x75 ix75 => ?_)
          refine ok_dr (f_r (b := 139) ts2_2 rfl (by decide)) (g_lt ts2_2 (by decide)) (g_k ts2_2 (by decide) rfl) ?_
          refine ok_chk (nxg (g_n (i := 139) (n := 384) ts2_2 (by decide) rfl) ix75 (by omega) (by omega)) ?_
          refine ok_ltA (fun x77 => ?_)
          refine ok_ltA (fun x78 => ?_)
          refine ok_dr (f_r (b := 145) ts2_2 rfl (by decide)) (g_lt ts2_2 (by decide)) (g_k ts2_2 (by decide) rfl) ?_
          refine ok_chk (nxg (g_n (i := 145) (n := 16) ts2_2 (by decide) rfl) is2_1 (by omega) (by omega)) ?_
          refine ok_ltt (fun M80 eM80 => ?_)
          have tM80 : TT G M80 p w L := by rw [eM80]; exact (tt_w0 ts2_2 rfl)
          have fM80 : Fr p [2] M M80 := by rw [eM80]; exact (fr_w fs2_2 rfl)
          clear eM80
          refine ok_ltI (av_add is2_1 tn_1 (by omega) (by omega)) (fun x81 ix81 => ?_)
          exact ok_some ⟨⟨(ti_bd ix81 (by omega) (by omega)), tM80, fM80⟩, (mu_up ix81 (by omega) (by omega))⟩
      · exact ⟨(ti_bd tn_0 (by omega) (by omega)), t, (fr_0 p [2] M)⟩
      · exact mu_0 tn_0 (by omega)
      · intro y1 hyy1
        obtain ⟨ly1_1, ty1_2, fy1_2⟩ := hyy1
        have iy1_1 : TI y1.1 y1.1.toInt := rfl
        refine ok_bnd (Q := fun (z : Int32 × DD) => (0 ≤ z.1.toInt ∧ z.1.toInt ≤ 2) ∧ TT G z.2 p w L ∧ Fr p [2] M z.2) (ok_itr (fun (z : Int32 × DD) => (0 ≤ z.1.toInt ∧ z.1.toInt ≤ 2) ∧ TT G z.2 p w L ∧ Fr p [2] M z.2) (fun z => (2 - z.1.toInt).toNat) ?_ _ _ ?_ ?_) ?_
        · intro s5 hys5
          obtain ⟨ls5_1, ts5_2, fs5_2⟩ := hys5
          have is5_1 : TI s5.1 s5.1.toInt := rfl
          refine ok_if (fun c2 => ?_) (fun c2 => ?_)
          · have dc2 := tl_le tn_2 is5_1 c2
            exact ok_some ⟨(ti_bd is5_1 (by omega) (by omega)), ts5_2, fs5_2⟩
          · have dc2 := tl_nle tn_2 is5_1 c2
            refine ok_bnd (Q := fun (z : Int32) => (1 ≤ z.toInt ∧ z.toInt ≤ 4) ∧ ((s5.1.toInt = 0 → z.toInt = 1) ∧ (s5.1.toInt ≠ 0 → z.toInt = 4))) ?_ ?_
            · refine ok_if (fun c3 => ?_) (fun c3 => ?_)
              · have dc3 := tl_eq is5_1 tn_0 c3
                exact ok_some ⟨(ti_bd tn_1 (by omega) (by omega)), (by have q : _ = _ := tn_1; (try dsimp only); omega)⟩
              · have dc3 := tl_ne is5_1 tn_0 c3
                exact ok_some ⟨(ti_bd tn_4 (by omega) (by omega)), (by have q : _ = _ := tn_4; (try dsimp only); omega)⟩
            · intro y9 hyy9
              obtain ⟨ly9, jy9⟩ := hyy9
              have iy9 : TI y9 y9.toInt := rfl
              refine ok_bnd (Q := fun (z : Int32 × DD) => (0 ≤ z.1.toInt ∧ z.1.toInt ≤ 4) ∧ TT G z.2 p w L ∧ Fr p [2] M z.2) (ok_itr (fun (z : Int32 × DD) => (0 ≤ z.1.toInt ∧ z.1.toInt ≤ 4) ∧ TT G z.2 p w L ∧ Fr p [2] M z.2) (fun z => (4 - z.1.toInt).toNat) ?_ _ _ ?_ ?_) ?_
              · intro s11 hys11
                obtain ⟨ls11_1, ts11_2, fs11_2⟩ := hys11
                have is11_1 : TI s11.1 s11.1.toInt := rfl
                refine ok_if (fun c4 => ?_) (fun c4 => ?_)
                · have dc4 := tl_le tn_4 is11_1 c4
                  exact ok_some ⟨(ti_bd is11_1 (by omega) (by omega)), ts11_2, fs11_2⟩
                · have dc4 := tl_nle tn_4 is11_1 c4
                  refine ok_bnd (Q := fun (z : Int32) => (0 ≤ z.toInt ∧ z.toInt ≤ 12) ∧ ((s5.1.toInt = 0 → z.toInt = 4 * s11.1.toInt) ∧ (s5.1.toInt ≠ 0 → z.toInt = s11.1.toInt))) ?_ ?_
                  · refine ok_if (fun c5 => ?_) (fun c5 => ?_)
                    · have dc5 := tl_eq is5_1 tn_0 c5
                      refine ok_ltI (av_mul tn_4 is11_1 (by omega) (by omega)) (fun x60 ix60 => ?_)
                      exact ok_some ⟨(ti_bd ix60 (by omega) (by omega)), (by have q : _ = _ := ix60; (try dsimp only); omega)⟩
                    · have dc5 := tl_ne is5_1 tn_0 c5
                      exact ok_some ⟨(ti_bd is11_1 (by omega) (by omega)), (by have q : _ = _ := is11_1; (try dsimp only); omega)⟩
                  · intro y16 hyy16
                    obtain ⟨ly16, jy16⟩ := hyy16
                    have iy16 : TI y16 y16.toInt := rfl
                    refine ok_dr (f_r (b := 145) ts11_2 rfl (by decide)) (g_lt ts11_2 (by decide)) (g_k ts11_2 (by decide) rfl) ?_
                    refine ok_chk (nxg (g_n (i := 145) (n := 16) ts11_2 (by decide) rfl) iy16 (by omega) (by omega)) ?_
                    refine ok_ltA (fun x18 => ?_)
                    refine ok_ltI (av_mul tn_3 iy9 (by omega) (by omega)) (fun x19 ix19 => ?_)
                    refine ok_ltI (av_add iy16 ix19 (by omega) (by omega)) (fun x20 ix20 => ?_)
                    refine ok_chk (nxg (g_n (i := 145) (n := 16) ts11_2 (by decide) rfl) ix20 (by omega) (by omega)) ?_
                    refine ok_ltA (fun x21 => ?_)
                    refine ok_ltA (fun x22 => ?_)
                    refine ok_ltI (av_add iy16 iy9 (by omega) (by omega)) (fun x23 ix23 => ?_)
                    refine ok_chk (nxg (g_n (i := 145) (n := 16) ts11_2 (by decide) rfl) ix23 (by omega) (by omega)) ?_
                    refine ok_ltA (fun x24 => ?_)
                    refine ok_ltI (av_mul tn_2 iy9 (by omega) (by omega)) (fun x25 ix25 => ?_)
                    refine ok_ltI (av_add iy16 ix25 (by omega) (by omega)) (fun x26 ix26 => ?_)
                    refine ok_chk (nxg (g_n (i := 145) (n := 16) ts11_2 (by decide) rfl) ix26 (by omega) (by omega)) ?_
                    refine ok_ltA (fun x27 => ?_)
                    refine ok_ltA (fun x28 => ?_)
                    refine ok_ltI (av_add iy16 iy9 (by omega) (by omega)) (fun x29 ix29 => ?_)
                    refine ok_chk (nxg (g_n (i := 145) (n := 16) ts11_2 (by decide) rfl) ix29 (by omega) (by omega)) ?_
                    refine ok_ltA (fun x30 => ?_)
                    refine ok_ltI (av_mul tn_2 iy9 (by omega) (by omega)) (fun x31 ix31 => ?_)
                    refine ok_ltI (av_add iy16 ix31 (by omega) (by omega)) (fun x32 ix32 => ?_)
                    refine ok_chk (nxg (g_n (i := 145) (n := 16) ts11_2 (by decide) rfl) ix32 (by omega) (by omega)) ?_
                    refine ok_ltA (fun x33 => ?_)
                    refine ok_ltA (fun x34 => ?_)
                    refine ok_chk (nxg (g_n (i := 145) (n := 16) ts11_2 (by decide) rfl) iy16 (by omega) (by omega)) ?_
                    refine ok_ltA (fun x35 => ?_)
                    refine ok_ltI (av_mul tn_3 iy9 (by omega) (by omega)) (fun x36 ix36 => ?_)
                    refine ok_ltI (av_add iy16 ix36 (by omega) (by omega)) (fun x37 ix37 => ?_)
                    refine ok_chk (nxg (g_n (i := 145) (n := 16) ts11_2 (by decide) rfl) ix37 (by omega) (by omega)) ?_
                    refine ok_ltA (fun x38 => ?_)
                    refine ok_ltA (fun x39 => ?_)
                    refine ok_ltA (fun x40 => ?_)
                    refine ok_chk (nxg (g_n (i := 145) (n := 16) ts11_2 (by decide) rfl) iy16 (by omega) (by omega)) ?_
                    refine ok_ltt (fun M41 eM41 => ?_)
                    have tM41 : TT G M41 p w L := by rw [eM41]; exact (tt_w0 ts11_2 rfl)
                    have fM41 : Fr p [2] M M41 := by rw [eM41]; exact (fr_w fs11_2 rfl)
                    clear eM41
                    refine ok_ltI (av_add iy16 iy9 (by omega) (by omega)) (fun x42 ix42 => ?_)
                    refine ok_ltA (fun x43 => ?_)
                    refine ok_ltA (fun x44 => ?_)
                    refine ok_dr (f_r (b := 145) tM41 rfl (by decide)) (g_lt tM41 (by decide)) (g_k tM41 (by decide) rfl) ?_
                    refine ok_chk (nxg (g_n (i := 145) (n := 16) tM41 (by decide) rfl) ix42 (by omega) (by omega)) ?_
                    refine ok_ltt (fun M46 eM46 => ?_)
                    have tM46 : TT G M46 p w L := by rw [eM46]; exact (tt_w0 tM41 rfl)
                    have fM46 : Fr p [2] M M46 := by rw [eM46]; exact (fr_w fM41 rfl)
                    clear eM46
                    refine ok_ltI (av_mul tn_2 iy9 (by omega) (by omega)) (fun x47 ix47 => ?_)
                    refine ok_ltI (av_add iy16 ix47 (by omega) (by omega)) (fun x48 ix48 => ?_)
                    refine ok_ltA (fun x49 => ?_)
                    refine ok_dr (f_r (b := 145) tM46 rfl (by decide)) (g_lt tM46 (by decide)) (g_k tM46 (by decide) rfl) ?_
                    refine ok_chk (nxg (g_n (i := 145) (n := 16) tM46 (by decide) rfl) ix48 (by omega) (by omega)) ?_
                    refine ok_ltt (fun M51 eM51 => ?_)
                    have tM51 : TT G M51 p w L := by rw [eM51]; exact (tt_w0 tM46 rfl)
                    have fM51 : Fr p [2] M M51 := by rw [eM51]; exact (fr_w fM46 rfl)
                    clear eM51
                    refine ok_ltI (av_mul tn_3 iy9 (by omega) (by omega)) (fun x52 ix52 => ?_)
                    refine ok_ltI (av_add iy16 ix52 (by omega) (by omega)) (fun x53 ix53 => ?_)
                    refine ok_ltA (fun x54 => ?_)
                    refine ok_ltA (fun x55 => ?_)
                    refine ok_dr (f_r (b := 145) tM51 rfl (by decide)) (g_lt tM51 (by decide)) (g_k tM51 (by decide) rfl) ?_
                    refine ok_chk (nxg (g_n (i := 145) (n := 16) tM51 (by decide) rfl) ix53 (by omega) (by omega)) ?_
                    refine ok_ltt (fun M57 eM57 => ?_)
                    have tM57 : TT G M57 p w L := by rw [eM57]; exact (tt_w0 tM51 rfl)
                    have fM57 : Fr p [2] M M57 := by rw [eM57]; exact (fr_w fM51 rfl)
                    clear eM57
                    refine ok_ltI (av_add is11_1 tn_1 (by omega) (by omega)) (fun x58 ix58 => ?_)
                    exact ok_some ⟨⟨(ti_bd ix58 (by omega) (by omega)), tM57, fM57⟩, (mu_up ix58 (by omega) (by omega))⟩
              · exact ⟨(ti_bd tn_0 (by omega) (by omega)), ts5_2, fs5_2⟩
              · exact mu_0 tn_0 (by omega)
              · intro y10 hyy10
                obtain ⟨ly10_1, ty10_2, fy10_2⟩ := hyy10
                have iy10_1 : TI y10.1 y10.1.toInt := rfl
                refine ok_ltI (av_add is5_1 tn_1 (by omega) (by omega)) (fun x13 ix13 => ?_)
                exact ok_some ⟨⟨(ti_bd ix13 (by omega) (by omega)), ty10_2, fy10_2⟩, (mu_up ix13 (by omega) (by omega))⟩
        · exact ⟨(ti_bd tn_0 (by omega) (by omega)), ty1_2, fy1_2⟩
        · exact mu_0 tn_0 (by omega)
        · intro y4 hyy4
          obtain ⟨ly4_1, ty4_2, fy4_2⟩ := hyy4
          have iy4_1 : TI y4.1 y4.1.toInt := rfl
          exact ok_some ⟨ty4_2, fy4_2⟩
  · rcases h6 with rfl | rfl
    · refine ok_bnd (Q := fun (z : Int32 × DD) => (0 ≤ z.1.toInt ∧ z.1.toInt ≤ 16) ∧ TT G z.2 p w L ∧ Fr p [2] M z.2) (ok_itr (fun (z : Int32 × DD) => (0 ≤ z.1.toInt ∧ z.1.toInt ≤ 16) ∧ TT G z.2 p w L ∧ Fr p [2] M z.2) (fun z => (16 - z.1.toInt).toNat) ?_ _ _ ?_ ?_) ?_
      · intro s2 hys2
        obtain ⟨ls2_1, ts2_2, fs2_2⟩ := hys2
        have is2_1 : TI s2.1 s2.1.toInt := rfl
        refine ok_if (fun c1 => ?_) (fun c1 => ?_)
        · have dc1 := tl_le tn_16 is2_1 c1
          exact ok_some ⟨(ti_bd is2_1 (by omega) (by omega)), ts2_2, fs2_2⟩
        · have dc1 := tl_nle tn_16 is2_1 c1
          refine ok_ltI (av_div is2_1 tn_4 (by omega) (by omega)) (fun x64 ix64 => ?_)
          refine ok_ltI (av_mul ix64 i2 (by omega) (by omega)) (fun x65 ix65 => ?_)
          refine ok_ltI (av_add i1 ix65 (by omega) (by omega)) (fun x66 ix66 => ?_)
          refine ok_ltI (av_mod is2_1 tn_4 (by omega) (by omega)) (fun x67 ix67 => ?_)
          refine ok_ltI (av_add ix66 ix67 (by omega) (by omega)) (fun x68 ix68 => ?_)
          refine ok_dr rfl (g_lt ts2_2 hc0.2) (gk_src ts2_2 hc0) ?_
          refine ok_chk (nxi hn0 ix68 (by omega) (by omega)) ?_
          refine ok_ltA (fun x70 => ?_)
          refine ok_ltI (av_div is2_1 tn_4 (by omega) (by omega)) (fun x71 ix71 => ?_)
          refine ok_ltI (av_mul ix71 i4 (by omega) (by omega)) (fun x72 ix72 => ?_)
          refine ok_ltI (av_add i3 ix72 (by omega) (by omega)) (fun x73 ix73 => ?_)
          refine ok_ltI (av_mod is2_1 tn_4 (by omega) (by omega)) (fun x74 ix74 => ?_)
          refine ok_ltI (av_add ix73 ix74 (by omega) (by omega)) (fun x75 ix75 => ?_)
          refine ok_dr (f_r (b := 139) ts2_2 rfl (by decide)) (g_lt ts2_2 (by decide)) (g_k ts2_2 (by decide) rfl) ?_
          refine ok_chk (nxg (g_n (i := 139) (n := 384) ts2_2 (by decide) rfl) ix75 (by omega) (by omega)) ?_
          refine ok_ltA (fun x77 => ?_)
          refine ok_ltA (fun x78 => ?_)
          refine ok_dr (f_r (b := 145) ts2_2 rfl (by decide)) (g_lt ts2_2 (by decide)) (g_k ts2_2 (by decide) rfl) ?_
          refine ok_chk (nxg (g_n (i := 145) (n := 16) ts2_2 (by decide) rfl) is2_1 (by omega) (by omega)) ?_
          refine ok_ltt (fun M80 eM80 => ?_)
          have tM80 : TT G M80 p w L := by rw [eM80]; exact (tt_w0 ts2_2 rfl)
          have fM80 : Fr p [2] M M80 := by rw [eM80]; exact (fr_w fs2_2 rfl)
          clear eM80
          refine ok_ltI (av_add is2_1 tn_1 (by omega) (by omega)) (fun x81 ix81 => ?_)
          exact ok_some ⟨⟨(ti_bd ix81 (by omega) (by omega)), tM80, fM80⟩, (mu_up ix81 (by omega) (by omega))⟩
      · exact ⟨(ti_bd tn_0 (by omega) (by omega)), t, (fr_0 p [2] M)⟩
      · exact mu_0 tn_0 (by omega)
      · intro y1 hyy1
        obtain ⟨ly1_1, ty1_2, fy1_2⟩ := hyy1
        have iy1_1 : TI y1.1 y1.1.toInt := rfl
        refine ok_bnd (Q := fun (z : Int32 × DD) => (0 ≤ z.1.toInt ∧ z.1.toInt ≤ 2) ∧ TT G z.2 p w L ∧ Fr p [2] M z.2) (ok_itr (fun (z : Int32 × DD) => (0 ≤ z.1.toInt ∧ z.1.toInt ≤ 2) ∧ TT G z.2 p w L ∧ Fr p [2] M z.2) (fun z => (2 - z.1.toInt).toNat) ?_ _ _ ?_ ?_) ?_
        · intro s5 hys5
          obtain ⟨ls5_1, ts5_2, fs5_2⟩ := hys5
          have is5_1 : TI s5.1 s5.1.toInt := rfl
          refine ok_if (fun c2 => ?_) (fun c2 => ?_)
          · have dc2 := tl_le tn_2 is5_1 c2
            exact ok_some ⟨(ti_bd is5_1 (by omega) (by omega)), ts5_2, fs5_2⟩
          · have dc2 := tl_nle tn_2 is5_1 c2
            refine ok_bnd (Q := fun (z : Int32) => (1 ≤ z.toInt ∧ z.toInt ≤ 4) ∧ ((s5.1.toInt = 0 → z.toInt = 1) ∧ (s5.1.toInt ≠ 0 → z.toInt = 4))) ?_ ?_
            · refine ok_if (fun c3 => ?_) (fun c3 => ?_)
              · have dc3 := tl_eq is5_1 tn_0 c3
                exact ok_some ⟨(ti_bd tn_1 (by omega) (by omega)), (by have q : _ = _ := tn_1; (try dsimp only); omega)⟩
              · have dc3 := tl_ne is5_1 tn_0 c3
                exact ok_some ⟨(ti_bd tn_4 (by omega) (by omega)), (by have q : _ = _ := tn_4; (try dsimp only); omega)⟩
            · intro y9 hyy9
              obtain ⟨ly9, jy9⟩ := hyy9
              have iy9 : TI y9 y9.toInt := rfl
              refine ok_bnd (Q := fun (z : Int32 × DD) => (0 ≤ z.1.toInt ∧ z.1.toInt ≤ 4) ∧ TT G z.2 p w L ∧ Fr p [2] M z.2) (ok_itr (fun (z : Int32 × DD) => (0 ≤ z.1.toInt ∧ z.1.toInt ≤ 4) ∧ TT G z.2 p w L ∧ Fr p [2] M z.2) (fun z => (4 - z.1.toInt).toNat) ?_ _ _ ?_ ?_) ?_
              · intro s11 hys11
                obtain ⟨ls11_1, ts11_2, fs11_2⟩ := hys11
                have is11_1 : TI s11.1 s11.1.toInt := rfl
                refine ok_if (fun c4 => ?_) (fun c4 => ?_)
                · have dc4 := tl_le tn_4 is11_1 c4
                  exact ok_some ⟨(ti_bd is11_1 (by omega) (by omega)), ts11_2, fs11_2⟩
                · have dc4 := tl_nle tn_4 is11_1 c4
                  refine ok_bnd (Q := fun (z : Int32) => (0 ≤ z.toInt ∧ z.toInt ≤ 12) ∧ ((s5.1.toInt = 0 → z.toInt = 4 * s11.1.toInt) ∧ (s5.1.toInt ≠ 0 → z.toInt = s11.1.toInt))) ?_ ?_
                  · refine ok_if (fun c5 => ?_) (fun c5 => ?_)
                    · have dc5 := tl_eq is5_1 tn_0 c5
                      refine ok_ltI (av_mul tn_4 is11_1 (by omega) (by omega)) (fun x60 ix60 => ?_)
                      exact ok_some ⟨(ti_bd ix60 (by omega) (by omega)), (by have q : _ = _ := ix60; (try dsimp only); omega)⟩
                    · have dc5 := tl_ne is5_1 tn_0 c5
                      exact ok_some ⟨(ti_bd is11_1 (by omega) (by omega)), (by have q : _ = _ := is11_1; (try dsimp only); omega)⟩
                  · intro y16 hyy16
                    obtain ⟨ly16, jy16⟩ := hyy16
                    have iy16 : TI y16 y16.toInt := rfl
                    refine ok_dr (f_r (b := 145) ts11_2 rfl (by decide)) (g_lt ts11_2 (by decide)) (g_k ts11_2 (by decide) rfl) ?_
                    refine ok_chk (nxg (g_n (i := 145) (n := 16) ts11_2 (by decide) rfl) iy16 (by omega) (by omega)) ?_
                    refine ok_ltA (fun x18 => ?_)
                    refine ok_ltI (av_mul tn_3 iy9 (by omega) (by omega)) (fun x19 ix19 => ?_)
                    refine ok_ltI (av_add iy16 ix19 (by omega) (by omega)) (fun x20 ix20 => ?_)
                    refine ok_chk (nxg (g_n (i := 145) (n := 16) ts11_2 (by decide) rfl) ix20 (by omega) (by omega)) ?_
                    refine ok_ltA (fun x21 => ?_)
                    refine ok_ltA (fun x22 => ?_)
                    refine ok_ltI (av_add iy16 iy9 (by omega) (by omega)) (fun x23 ix23 => ?_)
                    refine ok_chk (nxg (g_n (i := 145) (n := 16) ts11_2 (by decide) rfl) ix23 (by omega) (by omega)) ?_
                    refine ok_ltA (fun x24 => ?_)
                    refine ok_ltI (av_mul tn_2 iy9 (by omega) (by omega)) (fun x25 ix25 => ?_)
                    refine ok_ltI (av_add iy16 ix25 (by omega) (by omega)) (fun x26 ix26 => ?_)
                    refine ok_chk (nxg (g_n (i := 145) (n := 16) ts11_2 (by decide) rfl) ix26 (by omega) (by omega)) ?_
                    refine ok_ltA (fun x27 => ?_)
                    refine ok_ltA (fun x28 => ?_)
                    refine ok_ltI (av_add iy16 iy9 (by omega) (by omega)) (fun x29 ix29 => ?_)
                    refine ok_chk (nxg (g_n (i := 145) (n := 16) ts11_2 (by decide) rfl) ix29 (by omega) (by omega)) ?_
                    refine ok_ltA (fun x30 => ?_)
                    refine ok_ltI (av_mul tn_2 iy9 (by omega) (by omega)) (fun x31 ix31 => ?_)
                    refine ok_ltI (av_add iy16 ix31 (by omega) (by omega)) (fun x32 ix32 => ?_)
                    refine ok_chk (nxg (g_n (i := 145) (n := 16) ts11_2 (by decide) rfl) ix32 (by omega) (by omega)) ?_
                    refine ok_ltA (fun x33 => ?_)
                    refine ok_ltA (fun x34 => ?_)
                    refine ok_chk (nxg (g_n (i := 145) (n := 16) ts11_2 (by decide) rfl) iy16 (by omega) (by omega)) ?_
                    refine ok_ltA (fun x35 => ?_)
                    refine ok_ltI (av_mul tn_3 iy9 (by omega) (by omega)) (fun x36 ix36 => ?_)
                    refine ok_ltI (av_add iy16 ix36 (by omega) (by omega)) (fun x37 ix37 => ?_)
                    refine ok_chk (nxg (g_n (i := 145) (n := 16) ts11_2 (by decide) rfl) ix37 (by omega) (by omega)) ?_
                    refine ok_ltA (fun x38 => ?_)
                    refine ok_ltA (fun x39 => ?_)
                    refine ok_ltA (fun x40 => ?_)
                    refine ok_chk (nxg (g_n (i := 145) (n := 16) ts11_2 (by decide) rfl) iy16 (by omega) (by omega)) ?_
                    refine ok_ltt (fun M41 eM41 => ?_)
                    have tM41 : TT G M41 p w L := by rw [eM41]; exact (tt_w0 ts11_2 rfl)
                    have fM41 : Fr p [2] M M41 := by rw [eM41]; exact (fr_w fs11_2 rfl)
                    clear eM41
                    refine ok_ltI (av_add iy16 iy9 (by omega) (by omega)) (fun x42 ix42 => ?_)
                    refine ok_ltA (fun x43 => ?_)
                    refine ok_ltA (fun x44 => ?_)
                    refine ok_dr (f_r (b := 145) tM41 rfl (by decide)) (g_lt tM41 (by decide)) (g_k tM41 (by decide) rfl) ?_
                    refine ok_chk (nxg (g_n (i := 145) (n := 16) tM41 (by decide) rfl) ix42 (by omega) (by omega)) ?_
                    refine ok_ltt (fun M46 eM46 => ?_)
                    have tM46 : TT G M46 p w L := by rw [eM46]; exact (tt_w0 tM41 rfl)
                    have fM46 : Fr p [2] M M46 := by rw [eM46]; exact (fr_w fM41 rfl)
                    clear eM46
                    refine ok_ltI (av_mul tn_2 iy9 (by omega) (by omega)) (fun x47 ix47 => ?_)
                    refine ok_ltI (av_add iy16 ix47 (by omega) (by omega)) (fun x48 ix48 => ?_)
                    refine ok_ltA (fun x49 => ?_)
                    refine ok_dr (f_r (b := 145) tM46 rfl (by decide)) (g_lt tM46 (by decide)) (g_k tM46 (by decide) rfl) ?_
                    refine ok_chk (nxg (g_n (i := 145) (n := 16) tM46 (by decide) rfl) ix48 (by omega) (by omega)) ?_
                    refine ok_ltt (fun M51 eM51 => ?_)
                    have tM51 : TT G M51 p w L := by rw [eM51]; exact (tt_w0 tM46 rfl)
                    have fM51 : Fr p [2] M M51 := by rw [eM51]; exact (fr_w fM46 rfl)
                    clear eM51
                    refine ok_ltI (av_mul tn_3 iy9 (by omega) (by omega)) (fun x52 ix52 => ?_)
                    refine ok_ltI (av_add iy16 ix52 (by omega) (by omega)) (fun x53 ix53 => ?_)
                    refine ok_ltA (fun x54 => ?_)
                    refine ok_ltA (fun x55 => ?_)
                    refine ok_dr (f_r (b := 145) tM51 rfl (by decide)) (g_lt tM51 (by decide)) (g_k tM51 (by decide) rfl) ?_
                    refine ok_chk (nxg (g_n (i := 145) (n := 16) tM51 (by decide) rfl) ix53 (by omega) (by omega)) ?_
                    refine ok_ltt (fun M57 eM57 => ?_)
                    have tM57 : TT G M57 p w L := by rw [eM57]; exact (tt_w0 tM51 rfl)
                    have fM57 : Fr p [2] M M57 := by rw [eM57]; exact (fr_w fM51 rfl)
                    clear eM57
                    refine ok_ltI (av_add is11_1 tn_1 (by omega) (by omega)) (fun x58 ix58 => ?_)
                    exact ok_some ⟨⟨(ti_bd ix58 (by omega) (by omega)), tM57, fM57⟩, (mu_up ix58 (by omega) (by omega))⟩
              · exact ⟨(ti_bd tn_0 (by omega) (by omega)), ts5_2, fs5_2⟩
              · exact mu_0 tn_0 (by omega)
              · intro y10 hyy10
                obtain ⟨ly10_1, ty10_2, fy10_2⟩ := hyy10
                have iy10_1 : TI y10.1 y10.1.toInt := rfl
                refine ok_ltI (av_add is5_1 tn_1 (by omega) (by omega)) (fun x13 ix13 => ?_)
                exact ok_some ⟨⟨(ti_bd ix13 (by omega) (by omega)), ty10_2, fy10_2⟩, (mu_up ix13 (by omega) (by omega))⟩
        · exact ⟨(ti_bd tn_0 (by omega) (by omega)), ty1_2, fy1_2⟩
        · exact mu_0 tn_0 (by omega)
        · intro y4 hyy4
          obtain ⟨ly4_1, ty4_2, fy4_2⟩ := hyy4
          have iy4_1 : TI y4.1 y4.1.toInt := rfl
          exact ok_some ⟨ty4_2, fy4_2⟩
    · refine ok_bnd (Q := fun (z : Int32 × DD) => (0 ≤ z.1.toInt ∧ z.1.toInt ≤ 16) ∧ TT G z.2 p w L ∧ Fr p [2] M z.2) (ok_itr (fun (z : Int32 × DD) => (0 ≤ z.1.toInt ∧ z.1.toInt ≤ 16) ∧ TT G z.2 p w L ∧ Fr p [2] M z.2) (fun z => (16 - z.1.toInt).toNat) ?_ _ _ ?_ ?_) ?_
      · intro s2 hys2
        obtain ⟨ls2_1, ts2_2, fs2_2⟩ := hys2
        have is2_1 : TI s2.1 s2.1.toInt := rfl
        refine ok_if (fun c1 => ?_) (fun c1 => ?_)
        · have dc1 := tl_le tn_16 is2_1 c1
          exact ok_some ⟨(ti_bd is2_1 (by omega) (by omega)), ts2_2, fs2_2⟩
        · have dc1 := tl_nle tn_16 is2_1 c1
          refine ok_ltI (av_div is2_1 tn_4 (by omega) (by omega)) (fun x64 ix64 => ?_)
          refine ok_ltI (av_mul ix64 i2 (by omega) (by omega)) (fun x65 ix65 => ?_)
          refine ok_ltI (av_add i1 ix65 (by omega) (by omega)) (fun x66 ix66 => ?_)
          refine ok_ltI (av_mod is2_1 tn_4 (by omega) (by omega)) (fun x67 ix67 => ?_)
          refine ok_ltI (av_add ix66 ix67 (by omega) (by omega)) (fun x68 ix68 => ?_)
          refine ok_dr rfl (g_lt ts2_2 hc0.2) (gk_src ts2_2 hc0) ?_
          refine ok_chk (nxi hn0 ix68 (by omega) (by omega)) ?_
          refine ok_ltA (fun x70 => ?_)
          refine ok_ltI (av_div is2_1 tn_4 (by omega) (by omega)) (fun x71 ix71 => ?_)
          refine ok_ltI (av_mul ix71 i4 (by omega) (by omega)) (fun x72 ix72 => ?_)
          refine ok_ltI (av_add i3 ix72 (by omega) (by omega)) (fun x73 ix73 => ?_)
          refine ok_ltI (av_mod is2_1 tn_4 (by omega) (by omega)) (fun x74 ix74 => ?_)
          refine ok_ltI (av_add ix73 ix74 (by omega) (by omega)) (fun x75 ix75 => ?_)
          refine ok_dr (f_r (b := 139) ts2_2 rfl (by decide)) (g_lt ts2_2 (by decide)) (g_k ts2_2 (by decide) rfl) ?_
          refine ok_chk (nxg (g_n (i := 139) (n := 384) ts2_2 (by decide) rfl) ix75 (by omega) (by omega)) ?_
          refine ok_ltA (fun x77 => ?_)
          refine ok_ltA (fun x78 => ?_)
          refine ok_dr (f_r (b := 145) ts2_2 rfl (by decide)) (g_lt ts2_2 (by decide)) (g_k ts2_2 (by decide) rfl) ?_
          refine ok_chk (nxg (g_n (i := 145) (n := 16) ts2_2 (by decide) rfl) is2_1 (by omega) (by omega)) ?_
          refine ok_ltt (fun M80 eM80 => ?_)
          have tM80 : TT G M80 p w L := by rw [eM80]; exact (tt_w0 ts2_2 rfl)
          have fM80 : Fr p [2] M M80 := by rw [eM80]; exact (fr_w fs2_2 rfl)
          clear eM80
          refine ok_ltI (av_add is2_1 tn_1 (by omega) (by omega)) (fun x81 ix81 => ?_)
          exact ok_some ⟨⟨(ti_bd ix81 (by omega) (by omega)), tM80, fM80⟩, (mu_up ix81 (by omega) (by omega))⟩
      · exact ⟨(ti_bd tn_0 (by omega) (by omega)), t, (fr_0 p [2] M)⟩
      · exact mu_0 tn_0 (by omega)
      · intro y1 hyy1
        obtain ⟨ly1_1, ty1_2, fy1_2⟩ := hyy1
        have iy1_1 : TI y1.1 y1.1.toInt := rfl
        refine ok_bnd (Q := fun (z : Int32 × DD) => (0 ≤ z.1.toInt ∧ z.1.toInt ≤ 2) ∧ TT G z.2 p w L ∧ Fr p [2] M z.2) (ok_itr (fun (z : Int32 × DD) => (0 ≤ z.1.toInt ∧ z.1.toInt ≤ 2) ∧ TT G z.2 p w L ∧ Fr p [2] M z.2) (fun z => (2 - z.1.toInt).toNat) ?_ _ _ ?_ ?_) ?_
        · intro s5 hys5
          obtain ⟨ls5_1, ts5_2, fs5_2⟩ := hys5
          have is5_1 : TI s5.1 s5.1.toInt := rfl
          refine ok_if (fun c2 => ?_) (fun c2 => ?_)
          · have dc2 := tl_le tn_2 is5_1 c2
            exact ok_some ⟨(ti_bd is5_1 (by omega) (by omega)), ts5_2, fs5_2⟩
          · have dc2 := tl_nle tn_2 is5_1 c2
            refine ok_bnd (Q := fun (z : Int32) => (1 ≤ z.toInt ∧ z.toInt ≤ 4) ∧ ((s5.1.toInt = 0 → z.toInt = 1) ∧ (s5.1.toInt ≠ 0 → z.toInt = 4))) ?_ ?_
            · refine ok_if (fun c3 => ?_) (fun c3 => ?_)
              · have dc3 := tl_eq is5_1 tn_0 c3
                exact ok_some ⟨(ti_bd tn_1 (by omega) (by omega)), (by have q : _ = _ := tn_1; (try dsimp only); omega)⟩
              · have dc3 := tl_ne is5_1 tn_0 c3
                exact ok_some ⟨(ti_bd tn_4 (by omega) (by omega)), (by have q : _ = _ := tn_4; (try dsimp only); omega)⟩
            · intro y9 hyy9
              obtain ⟨ly9, jy9⟩ := hyy9
              have iy9 : TI y9 y9.toInt := rfl
              refine ok_bnd (Q := fun (z : Int32 × DD) => (0 ≤ z.1.toInt ∧ z.1.toInt ≤ 4) ∧ TT G z.2 p w L ∧ Fr p [2] M z.2) (ok_itr (fun (z : Int32 × DD) => (0 ≤ z.1.toInt ∧ z.1.toInt ≤ 4) ∧ TT G z.2 p w L ∧ Fr p [2] M z.2) (fun z => (4 - z.1.toInt).toNat) ?_ _ _ ?_ ?_) ?_
              · intro s11 hys11
                obtain ⟨ls11_1, ts11_2, fs11_2⟩ := hys11
                have is11_1 : TI s11.1 s11.1.toInt := rfl
                refine ok_if (fun c4 => ?_) (fun c4 => ?_)
                · have dc4 := tl_le tn_4 is11_1 c4
                  exact ok_some ⟨(ti_bd is11_1 (by omega) (by omega)), ts11_2, fs11_2⟩
                · have dc4 := tl_nle tn_4 is11_1 c4
                  refine ok_bnd (Q := fun (z : Int32) => (0 ≤ z.toInt ∧ z.toInt ≤ 12) ∧ ((s5.1.toInt = 0 → z.toInt = 4 * s11.1.toInt) ∧ (s5.1.toInt ≠ 0 → z.toInt = s11.1.toInt))) ?_ ?_
                  · refine ok_if (fun c5 => ?_) (fun c5 => ?_)
                    · have dc5 := tl_eq is5_1 tn_0 c5
                      refine ok_ltI (av_mul tn_4 is11_1 (by omega) (by omega)) (fun x60 ix60 => ?_)
                      exact ok_some ⟨(ti_bd ix60 (by omega) (by omega)), (by have q : _ = _ := ix60; (try dsimp only); omega)⟩
                    · have dc5 := tl_ne is5_1 tn_0 c5
                      exact ok_some ⟨(ti_bd is11_1 (by omega) (by omega)), (by have q : _ = _ := is11_1; (try dsimp only); omega)⟩
                  · intro y16 hyy16
                    obtain ⟨ly16, jy16⟩ := hyy16
                    have iy16 : TI y16 y16.toInt := rfl
                    refine ok_dr (f_r (b := 145) ts11_2 rfl (by decide)) (g_lt ts11_2 (by decide)) (g_k ts11_2 (by decide) rfl) ?_
                    refine ok_chk (nxg (g_n (i := 145) (n := 16) ts11_2 (by decide) rfl) iy16 (by omega) (by omega)) ?_
                    refine ok_ltA (fun x18 => ?_)
                    refine ok_ltI (av_mul tn_3 iy9 (by omega) (by omega)) (fun x19 ix19 => ?_)
                    refine ok_ltI (av_add iy16 ix19 (by omega) (by omega)) (fun x20 ix20 => ?_)
                    refine ok_chk (nxg (g_n (i := 145) (n := 16) ts11_2 (by decide) rfl) ix20 (by omega) (by omega)) ?_
                    refine ok_ltA (fun x21 => ?_)
                    refine ok_ltA (fun x22 => ?_)
                    refine ok_ltI (av_add iy16 iy9 (by omega) (by omega)) (fun x23 ix23 => ?_)
                    refine ok_chk (nxg (g_n (i := 145) (n := 16) ts11_2 (by decide) rfl) ix23 (by omega) (by omega)) ?_
                    refine ok_ltA (fun x24 => ?_)
                    refine ok_ltI (av_mul tn_2 iy9 (by omega) (by omega)) (fun x25 ix25 => ?_)
                    refine ok_ltI (av_add iy16 ix25 (by omega) (by omega)) (fun x26 ix26 => ?_)
                    refine ok_chk (nxg (g_n (i := 145) (n := 16) ts11_2 (by decide) rfl) ix26 (by omega) (by omega)) ?_
                    refine ok_ltA (fun x27 => ?_)
                    refine ok_ltA (fun x28 => ?_)
                    refine ok_ltI (av_add iy16 iy9 (by omega) (by omega)) (fun x29 ix29 => ?_)
                    refine ok_chk (nxg (g_n (i := 145) (n := 16) ts11_2 (by decide) rfl) ix29 (by omega) (by omega)) ?_
                    refine ok_ltA (fun x30 => ?_)
                    refine ok_ltI (av_mul tn_2 iy9 (by omega) (by omega)) (fun x31 ix31 => ?_)
                    refine ok_ltI (av_add iy16 ix31 (by omega) (by omega)) (fun x32 ix32 => ?_)
                    refine ok_chk (nxg (g_n (i := 145) (n := 16) ts11_2 (by decide) rfl) ix32 (by omega) (by omega)) ?_
                    refine ok_ltA (fun x33 => ?_)
                    refine ok_ltA (fun x34 => ?_)
                    refine ok_chk (nxg (g_n (i := 145) (n := 16) ts11_2 (by decide) rfl) iy16 (by omega) (by omega)) ?_
                    refine ok_ltA (fun x35 => ?_)
                    refine ok_ltI (av_mul tn_3 iy9 (by omega) (by omega)) (fun x36 ix36 => ?_)
                    refine ok_ltI (av_add iy16 ix36 (by omega) (by omega)) (fun x37 ix37 => ?_)
                    refine ok_chk (nxg (g_n (i := 145) (n := 16) ts11_2 (by decide) rfl) ix37 (by omega) (by omega)) ?_
                    refine ok_ltA (fun x38 => ?_)
                    refine ok_ltA (fun x39 => ?_)
                    refine ok_ltA (fun x40 => ?_)
                    refine ok_chk (nxg (g_n (i := 145) (n := 16) ts11_2 (by decide) rfl) iy16 (by omega) (by omega)) ?_
                    refine ok_ltt (fun M41 eM41 => ?_)
                    have tM41 : TT G M41 p w L := by rw [eM41]; exact (tt_w0 ts11_2 rfl)
                    have fM41 : Fr p [2] M M41 := by rw [eM41]; exact (fr_w fs11_2 rfl)
                    clear eM41
                    refine ok_ltI (av_add iy16 iy9 (by omega) (by omega)) (fun x42 ix42 => ?_)
                    refine ok_ltA (fun x43 => ?_)
                    refine ok_ltA (fun x44 => ?_)
                    refine ok_dr (f_r (b := 145) tM41 rfl (by decide)) (g_lt tM41 (by decide)) (g_k tM41 (by decide) rfl) ?_
                    refine ok_chk (nxg (g_n (i := 145) (n := 16) tM41 (by decide) rfl) ix42 (by omega) (by omega)) ?_
                    refine ok_ltt (fun M46 eM46 => ?_)
                    have tM46 : TT G M46 p w L := by rw [eM46]; exact (tt_w0 tM41 rfl)
                    have fM46 : Fr p [2] M M46 := by rw [eM46]; exact (fr_w fM41 rfl)
                    clear eM46
                    refine ok_ltI (av_mul tn_2 iy9 (by omega) (by omega)) (fun x47 ix47 => ?_)
                    refine ok_ltI (av_add iy16 ix47 (by omega) (by omega)) (fun x48 ix48 => ?_)
                    refine ok_ltA (fun x49 => ?_)
                    refine ok_dr (f_r (b := 145) tM46 rfl (by decide)) (g_lt tM46 (by decide)) (g_k tM46 (by decide) rfl) ?_
                    refine ok_chk (nxg (g_n (i := 145) (n := 16) tM46 (by decide) rfl) ix48 (by omega) (by omega)) ?_
                    refine ok_ltt (fun M51 eM51 => ?_)
                    have tM51 : TT G M51 p w L := by rw [eM51]; exact (tt_w0 tM46 rfl)
                    have fM51 : Fr p [2] M M51 := by rw [eM51]; exact (fr_w fM46 rfl)
                    clear eM51
                    refine ok_ltI (av_mul tn_3 iy9 (by omega) (by omega)) (fun x52 ix52 => ?_)
                    refine ok_ltI (av_add iy16 ix52 (by omega) (by omega)) (fun x53 ix53 => ?_)
                    refine ok_ltA (fun x54 => ?_)
                    refine ok_ltA (fun x55 => ?_)
                    refine ok_dr (f_r (b := 145) tM51 rfl (by decide)) (g_lt tM51 (by decide)) (g_k tM51 (by decide) rfl) ?_
                    refine ok_chk (nxg (g_n (i := 145) (n := 16) tM51 (by decide) rfl) ix53 (by omega) (by omega)) ?_
                    refine ok_ltt (fun M57 eM57 => ?_)
                    have tM57 : TT G M57 p w L := by rw [eM57]; exact (tt_w0 tM51 rfl)
                    have fM57 : Fr p [2] M M57 := by rw [eM57]; exact (fr_w fM51 rfl)
                    clear eM57
                    refine ok_ltI (av_add is11_1 tn_1 (by omega) (by omega)) (fun x58 ix58 => ?_)
                    exact ok_some ⟨⟨(ti_bd ix58 (by omega) (by omega)), tM57, fM57⟩, (mu_up ix58 (by omega) (by omega))⟩
              · exact ⟨(ti_bd tn_0 (by omega) (by omega)), ts5_2, fs5_2⟩
              · exact mu_0 tn_0 (by omega)
              · intro y10 hyy10
                obtain ⟨ly10_1, ty10_2, fy10_2⟩ := hyy10
                have iy10_1 : TI y10.1 y10.1.toInt := rfl
                refine ok_ltI (av_add is5_1 tn_1 (by omega) (by omega)) (fun x13 ix13 => ?_)
                exact ok_some ⟨⟨(ti_bd ix13 (by omega) (by omega)), ty10_2, fy10_2⟩, (mu_up ix13 (by omega) (by omega))⟩
        · exact ⟨(ti_bd tn_0 (by omega) (by omega)), ty1_2, fy1_2⟩
        · exact mu_0 tn_0 (by omega)
        · intro y4 hyy4
          obtain ⟨ly4_1, ty4_2, fy4_2⟩ := hyy4
          have iy4_1 : TI y4.1 y4.1.toInt := rfl
          exact ok_some ⟨ty4_2, fy4_2⟩
theorem s_roundingOf {G : GG} {M : DD} {p : Nat} {w : Int} {L : List Nat} (t : TT G M p w L) {p0 : Int32} {p1 : Int32} : OK (FX6_roundingOf G M p0 p1) (fun y => TT G y.1 p w L ∧ Fr p [] M y.1 ∧ True) := by
  unfold FX6_roundingOf
  have hw12 : 1 ≤ w ∧ w ≤ 2 := by rcases tt_w t with h | h <;> omega
  refine ok_ltA (fun x1 => ?_)
  refine ok_ltA (fun x2 => ?_)
  refine ok_ltA (fun x3 => ?_)
  refine ok_bnd (Q := fun (z : Int32) => (3 ≤ z.toInt ∧ z.toInt ≤ 6)) ?_ ?_
  · refine ok_if (fun c1 => ?_) (fun c1 => ?_)
    · have dc1 := tl_eq (rfl : TI p1 p1.toInt) tn_0 c1
      exact ok_some (ti_bd tn_6 (by omega) (by omega))
    · exact ok_some (ti_bd tn_3 (by omega) (by omega))
  · intro y4 hyy4
    have ly4 := hyy4
    have iy4 : TI y4 y4.toInt := rfl
    refine ok_chk (nz iy4 (by omega)) ?_
    refine ok_ltA (fun x5 => ?_)
    exact ok_some ⟨t, (fr_0 p [] M), trivial⟩
theorem s_measure {G : GG} {M : DD} {p : Nat} {w : Int} {L : List Nat} (t : TT G M p w L) {p0 : Option Nat} (e0 : p0 = some 132) {p1 : Int32} {a1 : Int} (i1 : TI p1 a1) {p2 : Int32} {a2 : Int} (i2 : TI p2 a2) {p3 : Int32} {a3 : Int} (i3 : TI p3 a3) {p4 : Int32} (h0 : 0 ≤ a1) (h1 : a1 + 16 ≤ 13824) (h2 : 0 ≤ a2) (h3 : a2 ≤ 16) (h4 : 0 ≤ a3) (h5 : a3 ≤ 51) : OK (FX6_measure G M 138 p0 p1 p2 p3 p4) (fun y => TT G y.1 p w L ∧ Fr p [6] M y.1 ∧ True) := by
  unfold FX6_measure
  subst e0
  have hw12 : 1 ≤ w ∧ w ≤ 2 := by rcases tt_w t with h | h <;> omega
  have k0p2 : p2.toInt = _ := i2
  refine ok_bnd (Q := fun (z : Int32 × Int32 × DD) => True ∧ (p2.toInt ≤ z.2.1.toInt ∧ z.2.1.toInt ≤ 16) ∧ TT G z.2.2 p w L ∧ Fr p [6] M z.2.2) (ok_itr (fun (z : Int32 × Int32 × DD) => True ∧ (p2.toInt ≤ z.2.1.toInt ∧ z.2.1.toInt ≤ 16) ∧ TT G z.2.2 p w L ∧ Fr p [6] M z.2.2) (fun z => (16 - z.2.1.toInt).toNat) ?_ _ _ ?_ ?_) ?_
  · intro s2 hys2
    obtain ⟨_, ls2_2_1, ts2_2_2, fs2_2_2⟩ := hys2
    have is2_2_1 : TI s2.2.1 s2.2.1.toInt := rfl
    refine ok_if (fun c1 => ?_) (fun c1 => ?_)
    · have dc1 := tl_le tn_16 is2_2_1 c1
      exact ok_some ⟨trivial, (ti_bd is2_2_1 (by omega) (by omega)), ts2_2_2, fs2_2_2⟩
    · have dc1 := tl_nle tn_16 is2_2_1 c1
      refine ok_chk (nx is2_2_1 (by omega) (by omega)) ?_
      refine ok_ltB (tb_14 _) (fun x6 lx6 => ?_)
      have ix6 : TI x6 x6.toInt := rfl
      refine ok_chk (nx is2_2_1 (by omega) (by omega)) ?_
      refine ok_ltB (tb_15 _) (fun x7 lx7 => ?_)
      have ix7 : TI x7 x7.toInt := rfl
      refine ok_ltI (av_mul tn_4 ix7 (by omega) (by omega)) (fun x8 ix8 => ?_)
      refine ok_ltI (av_add ix8 ix6 (by omega) (by omega)) (fun x9 ix9 => ?_)
      refine ok_dr (f_r (b := 145) ts2_2_2 rfl (by decide)) (g_lt ts2_2_2 (by decide)) (g_k ts2_2_2 (by decide) rfl) ?_
      refine ok_chk (nxg (g_n (i := 145) (n := 16) ts2_2_2 (by decide) rfl) ix9 (by omega) (by omega)) ?_
      refine ok_ltA (fun x11 => ?_)
      refine ok_bnd (s_normAt ts2_2_2 i3 ix6 ix7 (by omega) (by omega)) ?_
      intro y12 hyy12
      obtain ⟨ty12, gy12, ly12⟩ := hyy12
      have fy12 := fr_tr fs2_2_2 gy12 rfl
      have iy12 : TI y12.2 y12.2.toInt := rfl
      refine ok_chk (nx iy12 (by omega) (by omega)) ?_
      refine ok_ltB (tb_12 _) (fun x13 lx13 => ?_)
      have ix13 : TI x13 x13.toInt := rfl
      refine ok_bnd (s_roundingOf ty12) ?_
      intro y14 hyy14
      obtain ⟨ty14, gy14, _⟩ := hyy14
      have fy14 := fr_tr fy12 gy14 rfl
      refine ok_ltI (av_div i3 tn_6 (by omega) (by omega)) (fun x15 ix15 => ?_)
      refine ok_ltI (av_add tn_15 ix15 (by omega) (by omega)) (fun x16 ix16 => ?_)
      refine ok_bnd (s_measured ty14) ?_
      intro y17 hyy17
      obtain ⟨ty17, gy17, _⟩ := hyy17
      have fy17 := fr_tr fy14 gy17 rfl
      refine ok_ltI (av_add i1 is2_2_1 (by omega) (by omega)) (fun x18 ix18 => ?_)
      refine ok_dr rfl (g_lt ty17 (by decide)) (g_k ty17 (by decide) rfl) ?_
      refine ok_chk (nxg (g_n (i := 132) (n := 13824) ty17 (by decide) rfl) ix18 (by omega) (by omega)) ?_
      refine ok_ltt (fun M20 eM20 => ?_)
      have tM20 : TT G M20 p w L := by rw [eM20]; exact (tt_w0 ty17 rfl)
      have fM20 : Fr p [6] M M20 := by rw [eM20]; exact (fr_w fy17 rfl)
      clear eM20
      refine ok_bnd (Q := fun (z : Int32) => (0 ≤ z.toInt ∧ z.toInt ≤ 1)) ?_ ?_
      · refine ok_if (fun c2 => ?_) (fun c2 => ?_)
        · have dc2 := tl_eq (rfl : TI y17.2 y17.2.toInt) tn_0 c2
          exact ok_some (ti_bd tn_0 (by omega) (by omega))
        · exact ok_some (ti_bd tn_1 (by omega) (by omega))
      · intro y21 hyy21
        have ly21 := hyy21
        have iy21 : TI y21 y21.toInt := rfl
        refine ok_ltA (fun x22 => ?_)
        refine ok_ltI (av_add is2_2_1 tn_1 (by omega) (by omega)) (fun x23 ix23 => ?_)
        exact ok_some ⟨⟨trivial, (ti_bd ix23 (by omega) (by omega)), tM20, fM20⟩, (mu_up ix23 (by omega) (by omega))⟩
  · exact ⟨trivial, (ti_bd i2 (by omega) (by omega)), t, (fr_0 p [6] M)⟩
  · exact mu_0 i2 (by omega)
  · intro y1 hyy1
    obtain ⟨_, ly1_2_1, ty1_2_2, fy1_2_2⟩ := hyy1
    have iy1_2_1 : TI y1.2.1 y1.2.1.toInt := rfl
    exact ok_some ⟨ty1_2_2, fy1_2_2, trivial⟩
theorem s_measureLuma {G : GG} {M : DD} {p : Nat} {w : Int} {L : List Nat} (t : TT G M p w L) {p0 : Option Nat} (e0 : p0 = some 125) {p1 : Option Nat} {c1 : Nat} (e1 : p1 = some c1) (hc1 : 222 ≤ c1 ∧ c1 < 234) {n1 : Int} (hn1 : (G.2.2 c1 : Int) = n1) {p2 : Int32} {a2 : Int} (i2 : TI p2 a2) {p3 : Int32} {a3 : Int} (i3 : TI p3 a3) {p4 : Int32} {a4 : Int} (i4 : TI p4 a4) {p5 : Int32} (h0 : 0 ≤ a2) (h1 : a2 < 2 * w) (h2 : 0 ≤ a3) (h3 : a3 ≤ 15) (h4 : 0 ≤ a4) (h5 : a4 ≤ 51) (h6 : n1 = 512 * w) : OK (FX6_measureLuma G M 138 p0 p1 p2 p3 p4 p5) (fun y => TT G y.1 p w L ∧ Fr p [2, 5, 6] M y.1 ∧ True) := by
  unfold FX6_measureLuma
  subst e0 e1
  have hw12 : 1 ≤ w ∧ w ≤ 2 := by rcases tt_w t with h | h <;> omega
  rcases tt_w t with rfl | rfl
  · refine ok_bnd (s_pieceX t i3 (by omega) (by omega)) ?_
    intro y1 hyy1
    obtain ⟨ty1, gy1, iy1⟩ := hyy1
    have fy1 := fr_tr (fr_0 p [2, 5, 6] M) gy1 rfl
    refine ok_bnd (s_pieceY ty1 i3 (by omega) (by omega)) ?_
    intro y2 hyy2
    obtain ⟨ty2, gy2, iy2⟩ := hyy2
    have fy2 := fr_tr fy1 gy2 rfl
    refine ok_dr rfl (g_lt ty2 (by decide)) (g_k ty2 (by decide) rfl) ?_
    refine ok_bnd (s_lumaAt ty2 (tt_pic ty2) (tt_p ty2) i2 iy1 iy2 (by omega) (by omega) (by omega) (by omega) (by omega) (by omega)) ?_
    intro y4 hyy4
    obtain ⟨ty4, gy4, iy4⟩ := hyy4
    have fy4 := fr_tr fy2 gy4 rfl
    refine ok_dr (tt_pic ty4) (by have q := (tt_q0b ty4 (tt_p ty4)); omega) (gk_0 ty4 (tt_p ty4)) ?_
    refine ok_ltI (tw_q ty4 (tt_p ty4)) (fun x6 ix6 => ?_)
    refine ok_ltI (av_mul tn_16 ix6 (by omega) (by omega)) (fun x7 ix7 => ?_)
    refine ok_ltI (av_mul tn_16 iy2 (by omega) (by omega)) (fun x8 ix8 => ?_)
    refine ok_ltI (av_add ix8 iy1 (by omega) (by omega)) (fun x9 ix9 => ?_)
    refine ok_bnd (s_turn ty4 rfl hc1 hn1 iy4 ix7 ix9 tn_16 (by omega) (by omega) (by omega) (by omega) (by omega) (by omega) (by omega)) ?_
    intro y10 hyy10
    obtain ⟨ty10, gy10⟩ := hyy10
    have fy10 := fr_tr fy4 gy10 rfl
    refine ok_bnd (s_levelAt ty10 i2 i3 (by omega) (by omega) (by omega) (by omega)) ?_
    intro y11 hyy11
    obtain ⟨ty11, gy11, iy11⟩ := hyy11
    have fy11 := fr_tr fy10 gy11 rfl
    refine ok_bnd (s_measure ty11 (f_r (b := 132) ty10 rfl (by decide)) iy11 tn_0 i4 (by omega) (by omega) (by omega) (by omega) (by omega) (by omega)) ?_
    intro y12 hyy12
    obtain ⟨ty12, gy12, _⟩ := hyy12
    have fy12 := fr_tr fy11 gy12 rfl
    refine ok_ltI (av_mul tn_24 i2 (by omega) (by omega)) (fun x13 ix13 => ?_)
    refine ok_ltI (av_add ix13 i3 (by omega) (by omega)) (fun x14 ix14 => ?_)
    refine ok_dr (f_r (b := 131) ty12 rfl (by decide)) (g_lt ty12 (by decide)) (g_k ty12 (by decide) rfl) ?_
    refine ok_chk (nxg (g_n (i := 131) (n := 768) ty12 (by decide) rfl) ix14 (by omega) (by omega)) ?_
    refine ok_ltt (fun M16 eM16 => ?_)
    have tM16 : TT G M16 p 1 L := by rw [eM16]; exact (tt_w0 ty12 rfl)
    have fM16 : Fr p [2, 5, 6] M M16 := by rw [eM16]; exact (fr_w fy12 rfl)
    clear eM16
    exact ok_some ⟨tM16, fM16, trivial⟩
  · refine ok_bnd (s_pieceX t i3 (by omega) (by omega)) ?_
    intro y1 hyy1
    obtain ⟨ty1, gy1, iy1⟩ := hyy1
    have fy1 := fr_tr (fr_0 p [2, 5, 6] M) gy1 rfl
    refine ok_bnd (s_pieceY ty1 i3 (by omega) (by omega)) ?_
    intro y2 hyy2
    obtain ⟨ty2, gy2, iy2⟩ := hyy2
    have fy2 := fr_tr fy1 gy2 rfl
    refine ok_dr rfl (g_lt ty2 (by decide)) (g_k ty2 (by decide) rfl) ?_
    refine ok_bnd (s_lumaAt ty2 (tt_pic ty2) (tt_p ty2) i2 iy1 iy2 (by omega) (by omega) (by omega) (by omega) (by omega) (by omega)) ?_
    intro y4 hyy4
    obtain ⟨ty4, gy4, iy4⟩ := hyy4
    have fy4 := fr_tr fy2 gy4 rfl
    refine ok_dr (tt_pic ty4) (by have q := (tt_q0b ty4 (tt_p ty4)); omega) (gk_0 ty4 (tt_p ty4)) ?_
    refine ok_ltI (tw_q ty4 (tt_p ty4)) (fun x6 ix6 => ?_)
    refine ok_ltI (av_mul tn_16 ix6 (by omega) (by omega)) (fun x7 ix7 => ?_)
    refine ok_ltI (av_mul tn_16 iy2 (by omega) (by omega)) (fun x8 ix8 => ?_)
    refine ok_ltI (av_add ix8 iy1 (by omega) (by omega)) (fun x9 ix9 => ?_)
    refine ok_bnd (s_turn ty4 rfl hc1 hn1 iy4 ix7 ix9 tn_16 (by omega) (by omega) (by omega) (by omega) (by omega) (by omega) (by omega)) ?_
    intro y10 hyy10
    obtain ⟨ty10, gy10⟩ := hyy10
    have fy10 := fr_tr fy4 gy10 rfl
    refine ok_bnd (s_levelAt ty10 i2 i3 (by omega) (by omega) (by omega) (by omega)) ?_
    intro y11 hyy11
    obtain ⟨ty11, gy11, iy11⟩ := hyy11
    have fy11 := fr_tr fy10 gy11 rfl
    refine ok_bnd (s_measure ty11 (f_r (b := 132) ty10 rfl (by decide)) iy11 tn_0 i4 (by omega) (by omega) (by omega) (by omega) (by omega) (by omega)) ?_
    intro y12 hyy12
    obtain ⟨ty12, gy12, _⟩ := hyy12
    have fy12 := fr_tr fy11 gy12 rfl
    refine ok_ltI (av_mul tn_24 i2 (by omega) (by omega)) (fun x13 ix13 => ?_)
    refine ok_ltI (av_add ix13 i3 (by omega) (by omega)) (fun x14 ix14 => ?_)
    refine ok_dr (f_r (b := 131) ty12 rfl (by decide)) (g_lt ty12 (by decide)) (g_k ty12 (by decide) rfl) ?_
    refine ok_chk (nxg (g_n (i := 131) (n := 768) ty12 (by decide) rfl) ix14 (by omega) (by omega)) ?_
    refine ok_ltt (fun M16 eM16 => ?_)
    have tM16 : TT G M16 p 2 L := by rw [eM16]; exact (tt_w0 ty12 rfl)
    have fM16 : Fr p [2, 5, 6] M M16 := by rw [eM16]; exact (fr_w fy12 rfl)
    clear eM16
    exact ok_some ⟨tM16, fM16, trivial⟩
theorem s_measureSixteen {G : GG} {M : DD} {p : Nat} {w : Int} {L : List Nat} (t : TT G M p w L) {p0 : Option Nat} (e0 : p0 = some 125) {p1 : Option Nat} {c1 : Nat} (e1 : p1 = some c1) (hc1 : 222 ≤ c1 ∧ c1 < 234) {n1 : Int} (hn1 : (G.2.2 c1 : Int) = n1) {p2 : Int32} {a2 : Int} (i2 : TI p2 a2) {p3 : Int32} {a3 : Int} (i3 : TI p3 a3) (h0 : 0 ≤ a2) (h1 : a2 < 2 * w) (h2 : 0 ≤ a3) (h3 : a3 ≤ 51) (h4 : n1 = 512 * w) : OK (FX6_measureSixteen G M 138 p0 p1 p2 p3) (fun y => TT G y.1 p w L ∧ Fr p [2, 5, 6] M y.1 ∧ True) := by
  unfold FX6_measureSixteen
  subst e0 e1
  have hw12 : 1 ≤ w ∧ w ≤ 2 := by rcases tt_w t with h | h <;> omega
  rcases tt_w t with rfl | rfl
  · refine ok_bnd (Q := fun (z : Int32 × Int32 × DD) => True ∧ (0 ≤ z.2.1.toInt ∧ z.2.1.toInt ≤ 16) ∧ TT G z.2.2 p 1 L ∧ Fr p [2, 5, 6] M z.2.2) (ok_itr (fun (z : Int32 × Int32 × DD) => True ∧ (0 ≤ z.2.1.toInt ∧ z.2.1.toInt ≤ 16) ∧ TT G z.2.2 p 1 L ∧ Fr p [2, 5, 6] M z.2.2) (fun z => (16 - z.2.1.toInt).toNat) ?_ _ _ ?_ ?_) ?_
    · intro s2 hys2
      obtain ⟨_, ls2_2_1, ts2_2_2, fs2_2_2⟩ := hys2
      have is2_2_1 : TI s2.2.1 s2.2.1.toInt := rfl
      refine ok_if (fun c1 => ?_) (fun c1 => ?_)
      · have dc1 := tl_le tn_16 is2_2_1 c1
        exact ok_some ⟨trivial, (ti_bd is2_2_1 (by omega) (by omega)), ts2_2_2, fs2_2_2⟩
      · have dc1 := tl_nle tn_16 is2_2_1 c1
        refine ok_bnd (s_pieceX ts2_2_2 is2_2_1 (by omega) (by omega)) ?_
        intro y34 hyy34
        obtain ⟨ty34, gy34, iy34⟩ := hyy34
        have fy34 := fr_tr fs2_2_2 gy34 rfl
        refine ok_bnd (s_pieceY ty34 is2_2_1 (by omega) (by omega)) ?_
        intro y35 hyy35
        obtain ⟨ty35, gy35, iy35⟩ := hyy35
        have fy35 := fr_tr fy34 gy35 rfl
        refine ok_dr rfl (g_lt ty35 (by decide)) (g_k ty35 (by decide) rfl) ?_
        refine ok_bnd (s_lumaAt ty35 (tt_pic ty35) (tt_p ty35) i2 iy34 iy35 (by omega) (by omega) (by omega) (by omega) (by omega) (by omega)) ?_
        intro y37 hyy37
        obtain ⟨ty37, gy37, iy37⟩ := hyy37
        have fy37 := fr_tr fy35 gy37 rfl
        refine ok_dr (tt_pic ty37) (by have q := (tt_q0b ty37 (tt_p ty37)); omega) (gk_0 ty37 (tt_p ty37)) ?_
        refine ok_ltI (tw_q ty37 (tt_p ty37)) (fun x39 ix39 => ?_)
        refine ok_ltI (av_mul tn_16 ix39 (by omega) (by omega)) (fun x40 ix40 => ?_)
        refine ok_ltI (av_mul tn_16 iy35 (by omega) (by omega)) (fun x41 ix41 => ?_)
        refine ok_ltI (av_add ix41 iy34 (by omega) (by omega)) (fun x42 ix42 => ?_)
        refine ok_bnd (s_turn ty37 rfl hc1 hn1 iy37 ix40 ix42 tn_16 (by omega) (by omega) (by omega) (by omega) (by omega) (by omega) (by omega)) ?_
        intro y43 hyy43
        obtain ⟨ty43, gy43⟩ := hyy43
        have fy43 := fr_tr fy37 gy43 rfl
        refine ok_ltI (av_div iy34 tn_4 (by omega) (by omega)) (fun x44 ix44 => ?_)
        refine ok_ltI (av_add iy35 ix44 (by omega) (by omega)) (fun x45 ix45 => ?_)
        refine ok_dr (f_r (b := 145) ty43 rfl (by decide)) (g_lt ty43 (by decide)) (g_k ty43 (by decide) rfl) ?_
        refine ok_chk (nxg (g_n (i := 145) (n := 16) ty43 (by decide) rfl) tn_0 (by omega) (by omega)) ?_
        refine ok_ltA (fun x47 => ?_)
        refine ok_dr (f_r (b := 146) ty43 rfl (by decide)) (g_lt ty43 (by decide)) (g_k ty43 (by decide) rfl) ?_
        refine ok_chk (nxg (g_n (i := 146) (n := 16) ty43 (by decide) rfl) ix45 (by omega) (by omega)) ?_
        refine ok_ltt (fun M49 eM49 => ?_)
        have tM49 : TT G M49 p 1 L := by rw [eM49]; exact (tt_w0 ty43 rfl)
        have fM49 : Fr p [2, 5, 6] M M49 := by rw [eM49]; exact (fr_w fy43 rfl)
        clear eM49
        refine ok_bnd (s_levelAt tM49 i2 is2_2_1 (by omega) (by omega) (by omega) (by omega)) ?_
        intro y50 hyy50
        obtain ⟨ty50, gy50, iy50⟩ := hyy50
        have fy50 := fr_tr fM49 gy50 rfl
        refine ok_bnd (s_measure ty50 (f_r (b := 132) tM49 rfl (by decide)) iy50 tn_1 i3 (by omega) (by omega) (by omega) (by omega) (by omega) (by omega)) ?_
        intro y51 hyy51
        obtain ⟨ty51, gy51, _⟩ := hyy51
        have fy51 := fr_tr fy50 gy51 rfl
        refine ok_ltI (av_mul tn_24 i2 (by omega) (by omega)) (fun x52 ix52 => ?_)
        refine ok_ltI (av_add ix52 is2_2_1 (by omega) (by omega)) (fun x53 ix53 => ?_)
        refine ok_dr (f_r (b := 131) ty51 rfl (by decide)) (g_lt ty51 (by decide)) (g_k ty51 (by decide) rfl) ?_
        refine ok_chk (nxg (g_n (i := 131) (n := 768) ty51 (by decide) rfl) ix53 (by omega) (by omega)) ?_
        refine ok_ltt (fun M55 eM55 => ?_)
        have tM55 : TT G M55 p 1 L := by rw [eM55]; exact (tt_w0 ty51 rfl)
        have fM55 : Fr p [2, 5, 6] M M55 := by rw [eM55]; exact (fr_w fy51 rfl)
        clear eM55
        refine ok_ltA (fun x56 => ?_)
        refine ok_ltI (av_add is2_2_1 tn_1 (by omega) (by omega)) (fun x57 ix57 => ?_)
        exact ok_some ⟨⟨trivial, (ti_bd ix57 (by omega) (by omega)), tM55, fM55⟩, (mu_up ix57 (by omega) (by omega))⟩
    · exact ⟨trivial, (ti_bd tn_0 (by omega) (by omega)), t, (fr_0 p [2, 5, 6] M)⟩
    · exact mu_0 tn_0 (by omega)
    · intro y1 hyy1
      obtain ⟨_, ly1_2_1, ty1_2_2, fy1_2_2⟩ := hyy1
      have iy1_2_1 : TI y1.2.1 y1.2.1.toInt := rfl
      refine ok_bnd (s_turnEven ty1_2_2) ?_
      intro y4 hyy4
      obtain ⟨ty4, gy4⟩ := hyy4
      have fy4 := fr_tr fy1_2_2 gy4 rfl
      refine ok_bnd (s_levelAt ty4 i2 tn_16 (by omega) (by omega) (by omega) (by omega)) ?_
      intro y5 hyy5
      obtain ⟨ty5, gy5, iy5⟩ := hyy5
      have fy5 := fr_tr fy4 gy5 rfl
      refine ok_bnd (Q := fun (z : Int32 × DD) => (0 ≤ z.1.toInt ∧ z.1.toInt ≤ 16) ∧ TT G z.2 p 1 L ∧ Fr p [2, 5, 6] M z.2) (ok_itr (fun (z : Int32 × DD) => (0 ≤ z.1.toInt ∧ z.1.toInt ≤ 16) ∧ TT G z.2 p 1 L ∧ Fr p [2, 5, 6] M z.2) (fun z => (16 - z.1.toInt).toNat) ?_ _ _ ?_ ?_) ?_
      · intro s7 hys7
        obtain ⟨ls7_1, ts7_2, fs7_2⟩ := hys7
        have is7_1 : TI s7.1 s7.1.toInt := rfl
        refine ok_if (fun c2 => ?_) (fun c2 => ?_)
        · have dc2 := tl_le tn_16 is7_1 c2
          exact ok_some ⟨(ti_bd is7_1 (by omega) (by omega)), ts7_2, fs7_2⟩
        · have dc2 := tl_nle tn_16 is7_1 c2
          refine ok_chk (nx is7_1 (by omega) (by omega)) ?_
          refine ok_ltB (tb_15 _) (fun x13 lx13 => ?_)
          have ix13 : TI x13 x13.toInt := rfl
          refine ok_ltI (av_mul tn_4 ix13 (by omega) (by omega)) (fun x14 ix14 => ?_)
          refine ok_chk (nx is7_1 (by omega) (by omega)) ?_
          refine ok_ltB (tb_14 _) (fun x15 lx15 => ?_)
          have ix15 : TI x15 x15.toInt := rfl
          refine ok_ltI (av_add ix14 ix15 (by omega) (by omega)) (fun x16 ix16 => ?_)
          refine ok_dr (f_r (b := 146) ts7_2 rfl (by decide)) (g_lt ts7_2 (by decide)) (g_k ts7_2 (by decide) rfl) ?_
          refine ok_chk (nxg (g_n (i := 146) (n := 16) ts7_2 (by decide) rfl) ix16 (by omega) (by omega)) ?_
          refine ok_ltA (fun x18 => ?_)
          refine ok_ltA (fun x19 => ?_)
          refine ok_dr rfl (g_lt ts7_2 (by decide)) (g_k ts7_2 (by decide) rfl) ?_
          refine ok_ltI (av_add iy5 is7_1 (by omega) (by omega)) (fun x21 ix21 => ?_)
          refine ok_bnd (s_normAt ts7_2 i3 tn_0 tn_0 (by omega) (by omega)) ?_
          intro y22 hyy22
          obtain ⟨ty22, gy22, ly22⟩ := hyy22
          have fy22 := fr_tr fs7_2 gy22 rfl
          have iy22 : TI y22.2 y22.2.toInt := rfl
          refine ok_chk (nx iy22 (by omega) (by omega)) ?_
          refine ok_ltB (tb_12 _) (fun x23 lx23 => ?_)
          have ix23 : TI x23 x23.toInt := rfl
          refine ok_bnd (s_roundingOf ty22) ?_
          intro y24 hyy24
          obtain ⟨ty24, gy24, _⟩ := hyy24
          have fy24 := fr_tr fy22 gy24 rfl
          refine ok_ltA (fun x25 => ?_)
          refine ok_ltI (av_div i3 tn_6 (by omega) (by omega)) (fun x26 ix26 => ?_)
          refine ok_ltI (av_add tn_16 ix26 (by omega) (by omega)) (fun x27 ix27 => ?_)
          refine ok_bnd (s_measured ty24) ?_
          intro y28 hyy28
          obtain ⟨ty28, gy28, _⟩ := hyy28
          have fy28 := fr_tr fy24 gy28 rfl
          refine ok_dr (f_r (b := 132) ts7_2 rfl (by decide)) (g_lt ty28 (by decide)) (g_k ty28 (by decide) rfl) ?_
          refine ok_chk (nxg (g_n (i := 132) (n := 13824) ty28 (by decide) rfl) ix21 (by omega) (by omega)) ?_
          refine ok_ltt (fun M30 eM30 => ?_)
          have tM30 : TT G M30 p 1 L := by rw [eM30]; exact (tt_w0 ty28 rfl)
          have fM30 : Fr p [2, 5, 6] M M30 := by rw [eM30]; exact (fr_w fy28 rfl)
          clear eM30
          refine ok_ltI (av_add is7_1 tn_1 (by omega) (by omega)) (fun x31 ix31 => ?_)
          exact ok_some ⟨⟨(ti_bd ix31 (by omega) (by omega)), tM30, fM30⟩, (mu_up ix31 (by omega) (by omega))⟩
      · exact ⟨(ti_bd tn_0 (by omega) (by omega)), ty5, fy5⟩
      · exact mu_0 tn_0 (by omega)
      · intro y6 hyy6
        obtain ⟨ly6_1, ty6_2, fy6_2⟩ := hyy6
        have iy6_1 : TI y6.1 y6.1.toInt := rfl
        refine ok_bnd (Q := fun (z : Int32) => (0 ≤ z.toInt ∧ z.toInt ≤ 1)) ?_ ?_
        · refine ok_if (fun c3 => ?_) (fun c3 => ?_)
          · have dc3 := tl_le (rfl : TI y1.1 y1.1.toInt) tn_0 c3
            exact ok_some (ti_bd tn_0 (by omega) (by omega))
          · have dc3 := tl_nle (rfl : TI y1.1 y1.1.toInt) tn_0 c3
            exact ok_some (ti_bd tn_1 (by omega) (by omega))
        · intro y9 hyy9
          have ly9 := hyy9
          have iy9 : TI y9 y9.toInt := rfl
          refine ok_chk (t01 iy9 (by omega) (by omega)) ?_
          exact ok_some ⟨ty6_2, fy6_2, trivial⟩
  · refine ok_bnd (Q := fun (z : Int32 × Int32 × DD) => True ∧ (0 ≤ z.2.1.toInt ∧ z.2.1.toInt ≤ 16) ∧ TT G z.2.2 p 2 L ∧ Fr p [2, 5, 6] M z.2.2) (ok_itr (fun (z : Int32 × Int32 × DD) => True ∧ (0 ≤ z.2.1.toInt ∧ z.2.1.toInt ≤ 16) ∧ TT G z.2.2 p 2 L ∧ Fr p [2, 5, 6] M z.2.2) (fun z => (16 - z.2.1.toInt).toNat) ?_ _ _ ?_ ?_) ?_
    · intro s2 hys2
      obtain ⟨_, ls2_2_1, ts2_2_2, fs2_2_2⟩ := hys2
      have is2_2_1 : TI s2.2.1 s2.2.1.toInt := rfl
      refine ok_if (fun c1 => ?_) (fun c1 => ?_)
      · have dc1 := tl_le tn_16 is2_2_1 c1
        exact ok_some ⟨trivial, (ti_bd is2_2_1 (by omega) (by omega)), ts2_2_2, fs2_2_2⟩
      · have dc1 := tl_nle tn_16 is2_2_1 c1
        refine ok_bnd (s_pieceX ts2_2_2 is2_2_1 (by omega) (by omega)) ?_
        intro y34 hyy34
        obtain ⟨ty34, gy34, iy34⟩ := hyy34
        have fy34 := fr_tr fs2_2_2 gy34 rfl
        refine ok_bnd (s_pieceY ty34 is2_2_1 (by omega) (by omega)) ?_
        intro y35 hyy35
        obtain ⟨ty35, gy35, iy35⟩ := hyy35
        have fy35 := fr_tr fy34 gy35 rfl
        refine ok_dr rfl (g_lt ty35 (by decide)) (g_k ty35 (by decide) rfl) ?_
        refine ok_bnd (s_lumaAt ty35 (tt_pic ty35) (tt_p ty35) i2 iy34 iy35 (by omega) (by omega) (by omega) (by omega) (by omega) (by omega)) ?_
        intro y37 hyy37
        obtain ⟨ty37, gy37, iy37⟩ := hyy37
        have fy37 := fr_tr fy35 gy37 rfl
        refine ok_dr (tt_pic ty37) (by have q := (tt_q0b ty37 (tt_p ty37)); omega) (gk_0 ty37 (tt_p ty37)) ?_
        refine ok_ltI (tw_q ty37 (tt_p ty37)) (fun x39 ix39 => ?_)
        refine ok_ltI (av_mul tn_16 ix39 (by omega) (by omega)) (fun x40 ix40 => ?_)
        refine ok_ltI (av_mul tn_16 iy35 (by omega) (by omega)) (fun x41 ix41 => ?_)
        refine ok_ltI (av_add ix41 iy34 (by omega) (by omega)) (fun x42 ix42 => ?_)
        refine ok_bnd (s_turn ty37 rfl hc1 hn1 iy37 ix40 ix42 tn_16 (by omega) (by omega) (by omega) (by omega) (by omega) (by omega) (by omega)) ?_
        intro y43 hyy43
        obtain ⟨ty43, gy43⟩ := hyy43
        have fy43 := fr_tr fy37 gy43 rfl
        refine ok_ltI (av_div iy34 tn_4 (by omega) (by omega)) (fun x44 ix44 => ?_)
        refine ok_ltI (av_add iy35 ix44 (by omega) (by omega)) (fun x45 ix45 => ?_)
        refine ok_dr (f_r (b := 145) ty43 rfl (by decide)) (g_lt ty43 (by decide)) (g_k ty43 (by decide) rfl) ?_
        refine ok_chk (nxg (g_n (i := 145) (n := 16) ty43 (by decide) rfl) tn_0 (by omega) (by omega)) ?_
        refine ok_ltA (fun x47 => ?_)
        refine ok_dr (f_r (b := 146) ty43 rfl (by decide)) (g_lt ty43 (by decide)) (g_k ty43 (by decide) rfl) ?_
        refine ok_chk (nxg (g_n (i := 146) (n := 16) ty43 (by decide) rfl) ix45 (by omega) (by omega)) ?_
        refine ok_ltt (fun M49 eM49 => ?_)
        have tM49 : TT G M49 p 2 L := by rw [eM49]; exact (tt_w0 ty43 rfl)
        have fM49 : Fr p [2, 5, 6] M M49 := by rw [eM49]; exact (fr_w fy43 rfl)
        clear eM49
        refine ok_bnd (s_levelAt tM49 i2 is2_2_1 (by omega) (by omega) (by omega) (by omega)) ?_
        intro y50 hyy50
        obtain ⟨ty50, gy50, iy50⟩ := hyy50
        have fy50 := fr_tr fM49 gy50 rfl
        refine ok_bnd (s_measure ty50 (f_r (b := 132) tM49 rfl (by decide)) iy50 tn_1 i3 (by omega) (by omega) (by omega) (by omega) (by omega) (by omega)) ?_
        intro y51 hyy51
        obtain ⟨ty51, gy51, _⟩ := hyy51
        have fy51 := fr_tr fy50 gy51 rfl
        refine ok_ltI (av_mul tn_24 i2 (by omega) (by omega)) (fun x52 ix52 => ?_)
        refine ok_ltI (av_add ix52 is2_2_1 (by omega) (by omega)) (fun x53 ix53 => ?_)
        refine ok_dr (f_r (b := 131) ty51 rfl (by decide)) (g_lt ty51 (by decide)) (g_k ty51 (by decide) rfl) ?_
        refine ok_chk (nxg (g_n (i := 131) (n := 768) ty51 (by decide) rfl) ix53 (by omega) (by omega)) ?_
        refine ok_ltt (fun M55 eM55 => ?_)
        have tM55 : TT G M55 p 2 L := by rw [eM55]; exact (tt_w0 ty51 rfl)
        have fM55 : Fr p [2, 5, 6] M M55 := by rw [eM55]; exact (fr_w fy51 rfl)
        clear eM55
        refine ok_ltA (fun x56 => ?_)
        refine ok_ltI (av_add is2_2_1 tn_1 (by omega) (by omega)) (fun x57 ix57 => ?_)
        exact ok_some ⟨⟨trivial, (ti_bd ix57 (by omega) (by omega)), tM55, fM55⟩, (mu_up ix57 (by omega) (by omega))⟩
    · exact ⟨trivial, (ti_bd tn_0 (by omega) (by omega)), t, (fr_0 p [2, 5, 6] M)⟩
    · exact mu_0 tn_0 (by omega)
    · intro y1 hyy1
      obtain ⟨_, ly1_2_1, ty1_2_2, fy1_2_2⟩ := hyy1
      have iy1_2_1 : TI y1.2.1 y1.2.1.toInt := rfl
      refine ok_bnd (s_turnEven ty1_2_2) ?_
      intro y4 hyy4
      obtain ⟨ty4, gy4⟩ := hyy4
      have fy4 := fr_tr fy1_2_2 gy4 rfl
      refine ok_bnd (s_levelAt ty4 i2 tn_16 (by omega) (by omega) (by omega) (by omega)) ?_
      intro y5 hyy5
      obtain ⟨ty5, gy5, iy5⟩ := hyy5
      have fy5 := fr_tr fy4 gy5 rfl
      refine ok_bnd (Q := fun (z : Int32 × DD) => (0 ≤ z.1.toInt ∧ z.1.toInt ≤ 16) ∧ TT G z.2 p 2 L ∧ Fr p [2, 5, 6] M z.2) (ok_itr (fun (z : Int32 × DD) => (0 ≤ z.1.toInt ∧ z.1.toInt ≤ 16) ∧ TT G z.2 p 2 L ∧ Fr p [2, 5, 6] M z.2) (fun z => (16 - z.1.toInt).toNat) ?_ _ _ ?_ ?_) ?_
      · intro s7 hys7
        obtain ⟨ls7_1, ts7_2, fs7_2⟩ := hys7
        have is7_1 : TI s7.1 s7.1.toInt := rfl
        refine ok_if (fun c2 => ?_) (fun c2 => ?_)
        · have dc2 := tl_le tn_16 is7_1 c2
          exact ok_some ⟨(ti_bd is7_1 (by omega) (by omega)), ts7_2, fs7_2⟩
        · have dc2 := tl_nle tn_16 is7_1 c2
          refine ok_chk (nx is7_1 (by omega) (by omega)) ?_
          refine ok_ltB (tb_15 _) (fun x13 lx13 => ?_)
          have ix13 : TI x13 x13.toInt := rfl
          refine ok_ltI (av_mul tn_4 ix13 (by omega) (by omega)) (fun x14 ix14 => ?_)
          refine ok_chk (nx is7_1 (by omega) (by omega)) ?_
          refine ok_ltB (tb_14 _) (fun x15 lx15 => ?_)
          have ix15 : TI x15 x15.toInt := rfl
          refine ok_ltI (av_add ix14 ix15 (by omega) (by omega)) (fun x16 ix16 => ?_)
          refine ok_dr (f_r (b := 146) ts7_2 rfl (by decide)) (g_lt ts7_2 (by decide)) (g_k ts7_2 (by decide) rfl) ?_
          refine ok_chk (nxg (g_n (i := 146) (n := 16) ts7_2 (by decide) rfl) ix16 (by omega) (by omega)) ?_
          refine ok_ltA (fun x18 => ?_)
          refine ok_ltA (fun x19 => ?_)
          refine ok_dr rfl (g_lt ts7_2 (by decide)) (g_k ts7_2 (by decide) rfl) ?_
          refine ok_ltI (av_add iy5 is7_1 (by omega) (by omega)) (fun x21 ix21 => ?_)
          refine ok_bnd (s_normAt ts7_2 i3 tn_0 tn_0 (by omega) (by omega)) ?_
          intro y22 hyy22
          obtain ⟨ty22, gy22, ly22⟩ := hyy22
          have fy22 := fr_tr fs7_2 gy22 rfl
          have iy22 : TI y22.2 y22.2.toInt := rfl
          refine ok_chk (nx iy22 (by omega) (by omega)) ?_
          refine ok_ltB (tb_12 _) (fun x23 lx23 => ?_)
          have ix23 : TI x23 x23.toInt := rfl
          refine ok_bnd (s_roundingOf ty22) ?_
          intro y24 hyy24
          obtain ⟨ty24, gy24, _⟩ := hyy24
          have fy24 := fr_tr fy22 gy24 rfl
          refine ok_ltA (fun x25 => ?_)
          refine ok_ltI (av_div i3 tn_6 (by omega) (by omega)) (fun x26 ix26 => ?_)
          refine ok_ltI (av_add tn_16 ix26 (by omega) (by omega)) (fun x27 ix27 => ?_)
          refine ok_bnd (s_measured ty24) ?_
          intro y28 hyy28
          obtain ⟨ty28, gy28, _⟩ := hyy28
          have fy28 := fr_tr fy24 gy28 rfl
          refine ok_dr (f_r (b := 132) ts7_2 rfl (by decide)) (g_lt ty28 (by decide)) (g_k ty28 (by decide) rfl) ?_
          refine ok_chk (nxg (g_n (i := 132) (n := 13824) ty28 (by decide) rfl) ix21 (by omega) (by omega)) ?_
          refine ok_ltt (fun M30 eM30 => ?_)
          have tM30 : TT G M30 p 2 L := by rw [eM30]; exact (tt_w0 ty28 rfl)
          have fM30 : Fr p [2, 5, 6] M M30 := by rw [eM30]; exact (fr_w fy28 rfl)
          clear eM30
          refine ok_ltI (av_add is7_1 tn_1 (by omega) (by omega)) (fun x31 ix31 => ?_)
          exact ok_some ⟨⟨(ti_bd ix31 (by omega) (by omega)), tM30, fM30⟩, (mu_up ix31 (by omega) (by omega))⟩
      · exact ⟨(ti_bd tn_0 (by omega) (by omega)), ty5, fy5⟩
      · exact mu_0 tn_0 (by omega)
      · intro y6 hyy6
        obtain ⟨ly6_1, ty6_2, fy6_2⟩ := hyy6
        have iy6_1 : TI y6.1 y6.1.toInt := rfl
        refine ok_bnd (Q := fun (z : Int32) => (0 ≤ z.toInt ∧ z.toInt ≤ 1)) ?_ ?_
        · refine ok_if (fun c3 => ?_) (fun c3 => ?_)
          · have dc3 := tl_le (rfl : TI y1.1 y1.1.toInt) tn_0 c3
            exact ok_some (ti_bd tn_0 (by omega) (by omega))
          · have dc3 := tl_nle (rfl : TI y1.1 y1.1.toInt) tn_0 c3
            exact ok_some (ti_bd tn_1 (by omega) (by omega))
        · intro y9 hyy9
          have ly9 := hyy9
          have iy9 : TI y9 y9.toInt := rfl
          refine ok_chk (t01 iy9 (by omega) (by omega)) ?_
          exact ok_some ⟨ty6_2, fy6_2, trivial⟩
theorem s_measureColours {G : GG} {M : DD} {p : Nat} {w : Int} {L : List Nat} (t : TT G M p w L) {p0 : Option Nat} (e0 : p0 = some 125) {p1 : Option Nat} (e1 : p1 = some 209) {p2 : Int32} {a2 : Int} (i2 : TI p2 a2) {p3 : Int32} {a3 : Int} (i3 : TI p3 a3) {p4 : Int32} (h0 : 0 ≤ a2) (h1 : a2 < 2 * w) (h2 : 0 ≤ a3) (h3 : a3 ≤ 51) : OK (FX6_measureColours G M 138 p0 p1 p2 p3 p4) (fun y => TT G y.1 p w L ∧ Fr p [2, 5, 6] M y.1 ∧ True) := by
  unfold FX6_measureColours
  subst e0 e1
  have hw12 : 1 ≤ w ∧ w ≤ 2 := by rcases tt_w t with h | h <;> omega
  rcases tt_w t with rfl | rfl
  · refine ok_bnd (Q := fun (z : Int32 × Int32 × DD) => True ∧ (1 ≤ z.2.1.toInt ∧ z.2.1.toInt ≤ 3) ∧ TT G z.2.2 p 1 L ∧ Fr p [2, 5, 6] M z.2.2) (ok_itr (fun (z : Int32 × Int32 × DD) => True ∧ (1 ≤ z.2.1.toInt ∧ z.2.1.toInt ≤ 3) ∧ TT G z.2.2 p 1 L ∧ Fr p [2, 5, 6] M z.2.2) (fun z => (3 - z.2.1.toInt).toNat) ?_ _ _ ?_ ?_) ?_
    · intro s2 hys2
      obtain ⟨_, ls2_2_1, ts2_2_2, fs2_2_2⟩ := hys2
      have is2_2_1 : TI s2.2.1 s2.2.1.toInt := rfl
      refine ok_if (fun c1 => ?_) (fun c1 => ?_)
      · have dc1 := tl_le tn_3 is2_2_1 c1
        exact ok_some ⟨trivial, (ti_bd is2_2_1 (by omega) (by omega)), ts2_2_2, fs2_2_2⟩
      · have dc1 := tl_nle tn_3 is2_2_1 c1
        refine ok_bnd (Q := fun (z : Int32 × Int32 × DD) => True ∧ (0 ≤ z.2.1.toInt ∧ z.2.1.toInt ≤ 4) ∧ TT G z.2.2 p 1 L ∧ Fr p [2, 5, 6] M z.2.2) (ok_itr (fun (z : Int32 × Int32 × DD) => True ∧ (0 ≤ z.2.1.toInt ∧ z.2.1.toInt ≤ 4) ∧ TT G z.2.2 p 1 L ∧ Fr p [2, 5, 6] M z.2.2) (fun z => (4 - z.2.1.toInt).toNat) ?_ _ _ ?_ ?_) ?_
        · intro s7 hys7
          obtain ⟨_, ls7_2_1, ts7_2_2, fs7_2_2⟩ := hys7
          have is7_2_1 : TI s7.2.1 s7.2.1.toInt := rfl
          refine ok_if (fun c2 => ?_) (fun c2 => ?_)
          · have dc2 := tl_le tn_4 is7_2_1 c2
            exact ok_some ⟨trivial, (ti_bd is7_2_1 (by omega) (by omega)), ts7_2_2, fs7_2_2⟩
          · have dc2 := tl_nle tn_4 is7_2_1 c2
            refine ok_ltI (av_mod is7_2_1 tn_2 (by omega) (by omega)) (fun x38 ix38 => ?_)
            refine ok_ltI (av_mul ix38 tn_4 (by omega) (by omega)) (fun x39 ix39 => ?_)
            refine ok_ltI (av_div is7_2_1 tn_2 (by omega) (by omega)) (fun x40 ix40 => ?_)
            refine ok_ltI (av_mul ix40 tn_4 (by omega) (by omega)) (fun x41 ix41 => ?_)
            refine ok_dr rfl (g_lt ts7_2_2 (by decide)) (g_k ts7_2_2 (by decide) rfl) ?_
            refine ok_chk (nxg (g_n (i := 209) (n := 3) ts7_2_2 (by decide) rfl) is2_2_1 (by omega) (by omega)) ?_
            refine ok_dr rfl (g_lt ts7_2_2 (by decide)) (g_k ts7_2_2 (by decide) rfl) ?_
            refine ok_bnd (s_colourAt ts7_2_2 (tt_pic ts7_2_2) (tt_p ts7_2_2) i2 ix39 ix41 (by omega) (by omega) (by omega) (by omega) (by omega) (by omega)) ?_
            intro y44 hyy44
            obtain ⟨ty44, gy44, iy44⟩ := hyy44
            have fy44 := fr_tr fs7_2_2 gy44 rfl
            refine ok_dr (tt_pic ty44) (by have q := (tt_q0b ty44 (tt_p ty44)); omega) (gk_0 ty44 (tt_p ty44)) ?_
            refine ok_ltI (tw_q ty44 (tt_p ty44)) (fun x46 ix46 => ?_)
            refine ok_ltI (av_mul tn_8 ix46 (by omega) (by omega)) (fun x47 ix47 => ?_)
            refine ok_ltI (av_mul tn_64 is2_2_1 (by omega) (by omega)) (fun x48 ix48 => ?_)
            refine ok_ltI (av_add tn_192 ix48 (by omega) (by omega)) (fun x49 ix49 => ?_)
            refine ok_ltI (av_mul tn_8 ix41 (by omega) (by omega)) (fun x50 ix50 => ?_)
            refine ok_ltI (av_add ix49 ix50 (by omega) (by omega)) (fun x51 ix51 => ?_)
            refine ok_ltI (av_add ix51 ix39 (by omega) (by omega)) (fun x52 ix52 => ?_)
            obtain ⟨c3, hc3, nc3, ec3⟩ := ps_v ts7_2_2 is2_2_1 (by omega) (by omega)
            refine ok_bnd (s_turn ty44 ec3 hc3 nc3 iy44 ix47 ix52 tn_8 (by omega) (by omega) (by omega) (by omega) (by omega) (by omega) (by omega)) ?_
            intro y53 hyy53
            obtain ⟨ty53, gy53⟩ := hyy53
            have fy53 := fr_tr fy44 gy53 rfl
            refine ok_dr (f_r (b := 145) ty53 rfl (by decide)) (g_lt ty53 (by decide)) (g_k ty53 (by decide) rfl) ?_
            refine ok_chk (nxg (g_n (i := 145) (n := 16) ty53 (by decide) rfl) tn_0 (by omega) (by omega)) ?_
            refine ok_ltA (fun x55 => ?_)
            refine ok_dr (f_r (b := 146) ty53 rfl (by decide)) (g_lt ty53 (by decide)) (g_k ty53 (by decide) rfl) ?_
            refine ok_chk (nxg (g_n (i := 146) (n := 16) ty53 (by decide) rfl) is7_2_1 (by omega) (by omega)) ?_
            refine ok_ltt (fun M57 eM57 => ?_)
            have tM57 : TT G M57 p 1 L := by rw [eM57]; exact (tt_w0 ty53 rfl)
            have fM57 : Fr p [2, 5, 6] M M57 := by rw [eM57]; exact (fr_w fy53 rfl)
            clear eM57
            refine ok_ltI (av_mul tn_4 is2_2_1 (by omega) (by omega)) (fun x58 ix58 => ?_)
            refine ok_ltI (av_add tn_15 ix58 (by omega) (by omega)) (fun x59 ix59 => ?_)
            refine ok_ltI (av_add ix59 is7_2_1 (by omega) (by omega)) (fun x60 ix60 => ?_)
            refine ok_bnd (s_levelAt tM57 i2 ix60 (by omega) (by omega) (by omega) (by omega)) ?_
            intro y61 hyy61
            obtain ⟨ty61, gy61, iy61⟩ := hyy61
            have fy61 := fr_tr fM57 gy61 rfl
            refine ok_bnd (s_measure ty61 (f_r (b := 132) tM57 rfl (by decide)) iy61 tn_1 i3 (by omega) (by omega) (by omega) (by omega) (by omega) (by omega)) ?_
            intro y62 hyy62
            obtain ⟨ty62, gy62, _⟩ := hyy62
            have fy62 := fr_tr fy61 gy62 rfl
            refine ok_ltI (av_mul tn_24 i2 (by omega) (by omega)) (fun x63 ix63 => ?_)
            refine ok_ltI (av_add ix63 tn_12 (by omega) (by omega)) (fun x64 ix64 => ?_)
            refine ok_ltI (av_mul tn_4 is2_2_1 (by omega) (by omega)) (fun x65 ix65 => ?_)
            refine ok_ltI (av_add ix64 ix65 (by omega) (by omega)) (fun x66 ix66 => ?_)
            refine ok_ltI (av_add ix66 is7_2_1 (by omega) (by omega)) (fun x67 ix67 => ?_)
            refine ok_dr (f_r (b := 131) ty62 rfl (by decide)) (g_lt ty62 (by decide)) (g_k ty62 (by decide) rfl) ?_
            refine ok_chk (nxg (g_n (i := 131) (n := 768) ty62 (by decide) rfl) ix67 (by omega) (by omega)) ?_
            refine ok_ltt (fun M69 eM69 => ?_)
            have tM69 : TT G M69 p 1 L := by rw [eM69]; exact (tt_w0 ty62 rfl)
            have fM69 : Fr p [2, 5, 6] M M69 := by rw [eM69]; exact (fr_w fy62 rfl)
            clear eM69
            refine ok_bnd (Q := fun (z : Int32) => True) ?_ ?_
            · refine ok_if (fun c4 => ?_) (fun c4 => ?_)
              · have dc4 := tl_le (rfl : TI y62.2 y62.2.toInt) tn_0 c4
                exact ok_some trivial
              · have dc4 := tl_nle (rfl : TI y62.2 y62.2.toInt) tn_0 c4
                exact ok_some trivial
            · intro y70 hyy70
              have u_y70 := hyy70
              refine ok_ltI (av_add is7_2_1 tn_1 (by omega) (by omega)) (fun x71 ix71 => ?_)
              exact ok_some ⟨⟨trivial, (ti_bd ix71 (by omega) (by omega)), tM69, fM69⟩, (mu_up ix71 (by omega) (by omega))⟩
        · exact ⟨trivial, (ti_bd tn_0 (by omega) (by omega)), ts2_2_2, fs2_2_2⟩
        · exact mu_0 tn_0 (by omega)
        · intro y6 hyy6
          obtain ⟨_, ly6_2_1, ty6_2_2, fy6_2_2⟩ := hyy6
          have iy6_2_1 : TI y6.2.1 y6.2.1.toInt := rfl
          refine ok_bnd (s_turnFour ty6_2_2) ?_
          intro y9 hyy9
          obtain ⟨ty9, gy9⟩ := hyy9
          have fy9 := fr_tr fy6_2_2 gy9 rfl
          refine ok_ltI (av_add tn_16 is2_2_1 (by omega) (by omega)) (fun x10 ix10 => ?_)
          refine ok_bnd (s_levelAt ty9 i2 ix10 (by omega) (by omega) (by omega) (by omega)) ?_
          intro y11 hyy11
          obtain ⟨ty11, gy11, iy11⟩ := hyy11
          have fy11 := fr_tr fy9 gy11 rfl
          refine ok_bnd (Q := fun (z : Int32 × Int32 × DD) => True ∧ (0 ≤ z.2.1.toInt ∧ z.2.1.toInt ≤ 4) ∧ TT G z.2.2 p 1 L ∧ Fr p [2, 5, 6] M z.2.2) (ok_itr (fun (z : Int32 × Int32 × DD) => True ∧ (0 ≤ z.2.1.toInt ∧ z.2.1.toInt ≤ 4) ∧ TT G z.2.2 p 1 L ∧ Fr p [2, 5, 6] M z.2.2) (fun z => (4 - z.2.1.toInt).toNat) ?_ _ _ ?_ ?_) ?_
          · intro s13 hys13
            obtain ⟨_, ls13_2_1, ts13_2_2, fs13_2_2⟩ := hys13
            have is13_2_1 : TI s13.2.1 s13.2.1.toInt := rfl
            refine ok_if (fun c5 => ?_) (fun c5 => ?_)
            · have dc5 := tl_le tn_4 is13_2_1 c5
              exact ok_some ⟨trivial, (ti_bd is13_2_1 (by omega) (by omega)), ts13_2_2, fs13_2_2⟩
            · have dc5 := tl_nle tn_4 is13_2_1 c5
              refine ok_dr (f_r (b := 146) ts13_2_2 rfl (by decide)) (g_lt ts13_2_2 (by decide)) (g_k ts13_2_2 (by decide) rfl) ?_
              refine ok_chk (nxg (g_n (i := 146) (n := 16) ts13_2_2 (by decide) rfl) is13_2_1 (by omega) (by omega)) ?_
              refine ok_ltA (fun x19 => ?_)
              refine ok_bnd (s_normAt ts13_2_2 i3 tn_0 tn_0 (by omega) (by omega)) ?_
              intro y20 hyy20
              obtain ⟨ty20, gy20, ly20⟩ := hyy20
              have fy20 := fr_tr fs13_2_2 gy20 rfl
              have iy20 : TI y20.2 y20.2.toInt := rfl
              refine ok_chk (nx iy20 (by omega) (by omega)) ?_
              refine ok_ltB (tb_12 _) (fun x21 lx21 => ?_)
              have ix21 : TI x21 x21.toInt := rfl
              refine ok_bnd (s_roundingOf ty20) ?_
              intro y22 hyy22
              obtain ⟨ty22, gy22, _⟩ := hyy22
              have fy22 := fr_tr fy20 gy22 rfl
              refine ok_ltA (fun x23 => ?_)
              refine ok_ltI (av_div i3 tn_6 (by omega) (by omega)) (fun x24 ix24 => ?_)
              refine ok_ltI (av_add tn_16 ix24 (by omega) (by omega)) (fun x25 ix25 => ?_)
              refine ok_bnd (s_measured ty22) ?_
              intro y26 hyy26
              obtain ⟨ty26, gy26, _⟩ := hyy26
              have fy26 := fr_tr fy22 gy26 rfl
              refine ok_dr rfl (g_lt ty26 (by decide)) (g_k ty26 (by decide) rfl) ?_
              refine ok_ltI (av_add iy11 is13_2_1 (by omega) (by omega)) (fun x28 ix28 => ?_)
              refine ok_dr (f_r (b := 132) ty26 rfl (by decide)) (g_lt ty26 (by decide)) (g_k ty26 (by decide) rfl) ?_
              refine ok_chk (nxg (g_n (i := 132) (n := 13824) ty26 (by decide) rfl) ix28 (by omega) (by omega)) ?_
              refine ok_ltt (fun M30 eM30 => ?_)
              have tM30 : TT G M30 p 1 L := by rw [eM30]; exact (tt_w0 ty26 rfl)
              have fM30 : Fr p [2, 5, 6] M M30 := by rw [eM30]; exact (fr_w fy26 rfl)
              clear eM30
              refine ok_bnd (Q := fun (z : Int32) => True) ?_ ?_
              · refine ok_if (fun c6 => ?_) (fun c6 => ?_)
                · have dc6 := tl_eq (rfl : TI y26.2 y26.2.toInt) tn_0 c6
                  exact ok_some trivial
                · refine ok_bnd (Q := fun (z : Int32) => True) ?_ ?_
                  · refine ok_if (fun c7 => ?_) (fun c7 => ?_)
                    · have dc7 := tl_eq (rfl : TI s13.1 s13.1.toInt) tn_0 c7
                      exact ok_some trivial
                    · exact ok_some trivial
                  · intro y34 hyy34
                    have u_y34 := hyy34
                    exact ok_some trivial
              · intro y31 hyy31
                have u_y31 := hyy31
                refine ok_ltI (av_add is13_2_1 tn_1 (by omega) (by omega)) (fun x32 ix32 => ?_)
                exact ok_some ⟨⟨trivial, (ti_bd ix32 (by omega) (by omega)), tM30, fM30⟩, (mu_up ix32 (by omega) (by omega))⟩
          · exact ⟨trivial, (ti_bd tn_0 (by omega) (by omega)), ty11, fy11⟩
          · exact mu_0 tn_0 (by omega)
          · intro y12 hyy12
            obtain ⟨_, ly12_2_1, ty12_2_2, fy12_2_2⟩ := hyy12
            have iy12_2_1 : TI y12.2.1 y12.2.1.toInt := rfl
            refine ok_ltI (av_add is2_2_1 tn_1 (by omega) (by omega)) (fun x15 ix15 => ?_)
            exact ok_some ⟨⟨trivial, (ti_bd ix15 (by omega) (by omega)), ty12_2_2, fy12_2_2⟩, (mu_up ix15 (by omega) (by omega))⟩
    · exact ⟨trivial, (ti_bd tn_1 (by omega) (by omega)), t, (fr_0 p [2, 5, 6] M)⟩
    · exact mu_0 tn_1 (by omega)
    · intro y1 hyy1
      obtain ⟨_, ly1_2_1, ty1_2_2, fy1_2_2⟩ := hyy1
      have iy1_2_1 : TI y1.2.1 y1.2.1.toInt := rfl
      exact ok_some ⟨ty1_2_2, fy1_2_2, trivial⟩
  · refine ok_bnd (Q := fun (z : Int32 × Int32 × DD) => True ∧ (1 ≤ z.2.1.toInt ∧ z.2.1.toInt ≤ 3) ∧ TT G z.2.2 p 2 L ∧ Fr p [2, 5, 6] M z.2.2) (ok_itr (fun (z : Int32 × Int32 × DD) => True ∧ (1 ≤ z.2.1.toInt ∧ z.2.1.toInt ≤ 3) ∧ TT G z.2.2 p 2 L ∧ Fr p [2, 5, 6] M z.2.2) (fun z => (3 - z.2.1.toInt).toNat) ?_ _ _ ?_ ?_) ?_
    · intro s2 hys2
      obtain ⟨_, ls2_2_1, ts2_2_2, fs2_2_2⟩ := hys2
      have is2_2_1 : TI s2.2.1 s2.2.1.toInt := rfl
      refine ok_if (fun c1 => ?_) (fun c1 => ?_)
      · have dc1 := tl_le tn_3 is2_2_1 c1
        exact ok_some ⟨trivial, (ti_bd is2_2_1 (by omega) (by omega)), ts2_2_2, fs2_2_2⟩
      · have dc1 := tl_nle tn_3 is2_2_1 c1
        refine ok_bnd (Q := fun (z : Int32 × Int32 × DD) => True ∧ (0 ≤ z.2.1.toInt ∧ z.2.1.toInt ≤ 4) ∧ TT G z.2.2 p 2 L ∧ Fr p [2, 5, 6] M z.2.2) (ok_itr (fun (z : Int32 × Int32 × DD) => True ∧ (0 ≤ z.2.1.toInt ∧ z.2.1.toInt ≤ 4) ∧ TT G z.2.2 p 2 L ∧ Fr p [2, 5, 6] M z.2.2) (fun z => (4 - z.2.1.toInt).toNat) ?_ _ _ ?_ ?_) ?_
        · intro s7 hys7
          obtain ⟨_, ls7_2_1, ts7_2_2, fs7_2_2⟩ := hys7
          have is7_2_1 : TI s7.2.1 s7.2.1.toInt := rfl
          refine ok_if (fun c2 => ?_) (fun c2 => ?_)
          · have dc2 := tl_le tn_4 is7_2_1 c2
            exact ok_some ⟨trivial, (ti_bd is7_2_1 (by omega) (by omega)), ts7_2_2, fs7_2_2⟩
          · have dc2 := tl_nle tn_4 is7_2_1 c2
            refine ok_ltI (av_mod is7_2_1 tn_2 (by omega) (by omega)) (fun x38 ix38 => ?_)
            refine ok_ltI (av_mul ix38 tn_4 (by omega) (by omega)) (fun x39 ix39 => ?_)
            refine ok_ltI (av_div is7_2_1 tn_2 (by omega) (by omega)) (fun x40 ix40 => ?_)
            refine ok_ltI (av_mul ix40 tn_4 (by omega) (by omega)) (fun x41 ix41 => ?_)
            refine ok_dr rfl (g_lt ts7_2_2 (by decide)) (g_k ts7_2_2 (by decide) rfl) ?_
            refine ok_chk (nxg (g_n (i := 209) (n := 3) ts7_2_2 (by decide) rfl) is2_2_1 (by omega) (by omega)) ?_
            refine ok_dr rfl (g_lt ts7_2_2 (by decide)) (g_k ts7_2_2 (by decide) rfl) ?_
            refine ok_bnd (s_colourAt ts7_2_2 (tt_pic ts7_2_2) (tt_p ts7_2_2) i2 ix39 ix41 (by omega) (by omega) (by omega) (by omega) (by omega) (by omega)) ?_
            intro y44 hyy44
            obtain ⟨ty44, gy44, iy44⟩ := hyy44
            have fy44 := fr_tr fs7_2_2 gy44 rfl
            refine ok_dr (tt_pic ty44) (by have q := (tt_q0b ty44 (tt_p ty44)); omega) (gk_0 ty44 (tt_p ty44)) ?_
            refine ok_ltI (tw_q ty44 (tt_p ty44)) (fun x46 ix46 => ?_)
            refine ok_ltI (av_mul tn_8 ix46 (by omega) (by omega)) (fun x47 ix47 => ?_)
            refine ok_ltI (av_mul tn_64 is2_2_1 (by omega) (by omega)) (fun x48 ix48 => ?_)
            refine ok_ltI (av_add tn_192 ix48 (by omega) (by omega)) (fun x49 ix49 => ?_)
            refine ok_ltI (av_mul tn_8 ix41 (by omega) (by omega)) (fun x50 ix50 => ?_)
            refine ok_ltI (av_add ix49 ix50 (by omega) (by omega)) (fun x51 ix51 => ?_)
            refine ok_ltI (av_add ix51 ix39 (by omega) (by omega)) (fun x52 ix52 => ?_)
            obtain ⟨c3, hc3, nc3, ec3⟩ := ps_v ts7_2_2 is2_2_1 (by omega) (by omega)
            refine ok_bnd (s_turn ty44 ec3 hc3 nc3 iy44 ix47 ix52 tn_8 (by omega) (by omega) (by omega) (by omega) (by omega) (by omega) (by omega)) ?_
            intro y53 hyy53
            obtain ⟨ty53, gy53⟩ := hyy53
            have fy53 := fr_tr fy44 gy53 rfl
            refine ok_dr (f_r (b := 145) ty53 rfl (by decide)) (g_lt ty53 (by decide)) (g_k ty53 (by decide) rfl) ?_
            refine ok_chk (nxg (g_n (i := 145) (n := 16) ty53 (by decide) rfl) tn_0 (by omega) (by omega)) ?_
            refine ok_ltA (fun x55 => ?_)
            refine ok_dr (f_r (b := 146) ty53 rfl (by decide)) (g_lt ty53 (by decide)) (g_k ty53 (by decide) rfl) ?_
            refine ok_chk (nxg (g_n (i := 146) (n := 16) ty53 (by decide) rfl) is7_2_1 (by omega) (by omega)) ?_
            refine ok_ltt (fun M57 eM57 => ?_)
            have tM57 : TT G M57 p 2 L := by rw [eM57]; exact (tt_w0 ty53 rfl)
            have fM57 : Fr p [2, 5, 6] M M57 := by rw [eM57]; exact (fr_w fy53 rfl)
            clear eM57
            refine ok_ltI (av_mul tn_4 is2_2_1 (by omega) (by omega)) (fun x58 ix58 => ?_)
            refine ok_ltI (av_add tn_15 ix58 (by omega) (by omega)) (fun x59 ix59 => ?_)
            refine ok_ltI (av_add ix59 is7_2_1 (by omega) (by omega)) (fun x60 ix60 => ?_)
            refine ok_bnd (s_levelAt tM57 i2 ix60 (by omega) (by omega) (by omega) (by omega)) ?_
            intro y61 hyy61
            obtain ⟨ty61, gy61, iy61⟩ := hyy61
            have fy61 := fr_tr fM57 gy61 rfl
            refine ok_bnd (s_measure ty61 (f_r (b := 132) tM57 rfl (by decide)) iy61 tn_1 i3 (by omega) (by omega) (by omega) (by omega) (by omega) (by omega)) ?_
            intro y62 hyy62
            obtain ⟨ty62, gy62, _⟩ := hyy62
            have fy62 := fr_tr fy61 gy62 rfl
            refine ok_ltI (av_mul tn_24 i2 (by omega) (by omega)) (fun x63 ix63 => ?_)
            refine ok_ltI (av_add ix63 tn_12 (by omega) (by omega)) (fun x64 ix64 => ?_)
            refine ok_ltI (av_mul tn_4 is2_2_1 (by omega) (by omega)) (fun x65 ix65 => ?_)
            refine ok_ltI (av_add ix64 ix65 (by omega) (by omega)) (fun x66 ix66 => ?_)
            refine ok_ltI (av_add ix66 is7_2_1 (by omega) (by omega)) (fun x67 ix67 => ?_)
            refine ok_dr (f_r (b := 131) ty62 rfl (by decide)) (g_lt ty62 (by decide)) (g_k ty62 (by decide) rfl) ?_
            refine ok_chk (nxg (g_n (i := 131) (n := 768) ty62 (by decide) rfl) ix67 (by omega) (by omega)) ?_
            refine ok_ltt (fun M69 eM69 => ?_)
            have tM69 : TT G M69 p 2 L := by rw [eM69]; exact (tt_w0 ty62 rfl)
            have fM69 : Fr p [2, 5, 6] M M69 := by rw [eM69]; exact (fr_w fy62 rfl)
            clear eM69
            refine ok_bnd (Q := fun (z : Int32) => True) ?_ ?_
            · refine ok_if (fun c4 => ?_) (fun c4 => ?_)
              · have dc4 := tl_le (rfl : TI y62.2 y62.2.toInt) tn_0 c4
                exact ok_some trivial
              · have dc4 := tl_nle (rfl : TI y62.2 y62.2.toInt) tn_0 c4
                exact ok_some trivial
            · intro y70 hyy70
              have u_y70 := hyy70
              refine ok_ltI (av_add is7_2_1 tn_1 (by omega) (by omega)) (fun x71 ix71 => ?_)
              exact ok_some ⟨⟨trivial, (ti_bd ix71 (by omega) (by omega)), tM69, fM69⟩, (mu_up ix71 (by omega) (by omega))⟩
        · exact ⟨trivial, (ti_bd tn_0 (by omega) (by omega)), ts2_2_2, fs2_2_2⟩
        · exact mu_0 tn_0 (by omega)
        · intro y6 hyy6
          obtain ⟨_, ly6_2_1, ty6_2_2, fy6_2_2⟩ := hyy6
          have iy6_2_1 : TI y6.2.1 y6.2.1.toInt := rfl
          refine ok_bnd (s_turnFour ty6_2_2) ?_
          intro y9 hyy9
          obtain ⟨ty9, gy9⟩ := hyy9
          have fy9 := fr_tr fy6_2_2 gy9 rfl
          refine ok_ltI (av_add tn_16 is2_2_1 (by omega) (by omega)) (fun x10 ix10 => ?_)
          refine ok_bnd (s_levelAt ty9 i2 ix10 (by omega) (by omega) (by omega) (by omega)) ?_
          intro y11 hyy11
          obtain ⟨ty11, gy11, iy11⟩ := hyy11
          have fy11 := fr_tr fy9 gy11 rfl
          refine ok_bnd (Q := fun (z : Int32 × Int32 × DD) => True ∧ (0 ≤ z.2.1.toInt ∧ z.2.1.toInt ≤ 4) ∧ TT G z.2.2 p 2 L ∧ Fr p [2, 5, 6] M z.2.2) (ok_itr (fun (z : Int32 × Int32 × DD) => True ∧ (0 ≤ z.2.1.toInt ∧ z.2.1.toInt ≤ 4) ∧ TT G z.2.2 p 2 L ∧ Fr p [2, 5, 6] M z.2.2) (fun z => (4 - z.2.1.toInt).toNat) ?_ _ _ ?_ ?_) ?_
          · intro s13 hys13
            obtain ⟨_, ls13_2_1, ts13_2_2, fs13_2_2⟩ := hys13
            have is13_2_1 : TI s13.2.1 s13.2.1.toInt := rfl
            refine ok_if (fun c5 => ?_) (fun c5 => ?_)
            · have dc5 := tl_le tn_4 is13_2_1 c5
              exact ok_some ⟨trivial, (ti_bd is13_2_1 (by omega) (by omega)), ts13_2_2, fs13_2_2⟩
            · have dc5 := tl_nle tn_4 is13_2_1 c5
              refine ok_dr (f_r (b := 146) ts13_2_2 rfl (by decide)) (g_lt ts13_2_2 (by decide)) (g_k ts13_2_2 (by decide) rfl) ?_
              refine ok_chk (nxg (g_n (i := 146) (n := 16) ts13_2_2 (by decide) rfl) is13_2_1 (by omega) (by omega)) ?_
              refine ok_ltA (fun x19 => ?_)
              refine ok_bnd (s_normAt ts13_2_2 i3 tn_0 tn_0 (by omega) (by omega)) ?_
              intro y20 hyy20
              obtain ⟨ty20, gy20, ly20⟩ := hyy20
              have fy20 := fr_tr fs13_2_2 gy20 rfl
              have iy20 : TI y20.2 y20.2.toInt := rfl
              refine ok_chk (nx iy20 (by omega) (by omega)) ?_
              refine ok_ltB (tb_12 _) (fun x21 lx21 => ?_)
              have ix21 : TI x21 x21.toInt := rfl
              refine ok_bnd (s_roundingOf ty20) ?_
              intro y22 hyy22
              obtain ⟨ty22, gy22, _⟩ := hyy22
              have fy22 := fr_tr fy20 gy22 rfl
              refine ok_ltA (fun x23 => ?_)
              refine ok_ltI (av_div i3 tn_6 (by omega) (by omega)) (fun x24 ix24 => ?_)
              refine ok_ltI (av_add tn_16 ix24 (by omega) (by omega)) (fun x25 ix25 => ?_)
              refine ok_bnd (s_measured ty22) ?_
              intro y26 hyy26
              obtain ⟨ty26, gy26, _⟩ := hyy26
              have fy26 := fr_tr fy22 gy26 rfl
              refine ok_dr rfl (g_lt ty26 (by decide)) (g_k ty26 (by decide) rfl) ?_
              refine ok_ltI (av_add iy11 is13_2_1 (by omega) (by omega)) (fun x28 ix28 => ?_)
              refine ok_dr (f_r (b := 132) ty26 rfl (by decide)) (g_lt ty26 (by decide)) (g_k ty26 (by decide) rfl) ?_
              refine ok_chk (nxg (g_n (i := 132) (n := 13824) ty26 (by decide) rfl) ix28 (by omega) (by omega)) ?_
              refine ok_ltt (fun M30 eM30 => ?_)
              have tM30 : TT G M30 p 2 L := by rw [eM30]; exact (tt_w0 ty26 rfl)
              have fM30 : Fr p [2, 5, 6] M M30 := by rw [eM30]; exact (fr_w fy26 rfl)
              clear eM30
              refine ok_bnd (Q := fun (z : Int32) => True) ?_ ?_
              · refine ok_if (fun c6 => ?_) (fun c6 => ?_)
                · have dc6 := tl_eq (rfl : TI y26.2 y26.2.toInt) tn_0 c6
                  exact ok_some trivial
                · refine ok_bnd (Q := fun (z : Int32) => True) ?_ ?_
                  · refine ok_if (fun c7 => ?_) (fun c7 => ?_)
                    · have dc7 := tl_eq (rfl : TI s13.1 s13.1.toInt) tn_0 c7
                      exact ok_some trivial
                    · exact ok_some trivial
                  · intro y34 hyy34
                    have u_y34 := hyy34
                    exact ok_some trivial
              · intro y31 hyy31
                have u_y31 := hyy31
                refine ok_ltI (av_add is13_2_1 tn_1 (by omega) (by omega)) (fun x32 ix32 => ?_)
                exact ok_some ⟨⟨trivial, (ti_bd ix32 (by omega) (by omega)), tM30, fM30⟩, (mu_up ix32 (by omega) (by omega))⟩
          · exact ⟨trivial, (ti_bd tn_0 (by omega) (by omega)), ty11, fy11⟩
          · exact mu_0 tn_0 (by omega)
          · intro y12 hyy12
            obtain ⟨_, ly12_2_1, ty12_2_2, fy12_2_2⟩ := hyy12
            have iy12_2_1 : TI y12.2.1 y12.2.1.toInt := rfl
            refine ok_ltI (av_add is2_2_1 tn_1 (by omega) (by omega)) (fun x15 ix15 => ?_)
            exact ok_some ⟨⟨trivial, (ti_bd ix15 (by omega) (by omega)), ty12_2_2, fy12_2_2⟩, (mu_up ix15 (by omega) (by omega))⟩
    · exact ⟨trivial, (ti_bd tn_1 (by omega) (by omega)), t, (fr_0 p [2, 5, 6] M)⟩
    · exact mu_0 tn_1 (by omega)
    · intro y1 hyy1
      obtain ⟨_, ly1_2_1, ty1_2_2, fy1_2_2⟩ := hyy1
      have iy1_2_1 : TI y1.2.1 y1.2.1.toInt := rfl
      exact ok_some ⟨ty1_2_2, fy1_2_2, trivial⟩
