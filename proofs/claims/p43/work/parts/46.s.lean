/-! safety of the coder's functions, printed out of their trees -/
theorem s_clamp {G : GG} {M : DD} {p : Nat} {w : Int} {L : List Nat} (t : TT G M p w L) {p0 : Int32} {a0 : Int} (i0 : TI p0 a0) {p1 : Int32} {a1 : Int} (i1 : TI p1 a1) {p2 : Int32} (h0 : a0 ≤ a1) : OK (FX11_clamp G M p0 p1 p2) (fun y => TT G y.1 p w L ∧ Fr p [] M y.1 ∧ ((a0 ≤ y.2.toInt ∧ y.2.toInt ≤ a1))) := by
  unfold FX11_clamp
  have hw12 : 1 ≤ w ∧ w ≤ 2 := by rcases tt_w t with h | h <;> omega
  refine ok_bnd (Q := fun (z : Int32) => True ∧ (a0 ≤ z.toInt ∧ z.toInt ≤ a1)) ?_ ?_
  · refine ok_if (fun c1 => ?_) (fun c1 => ?_)
    · have dc1 := tl_le i0 (rfl : TI p2 p2.toInt) c1
      refine ok_bnd (Q := fun (z : Int32) => True ∧ (a0 ≤ z.toInt ∧ z.toInt ≤ a1)) ?_ ?_
      · refine ok_if (fun c2 => ?_) (fun c2 => ?_)
        · have dc2 := tl_le (rfl : TI p2 p2.toInt) i1 c2
          exact ok_some ⟨trivial, (by have q : _ = _ := (rfl : TI p2 p2.toInt); (try dsimp only); omega)⟩
        · have dc2 := tl_nle (rfl : TI p2 p2.toInt) i1 c2
          exact ok_some ⟨trivial, (by have q : _ = _ := i1; (try dsimp only); omega)⟩
      · intro y3 hyy3
        obtain ⟨_, jy3⟩ := hyy3
        exact ok_some ⟨trivial, (by have q : _ = _ := (rfl : TI y3 y3.toInt); (try dsimp only); omega)⟩
    · have dc1 := tl_nle i0 (rfl : TI p2 p2.toInt) c1
      exact ok_some ⟨trivial, (by have q : _ = _ := i0; (try dsimp only); omega)⟩
  · intro y1 hyy1
    obtain ⟨_, jy1⟩ := hyy1
    exact ok_some ⟨t, (fr_0 p [] M), (by have q : _ = _ := (rfl : TI y1 y1.toInt); (try dsimp only); omega)⟩
theorem s_pieceX {G : GG} {M : DD} {p : Nat} {w : Int} {L : List Nat} (t : TT G M p w L) {p0 : Int32} {a0 : Int} (i0 : TI p0 a0) (h0 : 0 ≤ a0) (h1 : a0 ≤ 16) : OK (FX9_pieceX G M p0) (fun y => TT G y.1 p w L ∧ Fr p [] M y.1 ∧ TI y.2 (8 * (a0 / 4 % 2) + 4 * (a0 % 2))) := by
  unfold FX9_pieceX
  have hw12 : 1 ≤ w ∧ w ≤ 2 := by rcases tt_w t with h | h <;> omega
  refine ok_ltI (av_div i0 tn_4 (by omega) (by omega)) (fun x1 ix1 => ?_)
  refine ok_ltI (av_mod ix1 tn_2 (by omega) (by omega)) (fun x2 ix2 => ?_)
  refine ok_ltI (av_mul tn_8 ix2 (by omega) (by omega)) (fun x3 ix3 => ?_)
  refine ok_ltI (av_mod i0 tn_2 (by omega) (by omega)) (fun x4 ix4 => ?_)
  refine ok_ltI (av_mul tn_4 ix4 (by omega) (by omega)) (fun x5 ix5 => ?_)
  refine ok_ltI (av_add ix3 ix5 (by omega) (by omega)) (fun x6 ix6 => ?_)
  exact ok_some ⟨t, (fr_0 p [] M), (ix6)⟩
theorem s_pieceY {G : GG} {M : DD} {p : Nat} {w : Int} {L : List Nat} (t : TT G M p w L) {p0 : Int32} {a0 : Int} (i0 : TI p0 a0) (h0 : 0 ≤ a0) (h1 : a0 ≤ 16) : OK (FX9_pieceY G M p0) (fun y => TT G y.1 p w L ∧ Fr p [] M y.1 ∧ TI y.2 (8 * (a0 / 8) + 4 * (a0 / 2 % 2))) := by
  unfold FX9_pieceY
  have hw12 : 1 ≤ w ∧ w ≤ 2 := by rcases tt_w t with h | h <;> omega
  refine ok_ltI (av_div i0 tn_8 (by omega) (by omega)) (fun x1 ix1 => ?_)
  refine ok_ltI (av_mul tn_8 ix1 (by omega) (by omega)) (fun x2 ix2 => ?_)
  refine ok_ltI (av_div i0 tn_2 (by omega) (by omega)) (fun x3 ix3 => ?_)
  refine ok_ltI (av_mod ix3 tn_2 (by omega) (by omega)) (fun x4 ix4 => ?_)
  refine ok_ltI (av_mul tn_4 ix4 (by omega) (by omega)) (fun x5 ix5 => ?_)
  refine ok_ltI (av_add ix2 ix5 (by omega) (by omega)) (fun x6 ix6 => ?_)
  exact ok_some ⟨t, (fr_0 p [] M), (ix6)⟩
theorem s_levelAt {G : GG} {M : DD} {p : Nat} {w : Int} {L : List Nat} (t : TT G M p w L) {p0 : Int32} {a0 : Int} (i0 : TI p0 a0) {p1 : Int32} {a1 : Int} (i1 : TI p1 a1) (h0 : 0 ≤ a0) (h1 : a0 ≤ 31) (h2 : 0 ≤ a1) (h3 : a1 ≤ 26) : OK (FX9_levelAt G M p0 p1) (fun y => TT G y.1 p w L ∧ Fr p [] M y.1 ∧ TI y.2 (16 * (27 * a0 + a1))) := by
  unfold FX9_levelAt
  have hw12 : 1 ≤ w ∧ w ≤ 2 := by rcases tt_w t with h | h <;> omega
  refine ok_ltI (av_mul tn_27 i0 (by omega) (by omega)) (fun x1 ix1 => ?_)
  refine ok_ltI (av_add ix1 i1 (by omega) (by omega)) (fun x2 ix2 => ?_)
  refine ok_ltI (av_mul tn_16 ix2 (by omega) (by omega)) (fun x3 ix3 => ?_)
  exact ok_some ⟨t, (fr_0 p [] M), (ix3)⟩
theorem s_at {G : GG} {M : DD} {p : Nat} {w : Int} {L : List Nat} (t : TT G M p w L) {p0 : Int32} {a0 : Int} (i0 : TI p0 a0) {p1 : Int32} {a1 : Int} (i1 : TI p1 a1) (h0 : 0 ≤ a0) (h1 : a0 ≤ 1) (h2 : 0 ≤ a1) (h3 : a1 ≤ 511) : OK (FX4_at G M p0 p1) (fun y => TT G y.1 p w L ∧ Fr p [] M y.1 ∧ TI y.2 (512 * a0 + a1)) := by
  unfold FX4_at
  have hw12 : 1 ≤ w ∧ w ≤ 2 := by rcases tt_w t with h | h <;> omega
  refine ok_ltI (av_mul tn_512 i0 (by omega) (by omega)) (fun x1 ix1 => ?_)
  refine ok_ltI (av_add ix1 i1 (by omega) (by omega)) (fun x2 ix2 => ?_)
  exact ok_some ⟨t, (fr_0 p [] M), (ix2)⟩
theorem s_blocks {G : GG} {M : DD} {p : Nat} {w : Int} {L : List Nat} (t : TT G M p w L) {q : Nat} (hq : q ∈ L) : OK (FX4_blocks G M q) (fun y => TT G y.1 p w L ∧ Fr p [] M y.1 ∧ TI y.2 (w * 2)) := by
  unfold FX4_blocks
  have hw12 : 1 ≤ w ∧ w ≤ 2 := by rcases tt_w t with h | h <;> omega
  rcases tt_w t with rfl | rfl
  · refine ok_ltI (tw_q t hq) (fun x1 ix1 => ?_)
    refine ok_ltI (th_q t hq) (fun x2 ix2 => ?_)
    refine ok_ltI (av_mul ix1 ix2 (by omega) (by omega)) (fun x3 ix3 => ?_)
    exact ok_some ⟨t, (fr_0 p [] M), (ix3)⟩
  · refine ok_ltI (tw_q t hq) (fun x1 ix1 => ?_)
    refine ok_ltI (th_q t hq) (fun x2 ix2 => ?_)
    refine ok_ltI (av_mul ix1 ix2 (by omega) (by omega)) (fun x3 ix3 => ?_)
    exact ok_some ⟨t, (fr_0 p [] M), (ix3)⟩
theorem s_lumaAt {G : GG} {M : DD} {p : Nat} {w : Int} {L : List Nat} (t : TT G M p w L) {p0 : Option Nat} {q0 : Nat} (e0 : p0 = some q0) (hq0 : q0 ∈ L) {p1 : Int32} {a1 : Int} (i1 : TI p1 a1) {p2 : Int32} {a2 : Int} (i2 : TI p2 a2) {p3 : Int32} {a3 : Int} (i3 : TI p3 a3) (h0 : 0 ≤ a1) (h1 : a1 < 2 * w) (h2 : 0 ≤ a2) (h3 : a2 ≤ 15) (h4 : 0 ≤ a3) (h5 : a3 ≤ 15) : OK (FX6_lumaAt G M p0 p1 p2 p3) (fun y => TT G y.1 p w L ∧ Fr p [] M y.1 ∧ TI y.2 ((16 * (a1 / w) + a3) * 16 * w + 16 * (a1 % w) + a2)) := by
  unfold FX6_lumaAt
  subst e0
  have hw12 : 1 ≤ w ∧ w ≤ 2 := by rcases tt_w t with h | h <;> omega
  rcases tt_w t with rfl | rfl
  · refine ok_dr rfl (by have q := (tt_q0b t hq0); omega) (gk_0 t hq0) ?_
    refine ok_ltI (tw_q t hq0) (fun x2 ix2 => ?_)
    refine ok_chk (nz ix2 (by omega)) ?_
    refine ok_ltI (av_div i1 ix2 (by omega) (by omega)) (fun x3 ix3 => ?_)
    refine ok_ltI (av_mul tn_16 ix3 (by omega) (by omega)) (fun x4 ix4 => ?_)
    refine ok_ltI (av_add ix4 i3 (by omega) (by omega)) (fun x5 ix5 => ?_)
    refine ok_ltI (av_mul ix5 tn_16 (by omega) (by omega)) (fun x6 ix6 => ?_)
    refine ok_ltI (tw_q t hq0) (fun x7 ix7 => ?_)
    refine ok_ltI (av_mul ix6 ix7 (by omega) (by omega)) (fun x8 ix8 => ?_)
    refine ok_ltI (tw_q t hq0) (fun x9 ix9 => ?_)
    refine ok_chk (nz ix9 (by omega)) ?_
    refine ok_ltI (av_mod i1 ix9 (by omega) (by omega)) (fun x10 ix10 => ?_)
    refine ok_ltI (av_mul tn_16 ix10 (by omega) (by omega)) (fun x11 ix11 => ?_)
    refine ok_ltI (av_add ix8 ix11 (by omega) (by omega)) (fun x12 ix12 => ?_)
    refine ok_ltI (av_add ix12 i2 (by omega) (by omega)) (fun x13 ix13 => ?_)
    exact ok_some ⟨t, (fr_0 p [] M), (ix13)⟩
  · refine ok_dr rfl (by have q := (tt_q0b t hq0); omega) (gk_0 t hq0) ?_
    refine ok_ltI (tw_q t hq0) (fun x2 ix2 => ?_)
    refine ok_chk (nz ix2 (by omega)) ?_
    refine ok_ltI (av_div i1 ix2 (by omega) (by omega)) (fun x3 ix3 => ?_)
    refine ok_ltI (av_mul tn_16 ix3 (by omega) (by omega)) (fun x4 ix4 => ?_)
    refine ok_ltI (av_add ix4 i3 (by omega) (by omega)) (fun x5 ix5 => ?_)
    refine ok_ltI (av_mul ix5 tn_16 (by omega) (by omega)) (fun x6 ix6 => ?_)
    refine ok_ltI (tw_q t hq0) (fun x7 ix7 => ?_)
    refine ok_ltI (av_mul ix6 ix7 (by omega) (by omega)) (fun x8 ix8 => ?_)
    refine ok_ltI (tw_q t hq0) (fun x9 ix9 => ?_)
    refine ok_chk (nz ix9 (by omega)) ?_
    refine ok_ltI (av_mod i1 ix9 (by omega) (by omega)) (fun x10 ix10 => ?_)
    refine ok_ltI (av_mul tn_16 ix10 (by omega) (by omega)) (fun x11 ix11 => ?_)
    refine ok_ltI (av_add ix8 ix11 (by omega) (by omega)) (fun x12 ix12 => ?_)
    refine ok_ltI (av_add ix12 i2 (by omega) (by omega)) (fun x13 ix13 => ?_)
    exact ok_some ⟨t, (fr_0 p [] M), (ix13)⟩
theorem s_colourAt {G : GG} {M : DD} {p : Nat} {w : Int} {L : List Nat} (t : TT G M p w L) {p0 : Option Nat} {q0 : Nat} (e0 : p0 = some q0) (hq0 : q0 ∈ L) {p1 : Int32} {a1 : Int} (i1 : TI p1 a1) {p2 : Int32} {a2 : Int} (i2 : TI p2 a2) {p3 : Int32} {a3 : Int} (i3 : TI p3 a3) (h0 : 0 ≤ a1) (h1 : a1 < 2 * w) (h2 : 0 ≤ a2) (h3 : a2 ≤ 7) (h4 : 0 ≤ a3) (h5 : a3 ≤ 7) : OK (FX6_colourAt G M p0 p1 p2 p3) (fun y => TT G y.1 p w L ∧ Fr p [] M y.1 ∧ TI y.2 ((8 * (a1 / w) + a3) * 8 * w + 8 * (a1 % w) + a2)) := by
  unfold FX6_colourAt
  subst e0
  have hw12 : 1 ≤ w ∧ w ≤ 2 := by rcases tt_w t with h | h <;> omega
  rcases tt_w t with rfl | rfl
  · refine ok_dr rfl (by have q := (tt_q0b t hq0); omega) (gk_0 t hq0) ?_
    refine ok_ltI (tw_q t hq0) (fun x2 ix2 => ?_)
    refine ok_chk (nz ix2 (by omega)) ?_
    refine ok_ltI (av_div i1 ix2 (by omega) (by omega)) (fun x3 ix3 => ?_)
    refine ok_ltI (av_mul tn_8 ix3 (by omega) (by omega)) (fun x4 ix4 => ?_)
    refine ok_ltI (av_add ix4 i3 (by omega) (by omega)) (fun x5 ix5 => ?_)
    refine ok_ltI (av_mul ix5 tn_8 (by omega) (by omega)) (fun x6 ix6 => ?_)
    refine ok_ltI (tw_q t hq0) (fun x7 ix7 => ?_)
    refine ok_ltI (av_mul ix6 ix7 (by omega) (by omega)) (fun x8 ix8 => ?_)
    refine ok_ltI (tw_q t hq0) (fun x9 ix9 => ?_)
    refine ok_chk (nz ix9 (by omega)) ?_
    refine ok_ltI (av_mod i1 ix9 (by omega) (by omega)) (fun x10 ix10 => ?_)
    refine ok_ltI (av_mul tn_8 ix10 (by omega) (by omega)) (fun x11 ix11 => ?_)
    refine ok_ltI (av_add ix8 ix11 (by omega) (by omega)) (fun x12 ix12 => ?_)
    refine ok_ltI (av_add ix12 i2 (by omega) (by omega)) (fun x13 ix13 => ?_)
    exact ok_some ⟨t, (fr_0 p [] M), (ix13)⟩
  · refine ok_dr rfl (by have q := (tt_q0b t hq0); omega) (gk_0 t hq0) ?_
    refine ok_ltI (tw_q t hq0) (fun x2 ix2 => ?_)
    refine ok_chk (nz ix2 (by omega)) ?_
    refine ok_ltI (av_div i1 ix2 (by omega) (by omega)) (fun x3 ix3 => ?_)
    refine ok_ltI (av_mul tn_8 ix3 (by omega) (by omega)) (fun x4 ix4 => ?_)
    refine ok_ltI (av_add ix4 i3 (by omega) (by omega)) (fun x5 ix5 => ?_)
    refine ok_ltI (av_mul ix5 tn_8 (by omega) (by omega)) (fun x6 ix6 => ?_)
    refine ok_ltI (tw_q t hq0) (fun x7 ix7 => ?_)
    refine ok_ltI (av_mul ix6 ix7 (by omega) (by omega)) (fun x8 ix8 => ?_)
    refine ok_ltI (tw_q t hq0) (fun x9 ix9 => ?_)
    refine ok_chk (nz ix9 (by omega)) ?_
    refine ok_ltI (av_mod i1 ix9 (by omega) (by omega)) (fun x10 ix10 => ?_)
    refine ok_ltI (av_mul tn_8 ix10 (by omega) (by omega)) (fun x11 ix11 => ?_)
    refine ok_ltI (av_add ix8 ix11 (by omega) (by omega)) (fun x12 ix12 => ?_)
    refine ok_ltI (av_add ix12 i2 (by omega) (by omega)) (fun x13 ix13 => ?_)
    exact ok_some ⟨t, (fr_0 p [] M), (ix13)⟩
theorem s_pieceAt {G : GG} {M : DD} {p : Nat} {w : Int} {L : List Nat} (t : TT G M p w L) {p0 : Int32} {a0 : Int} (i0 : TI p0 a0) {p1 : Int32} {a1 : Int} (i1 : TI p1 a1) {p2 : Int32} {a2 : Int} (i2 : TI p2 a2) {p3 : Int32} {a3 : Int} (i3 : TI p3 a3) (h0 : 0 ≤ a0) (h1 : a0 < 2 * w) (h2 : -64 ≤ a1) (h3 : a1 ≤ 64) (h4 : -64 ≤ a2) (h5 : a2 ≤ 16) : OK (FX9_pieceAt G M 125 p0 p1 p2 p3) (fun y => TT G y.1 p w L ∧ Fr p [] M y.1 ∧ ((-1 ≤ y.2.toInt ∧ y.2.toInt ≤ 63) ∧ (0 ≤ y.2.toInt → y.2.toInt < 16 * a0 + 16 ∧ (a1 < 0 → 1 ≤ a0 % w) ∧ (a2 < 0 → w ≤ a0) ∧ (15 < a1 → a0 % w + 1 < w)))) := by
  unfold FX9_pieceAt
  have hw12 : 1 ≤ w ∧ w ≤ 2 := by rcases tt_w t with h | h <;> omega
  rcases tt_w t with rfl | rfl
  · refine ok_dr (tt_pic t) (by have q := (tt_q0b t (tt_p t)); omega) (gk_0 t (tt_p t)) ?_
    refine ok_ltI (tw_q t (tt_p t)) (fun x2 ix2 => ?_)
    refine ok_chk (nz ix2 (by omega)) ?_
    refine ok_ltI (av_mod i0 ix2 (by omega) (by omega)) (fun x3 ix3 => ?_)
    refine ok_bnd (Q := fun (z : Int32) => (-1 ≤ z.toInt ∧ z.toInt ≤ 1) ∧ ((a1 < 0 → z.toInt = -1) ∧ (0 ≤ a1 → a1 ≤ 15 → z.toInt = 0) ∧ (15 < a1 → z.toInt = 1))) ?_ ?_
    · refine ok_if (fun c1 => ?_) (fun c1 => ?_)
      · have dc1 := tl_le tn_0 i1 c1
        refine ok_bnd (Q := fun (z : Int32) => (0 ≤ z.toInt ∧ z.toInt ≤ 1) ∧ ((a1 < 0 → z.toInt = -1) ∧ (0 ≤ a1 → a1 ≤ 15 → z.toInt = 0) ∧ (15 < a1 → z.toInt = 1))) ?_ ?_
        · refine ok_if (fun c2 => ?_) (fun c2 => ?_)
          · have dc2 := tl_le i1 tn_15 c2
            exact ok_some ⟨(ti_bd tn_0 (by omega) (by omega)), (by have q : _ = _ := tn_0; (try dsimp only); omega)⟩
          · have dc2 := tl_nle i1 tn_15 c2
            exact ok_some ⟨(ti_bd tn_1 (by omega) (by omega)), (by have q : _ = _ := tn_1; (try dsimp only); omega)⟩
        · intro y49 hyy49
          obtain ⟨ly49, jy49⟩ := hyy49
          have iy49 : TI y49 y49.toInt := rfl
          exact ok_some ⟨(ti_bd iy49 (by omega) (by omega)), (by have q : _ = _ := iy49; (try dsimp only); omega)⟩
      · have dc1 := tl_nle tn_0 i1 c1
        exact ok_some ⟨(ti_bd tn_m1 (by omega) (by omega)), (by have q : _ = _ := tn_m1; (try dsimp only); omega)⟩
    · intro y4 hyy4
      obtain ⟨ly4, jy4⟩ := hyy4
      have iy4 : TI y4 y4.toInt := rfl
      refine ok_ltI (av_add ix3 iy4 (by omega) (by omega)) (fun x5 ix5 => ?_)
      refine ok_ltI (tw_q t (tt_p t)) (fun x6 ix6 => ?_)
      refine ok_chk (nz ix6 (by omega)) ?_
      refine ok_ltI (av_div i0 ix6 (by omega) (by omega)) (fun x7 ix7 => ?_)
      refine ok_bnd (Q := fun (z : Int32) => (0 ≤ z.toInt ∧ z.toInt ≤ 1) ∧ ((a2 < 0 → z.toInt = 1) ∧ (0 ≤ a2 → z.toInt = 0))) ?_ ?_
      · refine ok_if (fun c3 => ?_) (fun c3 => ?_)
        · have dc3 := tl_le tn_0 i2 c3
          exact ok_some ⟨(ti_bd tn_0 (by omega) (by omega)), (by have q : _ = _ := tn_0; (try dsimp only); omega)⟩
        · have dc3 := tl_nle tn_0 i2 c3
          exact ok_some ⟨(ti_bd tn_1 (by omega) (by omega)), (by have q : _ = _ := tn_1; (try dsimp only); omega)⟩
      · intro y8 hyy8
        obtain ⟨ly8, jy8⟩ := hyy8
        have iy8 : TI y8 y8.toInt := rfl
        refine ok_ltI (av_sub ix7 iy8 (by omega) (by omega)) (fun x9 ix9 => ?_)
        refine ok_if (fun c4 => ?_) (fun c4 => ?_)
        · have dc4 := tl_lt ix5 tn_0 c4
          exact ok_some ⟨t, (fr_0 p [] M), (by have q : _ = _ := tn_m1; (try dsimp only); omega)⟩
        · have dc4 := tl_nlt ix5 tn_0 c4
          refine ok_ltI (tw_q t (tt_p t)) (fun x11 ix11 => ?_)
          refine ok_if (fun c5 => ?_) (fun c5 => ?_)
          · have dc5 := tl_le ix11 ix5 c5
            exact ok_some ⟨t, (fr_0 p [] M), (by have q : _ = _ := tn_m1; (try dsimp only); omega)⟩
          · have dc5 := tl_nle ix11 ix5 c5
            refine ok_if (fun c6 => ?_) (fun c6 => ?_)
            · have dc6 := tl_le tn_0 ix9 c6
              refine ok_ltI (tw_q t (tt_p t)) (fun x14 ix14 => ?_)
              refine ok_ltI (av_mul ix9 ix14 (by omega) (by omega)) (fun x15 ix15 => ?_)
              refine ok_ltI (av_add ix15 ix5 (by omega) (by omega)) (fun x16 ix16 => ?_)
              refine ok_ltI (av_sar 3 i2 (by decide)) (fun x17 ix17 => ?_)
              refine ok_ltI (av_and 1 ix17 (by decide) (by decide)) (fun x18 ix18 => ?_)
              refine ok_ltI (av_mul ix18 tn_8 (by omega) (by omega)) (fun x19 ix19 => ?_)
              refine ok_ltI (av_sar 3 i1 (by decide)) (fun x20 ix20 => ?_)
              refine ok_ltI (av_and 1 ix20 (by decide) (by decide)) (fun x21 ix21 => ?_)
              refine ok_ltI (av_mul ix21 tn_4 (by omega) (by omega)) (fun x22 ix22 => ?_)
              refine ok_ltI (av_add ix19 ix22 (by omega) (by omega)) (fun x23 ix23 => ?_)
              refine ok_ltI (av_sar 2 i2 (by decide)) (fun x24 ix24 => ?_)
              refine ok_ltI (av_and 1 ix24 (by decide) (by decide)) (fun x25 ix25 => ?_)
              refine ok_ltI (av_mul ix25 tn_2 (by omega) (by omega)) (fun x26 ix26 => ?_)
              refine ok_ltI (av_add ix23 ix26 (by omega) (by omega)) (fun x27 ix27 => ?_)
              refine ok_ltI (av_sar 2 i1 (by decide)) (fun x28 ix28 => ?_)
              refine ok_ltI (av_and 1 ix28 (by decide) (by decide)) (fun x29 ix29 => ?_)
              refine ok_ltI (av_add ix27 ix29 (by omega) (by omega)) (fun x30 ix30 => ?_)
              refine ok_if (fun c7 => ?_) (fun c7 => ?_)
              · have dc7 := tl_eq ix16 i0 c7
                refine ok_bnd (Q := fun (z : Int32) => (-1 ≤ z.toInt ∧ z.toInt ≤ 63) ∧ (z.toInt < 16 * a0 + 16)) ?_ ?_
                · refine ok_if (fun c8 => ?_) (fun c8 => ?_)
                  · have dc8 := tl_le i3 ix30 c8
                    exact ok_some ⟨(ti_bd tn_m1 (by omega) (by omega)), (by have q : _ = _ := tn_m1; (try dsimp only); omega)⟩
                  · have dc8 := tl_nle i3 ix30 c8
                    refine ok_ltI (av_mul tn_16 i0 (by omega) (by omega)) (fun x45 ix45 => ?_)
                    refine ok_ltI (av_add ix45 ix30 (by omega) (by omega)) (fun x46 ix46 => ?_)
                    exact ok_some ⟨(ti_bd ix46 (by omega) (by omega)), (by have q : _ = _ := ix46; (try dsimp only); omega)⟩
                · intro y43 hyy43
                  obtain ⟨ly43, jy43⟩ := hyy43
                  have iy43 : TI y43 y43.toInt := rfl
                  exact ok_some ⟨t, (fr_0 p [] M), (by have q : _ = _ := iy43; (try dsimp only); omega)⟩
              · refine ok_bnd (Q := fun (z : Int32) => (-1 ≤ z.toInt ∧ z.toInt ≤ 47) ∧ (z.toInt < 16 * a0 + 16)) ?_ ?_
                · refine ok_if (fun c9 => ?_) (fun c9 => ?_)
                  · have dc9 := tl_le i0 ix16 c9
                    exact ok_some ⟨(ti_bd tn_m1 (by omega) (by omega)), (by have q : _ = _ := tn_m1; (try dsimp only); omega)⟩
                  · have dc9 := tl_nle i0 ix16 c9
                    refine ok_ltI (av_mul tn_8 ix16 (by omega) (by omega)) (fun x34 ix34 => ?_)
                    refine ok_ltI (av_add ix34 tn_6 (by omega) (by omega)) (fun x35 ix35 => ?_)
                    refine ok_dr (f_r (b := 129) t rfl (by decide)) (g_lt t (by decide)) (g_k t (by decide) rfl) ?_
                    refine ok_chk (nxg (g_n (i := 129) (n := 256) t (by decide) rfl) ix35 (by omega) (by omega)) ?_
                    refine ok_ltA (fun x37 => ?_)
                    refine ok_ltA (fun x38 => ?_)
                    refine ok_bnd (Q := fun (z : Int32) => (-1 ≤ z.toInt ∧ z.toInt ≤ 47) ∧ (z.toInt < 16 * a0 + 16)) ?_ ?_
                    · refine ok_if (fun c10 => ?_) (fun c10 => ?_)
                      · have dc10 := tl_eq (rfl : TI x37 x37.toInt) (rfl : TI x38 x38.toInt) c10
                        refine ok_ltI (av_mul tn_16 ix16 (by omega) (by omega)) (fun x41 ix41 => ?_)
                        refine ok_ltI (av_add ix41 ix30 (by omega) (by omega)) (fun x42 ix42 => ?_)
                        exact ok_some ⟨(ti_bd ix42 (by omega) (by omega)), (by have q : _ = _ := ix42; (try dsimp only); omega)⟩
                      · exact ok_some ⟨(ti_bd tn_m1 (by omega) (by omega)), (by have q : _ = _ := tn_m1; (try dsimp only); omega)⟩
                    · intro y39 hyy39
                      obtain ⟨ly39, jy39⟩ := hyy39
                      have iy39 : TI y39 y39.toInt := rfl
                      exact ok_some ⟨(ti_bd iy39 (by omega) (by omega)), (by have q : _ = _ := iy39; (try dsimp only); omega)⟩
                · intro y32 hyy32
                  obtain ⟨ly32, jy32⟩ := hyy32
                  have iy32 : TI y32 y32.toInt := rfl
                  exact ok_some ⟨t, (fr_0 p [] M), (by have q : _ = _ := iy32; (try dsimp only); omega)⟩
            · have dc6 := tl_nle tn_0 ix9 c6
              exact ok_some ⟨t, (fr_0 p [] M), (by have q : _ = _ := tn_m1; (try dsimp only); omega)⟩
  · refine ok_dr (tt_pic t) (by have q := (tt_q0b t (tt_p t)); omega) (gk_0 t (tt_p t)) ?_
    refine ok_ltI (tw_q t (tt_p t)) (fun x2 ix2 => ?_)
    refine ok_chk (nz ix2 (by omega)) ?_
    refine ok_ltI (av_mod i0 ix2 (by omega) (by omega)) (fun x3 ix3 => ?_)
    refine ok_bnd (Q := fun (z : Int32) => (-1 ≤ z.toInt ∧ z.toInt ≤ 1) ∧ ((a1 < 0 → z.toInt = -1) ∧ (0 ≤ a1 → a1 ≤ 15 → z.toInt = 0) ∧ (15 < a1 → z.toInt = 1))) ?_ ?_
    · refine ok_if (fun c1 => ?_) (fun c1 => ?_)
      · have dc1 := tl_le tn_0 i1 c1
        refine ok_bnd (Q := fun (z : Int32) => (0 ≤ z.toInt ∧ z.toInt ≤ 1) ∧ ((a1 < 0 → z.toInt = -1) ∧ (0 ≤ a1 → a1 ≤ 15 → z.toInt = 0) ∧ (15 < a1 → z.toInt = 1))) ?_ ?_
        · refine ok_if (fun c2 => ?_) (fun c2 => ?_)
          · have dc2 := tl_le i1 tn_15 c2
            exact ok_some ⟨(ti_bd tn_0 (by omega) (by omega)), (by have q : _ = _ := tn_0; (try dsimp only); omega)⟩
          · have dc2 := tl_nle i1 tn_15 c2
            exact ok_some ⟨(ti_bd tn_1 (by omega) (by omega)), (by have q : _ = _ := tn_1; (try dsimp only); omega)⟩
        · intro y49 hyy49
          obtain ⟨ly49, jy49⟩ := hyy49
          have iy49 : TI y49 y49.toInt := rfl
          exact ok_some ⟨(ti_bd iy49 (by omega) (by omega)), (by have q : _ = _ := iy49; (try dsimp only); omega)⟩
      · have dc1 := tl_nle tn_0 i1 c1
        exact ok_some ⟨(ti_bd tn_m1 (by omega) (by omega)), (by have q : _ = _ := tn_m1; (try dsimp only); omega)⟩
    · intro y4 hyy4
      obtain ⟨ly4, jy4⟩ := hyy4
      have iy4 : TI y4 y4.toInt := rfl
      refine ok_ltI (av_add ix3 iy4 (by omega) (by omega)) (fun x5 ix5 => ?_)
      refine ok_ltI (tw_q t (tt_p t)) (fun x6 ix6 => ?_)
      refine ok_chk (nz ix6 (by omega)) ?_
      refine ok_ltI (av_div i0 ix6 (by omega) (by omega)) (fun x7 ix7 => ?_)
      refine ok_bnd (Q := fun (z : Int32) => (0 ≤ z.toInt ∧ z.toInt ≤ 1) ∧ ((a2 < 0 → z.toInt = 1) ∧ (0 ≤ a2 → z.toInt = 0))) ?_ ?_
      · refine ok_if (fun c3 => ?_) (fun c3 => ?_)
        · have dc3 := tl_le tn_0 i2 c3
          exact ok_some ⟨(ti_bd tn_0 (by omega) (by omega)), (by have q : _ = _ := tn_0; (try dsimp only); omega)⟩
        · have dc3 := tl_nle tn_0 i2 c3
          exact ok_some ⟨(ti_bd tn_1 (by omega) (by omega)), (by have q : _ = _ := tn_1; (try dsimp only); omega)⟩
      · intro y8 hyy8
        obtain ⟨ly8, jy8⟩ := hyy8
        have iy8 : TI y8 y8.toInt := rfl
        refine ok_ltI (av_sub ix7 iy8 (by omega) (by omega)) (fun x9 ix9 => ?_)
        refine ok_if (fun c4 => ?_) (fun c4 => ?_)
        · have dc4 := tl_lt ix5 tn_0 c4
          exact ok_some ⟨t, (fr_0 p [] M), (by have q : _ = _ := tn_m1; (try dsimp only); omega)⟩
        · have dc4 := tl_nlt ix5 tn_0 c4
          refine ok_ltI (tw_q t (tt_p t)) (fun x11 ix11 => ?_)
          refine ok_if (fun c5 => ?_) (fun c5 => ?_)
          · have dc5 := tl_le ix11 ix5 c5
            exact ok_some ⟨t, (fr_0 p [] M), (by have q : _ = _ := tn_m1; (try dsimp only); omega)⟩
          · have dc5 := tl_nle ix11 ix5 c5
            refine ok_if (fun c6 => ?_) (fun c6 => ?_)
            · have dc6 := tl_le tn_0 ix9 c6
              refine ok_ltI (tw_q t (tt_p t)) (fun x14 ix14 => ?_)
              refine ok_ltI (av_mul ix9 ix14 (by omega) (by omega)) (fun x15 ix15 => ?_)
              refine ok_ltI (av_add ix15 ix5 (by omega) (by omega)) (fun x16 ix16 => ?_)
              refine ok_ltI (av_sar 3 i2 (by decide)) (fun x17 ix17 => ?_)
              refine ok_ltI (av_and 1 ix17 (by decide) (by decide)) (fun x18 ix18 => ?_)
              refine ok_ltI (av_mul ix18 tn_8 (by omega) (by omega)) (fun x19 ix19 => ?_)
              refine ok_ltI (av_sar 3 i1 (by decide)) (fun x20 ix20 => ?_)
              refine ok_ltI (av_and 1 ix20 (by decide) (by decide)) (fun x21 ix21 => ?_)
              refine ok_ltI (av_mul ix21 tn_4 (by omega) (by omega)) (fun x22 ix22 => ?_)
              refine ok_ltI (av_add ix19 ix22 (by omega) (by omega)) (fun x23 ix23 => ?_)
              refine ok_ltI (av_sar 2 i2 (by decide)) (fun x24 ix24 => ?_)
              refine ok_ltI (av_and 1 ix24 (by decide) (by decide)) (fun x25 ix25 => ?_)
              refine ok_ltI (av_mul ix25 tn_2 (by omega) (by omega)) (fun x26 ix26 => ?_)
              refine ok_ltI (av_add ix23 ix26 (by omega) (by omega)) (fun x27 ix27 => ?_)
              refine ok_ltI (av_sar 2 i1 (by decide)) (fun x28 ix28 => ?_)
              refine ok_ltI (av_and 1 ix28 (by decide) (by decide)) (fun x29 ix29 => ?_)
              refine ok_ltI (av_add ix27 ix29 (by omega) (by omega)) (fun x30 ix30 => ?_)
              refine ok_if (fun c7 => ?_) (fun c7 => ?_)
              · have dc7 := tl_eq ix16 i0 c7
                refine ok_bnd (Q := fun (z : Int32) => (-1 ≤ z.toInt ∧ z.toInt ≤ 63) ∧ (z.toInt < 16 * a0 + 16)) ?_ ?_
                · refine ok_if (fun c8 => ?_) (fun c8 => ?_)
                  · have dc8 := tl_le i3 ix30 c8
                    exact ok_some ⟨(ti_bd tn_m1 (by omega) (by omega)), (by have q : _ = _ := tn_m1; (try dsimp only); omega)⟩
                  · have dc8 := tl_nle i3 ix30 c8
                    refine ok_ltI (av_mul tn_16 i0 (by omega) (by omega)) (fun x45 ix45 => ?_)
                    refine ok_ltI (av_add ix45 ix30 (by omega) (by omega)) (fun x46 ix46 => ?_)
                    exact ok_some ⟨(ti_bd ix46 (by omega) (by omega)), (by have q : _ = _ := ix46; (try dsimp only); omega)⟩
                · intro y43 hyy43
                  obtain ⟨ly43, jy43⟩ := hyy43
                  have iy43 : TI y43 y43.toInt := rfl
                  exact ok_some ⟨t, (fr_0 p [] M), (by have q : _ = _ := iy43; (try dsimp only); omega)⟩
              · refine ok_bnd (Q := fun (z : Int32) => (-1 ≤ z.toInt ∧ z.toInt ≤ 47) ∧ (z.toInt < 16 * a0 + 16)) ?_ ?_
                · refine ok_if (fun c9 => ?_) (fun c9 => ?_)
                  · have dc9 := tl_le i0 ix16 c9
                    exact ok_some ⟨(ti_bd tn_m1 (by omega) (by omega)), (by have q : _ = _ := tn_m1; (try dsimp only); omega)⟩
                  · have dc9 := tl_nle i0 ix16 c9
                    refine ok_ltI (av_mul tn_8 ix16 (by omega) (by omega)) (fun x34 ix34 => ?_)
                    refine ok_ltI (av_add ix34 tn_6 (by omega) (by omega)) (fun x35 ix35 => ?_)
                    refine ok_dr (f_r (b := 129) t rfl (by decide)) (g_lt t (by decide)) (g_k t (by decide) rfl) ?_
                    refine ok_chk (nxg (g_n (i := 129) (n := 256) t (by decide) rfl) ix35 (by omega) (by omega)) ?_
                    refine ok_ltA (fun x37 => ?_)
                    refine ok_ltA (fun x38 => ?_)
                    refine ok_bnd (Q := fun (z : Int32) => (-1 ≤ z.toInt ∧ z.toInt ≤ 47) ∧ (z.toInt < 16 * a0 + 16)) ?_ ?_
                    · refine ok_if (fun c10 => ?_) (fun c10 => ?_)
                      · have dc10 := tl_eq (rfl : TI x37 x37.toInt) (rfl : TI x38 x38.toInt) c10
                        refine ok_ltI (av_mul tn_16 ix16 (by omega) (by omega)) (fun x41 ix41 => ?_)
                        refine ok_ltI (av_add ix41 ix30 (by omega) (by omega)) (fun x42 ix42 => ?_)
                        exact ok_some ⟨(ti_bd ix42 (by omega) (by omega)), (by have q : _ = _ := ix42; (try dsimp only); omega)⟩
                      · exact ok_some ⟨(ti_bd tn_m1 (by omega) (by omega)), (by have q : _ = _ := tn_m1; (try dsimp only); omega)⟩
                    · intro y39 hyy39
                      obtain ⟨ly39, jy39⟩ := hyy39
                      have iy39 : TI y39 y39.toInt := rfl
                      exact ok_some ⟨(ti_bd iy39 (by omega) (by omega)), (by have q : _ = _ := iy39; (try dsimp only); omega)⟩
                · intro y32 hyy32
                  obtain ⟨ly32, jy32⟩ := hyy32
                  have iy32 : TI y32 y32.toInt := rfl
                  exact ok_some ⟨t, (fr_0 p [] M), (by have q : _ = _ := iy32; (try dsimp only); omega)⟩
            · have dc6 := tl_nle tn_0 ix9 c6
              exact ok_some ⟨t, (fr_0 p [] M), (by have q : _ = _ := tn_m1; (try dsimp only); omega)⟩
theorem s_mayUse {G : GG} {M : DD} {p : Nat} {w : Int} {L : List Nat} (t : TT G M p w L) {p0 : Int32} {a0 : Int} (i0 : TI p0 a0) (h0 : -1 ≤ a0) (h1 : a0 ≤ 63) : OK (FX9_mayUse G M 125 p0) (fun y => TT G y.1 p w L ∧ Fr p [] M y.1 ∧ ((y.2.toInt = 0 ∨ y.2.toInt = 1) ∧ (y.2.toInt = 1 → 0 ≤ a0))) := by
  unfold FX9_mayUse
  have hw12 : 1 ≤ w ∧ w ≤ 2 := by rcases tt_w t with h | h <;> omega
  refine ok_bnd (Q := fun (z : Int32) => (0 ≤ z.toInt ∧ z.toInt ≤ 1) ∧ (z.toInt = 1 → 0 ≤ a0)) ?_ ?_
  · refine ok_if (fun c1 => ?_) (fun c1 => ?_)
    · have dc1 := tl_lt i0 tn_0 c1
      exact ok_some ⟨(ti_bd tn_0 (by omega) (by omega)), (by have q : _ = _ := tn_0; (try dsimp only); omega)⟩
    · have dc1 := tl_nlt i0 tn_0 c1
      refine ok_dr (f_r (b := 220) t rfl (by decide)) (g_lt t (by decide)) (g_k t (by decide) rfl) ?_
      refine ok_chk (nxg (g_n (i := 220) (n := 12) t (by decide) rfl) tn_10 (by omega) (by omega)) ?_
      refine ok_ltA (fun x4 => ?_)
      refine ok_bnd (Q := fun (z : Int32) => (0 ≤ z.toInt ∧ z.toInt ≤ 1)) ?_ ?_
      · refine ok_if (fun c2 => ?_) (fun c2 => ?_)
        · have dc2 := tl_eq (rfl : TI x4 x4.toInt) tn_0 c2
          exact ok_some (ti_bd tn_1 (by omega) (by omega))
        · refine ok_ltI (av_sar 4 i0 (by decide)) (fun x7 ix7 => ?_)
          refine ok_ltI (av_mul tn_8 ix7 (by omega) (by omega)) (fun x8 ix8 => ?_)
          refine ok_ltI (av_add ix8 tn_0 (by omega) (by omega)) (fun x9 ix9 => ?_)
          refine ok_dr (f_r (b := 129) t rfl (by decide)) (g_lt t (by decide)) (g_k t (by decide) rfl) ?_
          refine ok_chk (nxg (g_n (i := 129) (n := 256) t (by decide) rfl) ix9 (by omega) (by omega)) ?_
          refine ok_ltA (fun x11 => ?_)
          refine ok_bnd (Q := fun (z : Int32) => (0 ≤ z.toInt ∧ z.toInt ≤ 1)) ?_ ?_
          · refine ok_if (fun c3 => ?_) (fun c3 => ?_)
            · have dc3 := tl_eq (rfl : TI x11 x11.toInt) tn_3 c3
              exact ok_some (ti_bd tn_0 (by omega) (by omega))
            · exact ok_some (ti_bd tn_1 (by omega) (by omega))
          · intro y12 hyy12
            have ly12 := hyy12
            have iy12 : TI y12 y12.toInt := rfl
            exact ok_some (ti_bd iy12 (by omega) (by omega))
      · intro y5 hyy5
        have ly5 := hyy5
        have iy5 : TI y5 y5.toInt := rfl
        exact ok_some ⟨(ti_bd iy5 (by omega) (by omega)), (by have q : _ = _ := iy5; (try dsimp only); omega)⟩
  · intro y1 hyy1
    obtain ⟨ly1, jy1⟩ := hyy1
    have iy1 : TI y1 y1.toInt := rfl
    refine ok_chk (t01 iy1 (by omega) (by omega)) ?_
    exact ok_some ⟨t, (fr_0 p [] M), (by have q : _ = _ := iy1; (try dsimp only); omega)⟩
theorem s_modeAt {G : GG} {M : DD} {p : Nat} {w : Int} {L : List Nat} (t : TT G M p w L) {p0 : Int32} {a0 : Int} (i0 : TI p0 a0) (h0 : -1 ≤ a0) (h1 : a0 ≤ 63) : OK (FX9_modeAt G M 125 p0) (fun y => TT G y.1 p w L ∧ Fr p [] M y.1 ∧ (-1 ≤ y.2.toInt ∧ y.2.toInt ≤ 8)) := by
  unfold FX9_modeAt
  have hw12 : 1 ≤ w ∧ w ≤ 2 := by rcases tt_w t with h | h <;> omega
  refine ok_if (fun c1 => ?_) (fun c1 => ?_)
  · have dc1 := tl_le tn_0 i0 c1
    refine ok_ltI (av_sar 4 i0 (by decide)) (fun x2 ix2 => ?_)
    refine ok_ltI (av_mul tn_8 ix2 (by omega) (by omega)) (fun x3 ix3 => ?_)
    refine ok_ltI (av_add ix3 tn_0 (by omega) (by omega)) (fun x4 ix4 => ?_)
    refine ok_dr (f_r (b := 129) t rfl (by decide)) (g_lt t (by decide)) (g_k t (by decide) rfl) ?_
    refine ok_chk (nxg (g_n (i := 129) (n := 256) t (by decide) rfl) ix4 (by omega) (by omega)) ?_
    refine ok_ltA (fun x6 => ?_)
    refine ok_dr (f_r (b := 220) t rfl (by decide)) (g_lt t (by decide)) (g_k t (by decide) rfl) ?_
    refine ok_chk (nxg (g_n (i := 220) (n := 12) t (by decide) rfl) tn_10 (by omega) (by omega)) ?_
    refine ok_ltA (fun x8 => ?_)
    refine ok_if (fun c2 => ?_) (fun c2 => ?_)
    · have dc2 := tl_eq (rfl : TI x8 x8.toInt) tn_1 c2
      refine ok_if (fun c3 => ?_) (fun c3 => ?_)
      · have dc3 := tl_eq (rfl : TI x6 x6.toInt) tn_3 c3
        exact ok_some ⟨t, (fr_0 p [] M), (ti_bd tn_m1 (by omega) (by omega))⟩
      · refine ok_bnd (Q := fun (z : Int32) => (0 ≤ z.toInt ∧ z.toInt ≤ 8)) ?_ ?_
        · refine ok_if (fun c4 => ?_) (fun c4 => ?_)
          · have dc4 := tl_eq (rfl : TI x6 x6.toInt) tn_0 c4
            refine ok_dr (f_r (b := 130) t rfl (by decide)) (g_lt t (by decide)) (g_k t (by decide) rfl) ?_
            refine ok_chk (nxg (g_n (i := 130) (n := 512) t (by decide) rfl) i0 (by omega) (by omega)) ?_
            refine ok_ltB (ib_t t (by simp [TYL] : (130, 0, 8) ∈ TYL) _) (fun x18 lx18 => ?_)
            have ix18 : TI x18 x18.toInt := rfl
            exact ok_some (ti_bd ix18 (by omega) (by omega))
          · exact ok_some (ti_bd tn_2 (by omega) (by omega))
        · intro y15 hyy15
          have ly15 := hyy15
          have iy15 : TI y15 y15.toInt := rfl
          exact ok_some ⟨t, (fr_0 p [] M), (ti_bd iy15 (by omega) (by omega))⟩
    · refine ok_bnd (Q := fun (z : Int32) => (0 ≤ z.toInt ∧ z.toInt ≤ 8)) ?_ ?_
      · refine ok_if (fun c5 => ?_) (fun c5 => ?_)
        · have dc5 := tl_eq (rfl : TI x6 x6.toInt) tn_0 c5
          refine ok_dr (f_r (b := 130) t rfl (by decide)) (g_lt t (by decide)) (g_k t (by decide) rfl) ?_
          refine ok_chk (nxg (g_n (i := 130) (n := 512) t (by decide) rfl) i0 (by omega) (by omega)) ?_
          refine ok_ltB (ib_t t (by simp [TYL] : (130, 0, 8) ∈ TYL) _) (fun x13 lx13 => ?_)
          have ix13 : TI x13 x13.toInt := rfl
          exact ok_some (ti_bd ix13 (by omega) (by omega))
        · exact ok_some (ti_bd tn_2 (by omega) (by omega))
      · intro y10 hyy10
        have ly10 := hyy10
        have iy10 : TI y10 y10.toInt := rfl
        exact ok_some ⟨t, (fr_0 p [] M), (ti_bd iy10 (by omega) (by omega))⟩
  · have dc1 := tl_nle tn_0 i0 c1
    exact ok_some ⟨t, (fr_0 p [] M), (ti_bd tn_m1 (by omega) (by omega))⟩
theorem s_totalAt {G : GG} {M : DD} {p : Nat} {w : Int} {L : List Nat} (t : TT G M p w L) {p0 : Int32} {a0 : Int} (i0 : TI p0 a0) {p1 : Int32} {a1 : Int} (i1 : TI p1 a1) (h0 : -1 ≤ a0) (h1 : a0 ≤ 63) (h2 : -1 ≤ a1) (h3 : a1 ≤ 23) : OK (FX9_totalAt G M 125 p0 p1) (fun y => TT G y.1 p w L ∧ Fr p [] M y.1 ∧ True) := by
  unfold FX9_totalAt
  have hw12 : 1 ≤ w ∧ w ≤ 2 := by rcases tt_w t with h | h <;> omega
  refine ok_bnd (Q := fun (z : Int32) => True) ?_ ?_
  · refine ok_if (fun c1 => ?_) (fun c1 => ?_)
    · have dc1 := tl_le tn_0 i0 c1
      refine ok_ltI (av_sar 4 i0 (by decide)) (fun x3 ix3 => ?_)
      refine ok_ltI (av_mul tn_24 ix3 (by omega) (by omega)) (fun x4 ix4 => ?_)
      refine ok_bnd (Q := fun (z : Int32) => (0 ≤ z.toInt ∧ z.toInt ≤ 23)) ?_ ?_
      · refine ok_if (fun c2 => ?_) (fun c2 => ?_)
        · have dc2 := tl_le tn_0 i1 c2
          exact ok_some (ti_bd i1 (by omega) (by omega))
        · have dc2 := tl_nle tn_0 i1 c2
          refine ok_ltI (av_and 4 i0 (by decide) (by decide)) (fun x10 ix10 => ?_)
          exact ok_some (ti_bd ix10 (by omega) (by omega))
      · intro y5 hyy5
        have ly5 := hyy5
        have iy5 : TI y5 y5.toInt := rfl
        refine ok_ltI (av_add ix4 iy5 (by omega) (by omega)) (fun x6 ix6 => ?_)
        refine ok_dr (f_r (b := 131) t rfl (by decide)) (g_lt t (by decide)) (g_k t (by decide) rfl) ?_
        refine ok_chk (nxg (g_n (i := 131) (n := 768) t (by decide) rfl) ix6 (by omega) (by omega)) ?_
        refine ok_ltA (fun x8 => ?_)
        exact ok_some trivial
    · have dc1 := tl_nle tn_0 i0 c1
      exact ok_some trivial
  · intro y1 hyy1
    have u_y1 := hyy1
    exact ok_some ⟨t, (fr_0 p [] M), trivial⟩
theorem s_referenceAt {G : GG} {M : DD} {p : Nat} {w : Int} {L : List Nat} (t : TT G M p w L) {p0 : Int32} {a0 : Int} (i0 : TI p0 a0) {p1 : Int32} {a1 : Int} (i1 : TI p1 a1) (h0 : 0 ≤ a0) (h1 : a0 ≤ 1) (h2 : -1 ≤ a1) (h3 : a1 ≤ 63) : OK (FX9_referenceAt G M 125 p0 p1) (fun y => TT G y.1 p w L ∧ Fr p [] M y.1 ∧ ((-1 ≤ y.2.toInt ∧ y.2.toInt ≤ 7) ∧ (0 ≤ y.2.toInt → 0 ≤ a1))) := by
  unfold FX9_referenceAt
  have hw12 : 1 ≤ w ∧ w ≤ 2 := by rcases tt_w t with h | h <;> omega
  refine ok_bnd (Q := fun (z : Int32) => (-1 ≤ z.toInt ∧ z.toInt ≤ 7) ∧ (0 ≤ z.toInt → 0 ≤ a1)) ?_ ?_
  · refine ok_if (fun c1 => ?_) (fun c1 => ?_)
    · have dc1 := tl_le tn_0 i1 c1
      refine ok_dr (tt_pic t) (by have q := (tt_q0b t (tt_p t)); omega) (gk_0 t (tt_p t)) ?_
      refine ok_ltI (av_mul tn_512 i0 (by omega) (by omega)) (fun x4 ix4 => ?_)
      refine ok_ltI (av_add ix4 i1 (by omega) (by omega)) (fun x5 ix5 => ?_)
      refine ok_dr (pr_5 t (tt_p t)) (by have q := (tt_q0b t (tt_p t)); omega) (gk_6 t (tt_p t)) ?_
      refine ok_chk (nxg (gl_6 t (tt_p t)) ix5 (by omega) (by omega)) ?_
      refine ok_ltB (ib_6 t (tt_p t) _) (fun x7 lx7 => ?_)
      have ix7 : TI x7 x7.toInt := rfl
      exact ok_some ⟨(ti_bd ix7 (by omega) (by omega)), (by have q : _ = _ := ix7; (try dsimp only); omega)⟩
    · have dc1 := tl_nle tn_0 i1 c1
      exact ok_some ⟨(ti_bd tn_m1 (by omega) (by omega)), (by have q : _ = _ := tn_m1; (try dsimp only); omega)⟩
  · intro y1 hyy1
    obtain ⟨ly1, jy1⟩ := hyy1
    have iy1 : TI y1 y1.toInt := rfl
    exact ok_some ⟨t, (fr_0 p [] M), (by have q : _ = _ := iy1; (try dsimp only); omega)⟩
theorem s_guessMode {G : GG} {M : DD} {p : Nat} {w : Int} {L : List Nat} (t : TT G M p w L) {p0 : Int32} {a0 : Int} (i0 : TI p0 a0) {p1 : Int32} {a1 : Int} (i1 : TI p1 a1) (h0 : 0 ≤ a0) (h1 : a0 < 2 * w) (h2 : 0 ≤ a1) (h3 : a1 ≤ 15) : OK (FX9_guessMode G M 125 p0 p1) (fun y => TT G y.1 p w L ∧ Fr p [] M y.1 ∧ (0 ≤ y.2.toInt ∧ y.2.toInt ≤ 8)) := by
  unfold FX9_guessMode
  have hw12 : 1 ≤ w ∧ w ≤ 2 := by rcases tt_w t with h | h <;> omega
  refine ok_bnd (s_pieceX t i1 (by omega) (by omega)) ?_
  intro y1 hyy1
  obtain ⟨ty1, gy1, iy1⟩ := hyy1
  have fy1 := fr_tr (fr_0 p [] M) gy1 rfl
  refine ok_ltI (av_sub iy1 tn_1 (by omega) (by omega)) (fun x2 ix2 => ?_)
  refine ok_bnd (s_pieceY ty1 i1 (by omega) (by omega)) ?_
  intro y3 hyy3
  obtain ⟨ty3, gy3, iy3⟩ := hyy3
  have fy3 := fr_tr fy1 gy3 rfl
  refine ok_bnd (s_pieceAt ty3 i0 ix2 iy3 tn_16 (by omega) (by omega) (by omega) (by omega) (by omega) (by omega)) ?_
  intro y4 hyy4
  obtain ⟨ty4, gy4, ly4⟩ := hyy4
  have fy4 := fr_tr fy3 gy4 rfl
  have iy4 : TI y4.2 y4.2.toInt := rfl
  refine ok_bnd (s_modeAt ty4 iy4 (by omega) (by omega)) ?_
  intro y5 hyy5
  obtain ⟨ty5, gy5, ly5⟩ := hyy5
  have fy5 := fr_tr fy4 gy5 rfl
  have iy5 : TI y5.2 y5.2.toInt := rfl
  refine ok_bnd (s_pieceX ty5 i1 (by omega) (by omega)) ?_
  intro y6 hyy6
  obtain ⟨ty6, gy6, iy6⟩ := hyy6
  have fy6 := fr_tr fy5 gy6 rfl
  refine ok_bnd (s_pieceY ty6 i1 (by omega) (by omega)) ?_
  intro y7 hyy7
  obtain ⟨ty7, gy7, iy7⟩ := hyy7
  have fy7 := fr_tr fy6 gy7 rfl
  refine ok_ltI (av_sub iy7 tn_1 (by omega) (by omega)) (fun x8 ix8 => ?_)
  refine ok_bnd (s_pieceAt ty7 i0 iy6 ix8 tn_16 (by omega) (by omega) (by omega) (by omega) (by omega) (by omega)) ?_
  intro y9 hyy9
  obtain ⟨ty9, gy9, ly9⟩ := hyy9
  have fy9 := fr_tr fy7 gy9 rfl
  have iy9 : TI y9.2 y9.2.toInt := rfl
  refine ok_bnd (s_modeAt ty9 iy9 (by omega) (by omega)) ?_
  intro y10 hyy10
  obtain ⟨ty10, gy10, ly10⟩ := hyy10
  have fy10 := fr_tr fy9 gy10 rfl
  have iy10 : TI y10.2 y10.2.toInt := rfl
  refine ok_bnd (Q := fun (z : Int32) => (0 ≤ z.toInt ∧ z.toInt ≤ 8)) ?_ ?_
  · refine ok_if (fun c1 => ?_) (fun c1 => ?_)
    · have dc1 := tl_lt iy5 tn_0 c1
      exact ok_some (ti_bd tn_2 (by omega) (by omega))
    · have dc1 := tl_nlt iy5 tn_0 c1
      refine ok_bnd (Q := fun (z : Int32) => (0 ≤ z.toInt ∧ z.toInt ≤ 8)) ?_ ?_
      · refine ok_if (fun c2 => ?_) (fun c2 => ?_)
        · have dc2 := tl_le tn_0 iy10 c2
          refine ok_bnd (Q := fun (z : Int32) => (0 ≤ z.toInt ∧ z.toInt ≤ 8)) ?_ ?_
          · refine ok_if (fun c3 => ?_) (fun c3 => ?_)
            · have dc3 := tl_le iy10 iy5 c3
              exact ok_some (ti_bd iy10 (by omega) (by omega))
            · have dc3 := tl_nle iy10 iy5 c3
              exact ok_some (ti_bd iy5 (by omega) (by omega))
          · intro y15 hyy15
            have ly15 := hyy15
            have iy15 : TI y15 y15.toInt := rfl
            exact ok_some (ti_bd iy15 (by omega) (by omega))
        · have dc2 := tl_nle tn_0 iy10 c2
          exact ok_some (ti_bd tn_2 (by omega) (by omega))
      · intro y13 hyy13
        have ly13 := hyy13
        have iy13 : TI y13 y13.toInt := rfl
        exact ok_some (ti_bd iy13 (by omega) (by omega))
  · intro y11 hyy11
    have ly11 := hyy11
    have iy11 : TI y11 y11.toInt := rfl
    exact ok_some ⟨ty10, fy10, (ti_bd iy11 (by omega) (by omega))⟩
theorem s_normAt {G : GG} {M : DD} {p : Nat} {w : Int} {L : List Nat} (t : TT G M p w L) {p0 : Int32} {a0 : Int} (i0 : TI p0 a0) {p1 : Int32} {a1 : Int} (i1 : TI p1 a1) {p2 : Int32} {a2 : Int} (i2 : TI p2 a2) (h0 : 0 ≤ a0) (h1 : a0 ≤ 51) : OK (FX6_normAt G M p0 p1 p2) (fun y => TT G y.1 p w L ∧ Fr p [] M y.1 ∧ (0 ≤ y.2.toInt ∧ y.2.toInt ≤ 17)) := by
  unfold FX6_normAt
  have hw12 : 1 ≤ w ∧ w ≤ 2 := by rcases tt_w t with h | h <;> omega
  refine ok_ltI (av_mod i0 tn_6 (by omega) (by omega)) (fun x1 ix1 => ?_)
  refine ok_ltI (av_mul tn_3 ix1 (by omega) (by omega)) (fun x2 ix2 => ?_)
  refine ok_ltA (fun x3 => ?_)
  refine ok_ltt (fun x4 ex4 => ?_)
  have bx4 := av_modb (x := x3) tn_2 (by decide) (by decide)
  rw [← ex4] at bx4
  clear ex4
  have ix4 : TI x4 x4.toInt := rfl
  refine ok_bnd (Q := fun (z : Int32) => (0 ≤ z.toInt ∧ z.toInt ≤ 2)) ?_ ?_
  · refine ok_if (fun c1 => ?_) (fun c1 => ?_)
    · have dc1 := tl_eq ix4 tn_0 c1
      exact ok_some (ti_bd tn_0 (by omega) (by omega))
    · refine ok_ltA (fun x8 => ?_)
      refine ok_ltt (fun x9 ex9 => ?_)
      have bx9 := av_modb (x := x8) tn_2 (by decide) (by decide)
      rw [← ex9] at bx9
      clear ex9
      have ix9 : TI x9 x9.toInt := rfl
      refine ok_bnd (Q := fun (z : Int32) => (1 ≤ z.toInt ∧ z.toInt ≤ 2)) ?_ ?_
      · refine ok_if (fun c2 => ?_) (fun c2 => ?_)
        · have dc2 := tl_eq ix9 tn_1 c2
          exact ok_some (ti_bd tn_2 (by omega) (by omega))
        · exact ok_some (ti_bd tn_1 (by omega) (by omega))
      · intro y10 hyy10
        have ly10 := hyy10
        have iy10 : TI y10 y10.toInt := rfl
        exact ok_some (ti_bd iy10 (by omega) (by omega))
  · intro y5 hyy5
    have ly5 := hyy5
    have iy5 : TI y5 y5.toInt := rfl
    refine ok_ltI (av_add ix2 iy5 (by omega) (by omega)) (fun x6 ix6 => ?_)
    exact ok_some ⟨t, (fr_0 p [] M), (ti_bd ix6 (by omega) (by omega))⟩
theorem s_two {G : GG} {M : DD} {p : Nat} {w : Int} {L : List Nat} (t : TT G M p w L) {p0 : Int32} {a0 : Int} (i0 : TI p0 a0) {p1 : Int32} {a1 : Int} (i1 : TI p1 a1) (h0 : 0 ≤ a0) (h1 : a0 ≤ 33) (h2 : 0 ≤ a1) (h3 : a1 ≤ 33) : OK (FX6_two G M 138 p0 p1) (fun y => TT G y.1 p w L ∧ Fr p [] M y.1 ∧ True) := by
  unfold FX6_two
  have hw12 : 1 ≤ w ∧ w ≤ 2 := by rcases tt_w t with h | h <;> omega
  refine ok_dr (f_r (b := 147) t rfl (by decide)) (g_lt t (by decide)) (g_k t (by decide) rfl) ?_
  refine ok_chk (nxg (g_n (i := 147) (n := 34) t (by decide) rfl) i0 (by omega) (by omega)) ?_
  refine ok_ltA (fun x2 => ?_)
  refine ok_chk (nxg (g_n (i := 147) (n := 34) t (by decide) rfl) i1 (by omega) (by omega)) ?_
  refine ok_ltA (fun x3 => ?_)
  refine ok_ltA (fun x4 => ?_)
  refine ok_ltA (fun x5 => ?_)
  refine ok_ltA (fun x6 => ?_)
  exact ok_some ⟨t, (fr_0 p [] M), trivial⟩
theorem s_three {G : GG} {M : DD} {p : Nat} {w : Int} {L : List Nat} (t : TT G M p w L) {p0 : Int32} {a0 : Int} (i0 : TI p0 a0) {p1 : Int32} {a1 : Int} (i1 : TI p1 a1) {p2 : Int32} {a2 : Int} (i2 : TI p2 a2) (h0 : 0 ≤ a0) (h1 : a0 ≤ 33) (h2 : 0 ≤ a1) (h3 : a1 ≤ 33) (h4 : 0 ≤ a2) (h5 : a2 ≤ 33) : OK (FX6_three G M 138 p0 p1 p2) (fun y => TT G y.1 p w L ∧ Fr p [] M y.1 ∧ True) := by
  unfold FX6_three
  have hw12 : 1 ≤ w ∧ w ≤ 2 := by rcases tt_w t with h | h <;> omega
  refine ok_dr (f_r (b := 147) t rfl (by decide)) (g_lt t (by decide)) (g_k t (by decide) rfl) ?_
  refine ok_chk (nxg (g_n (i := 147) (n := 34) t (by decide) rfl) i0 (by omega) (by omega)) ?_
  refine ok_ltA (fun x2 => ?_)
  refine ok_chk (nxg (g_n (i := 147) (n := 34) t (by decide) rfl) i1 (by omega) (by omega)) ?_
  refine ok_ltA (fun x3 => ?_)
  refine ok_ltA (fun x4 => ?_)
  refine ok_ltA (fun x5 => ?_)
  refine ok_chk (nxg (g_n (i := 147) (n := 34) t (by decide) rfl) i2 (by omega) (by omega)) ?_
  refine ok_ltA (fun x6 => ?_)
  refine ok_ltA (fun x7 => ?_)
  refine ok_ltA (fun x8 => ?_)
  refine ok_ltA (fun x9 => ?_)
  exact ok_some ⟨t, (fr_0 p [] M), trivial⟩
theorem s_turnBack {G : GG} {M : DD} {p : Nat} {w : Int} {L : List Nat} (t : TT G M p w L) {p0 : Int32} {a0 : Int} (i0 : TI p0 a0) {p1 : Int32} {a1 : Int} (i1 : TI p1 a1) (h0 : a0 = 1 ∧ a1 = 4 ∨ a0 = 4 ∧ a1 = 1) : OK (FX6_turnBack G M 138 p0 p1) (fun y => TT G y p w L ∧ Fr p [2] M y) := by
  unfold FX6_turnBack
  have hw12 : 1 ≤ w ∧ w ≤ 2 := by rcases tt_w t with h | h <;> omega
  rcases h0 with ⟨rfl, rfl⟩ | ⟨rfl, rfl⟩
  · refine ok_bnd (Q := fun (z : Int32 × DD) => (0 ≤ z.1.toInt ∧ z.1.toInt ≤ 4) ∧ TT G z.2 p w L ∧ Fr p [2] M z.2) (ok_itr (fun (z : Int32 × DD) => (0 ≤ z.1.toInt ∧ z.1.toInt ≤ 4) ∧ TT G z.2 p w L ∧ Fr p [2] M z.2) (fun z => (4 - z.1.toInt).toNat) ?_ _ _ ?_ ?_) ?_
    · intro s2 hys2
      obtain ⟨ls2_1, ts2_2, fs2_2⟩ := hys2
      have is2_1 : TI s2.1 s2.1.toInt := rfl
      refine ok_if (fun c1 => ?_) (fun c1 => ?_)
      · have dc1 := tl_le tn_4 is2_1 c1
        exact ok_some ⟨(ti_bd is2_1 (by omega) (by omega)), ts2_2, fs2_2⟩
      · have dc1 := tl_nle tn_4 is2_1 c1
        refine ok_ltI (av_mul is2_1 i1 (by omega) (by omega)) (fun x6 ix6 => ?_)
        refine ok_dr (f_r (b := 145) ts2_2 rfl (by decide)) (g_lt ts2_2 (by decide)) (g_k ts2_2 (by decide) rfl) ?_
        refine ok_chk (nxg (g_n (i := 145) (n := 16) ts2_2 (by decide) rfl) ix6 (by omega) (by omega)) ?_
        refine ok_ltA (fun x8 => ?_)
        refine ok_ltI (av_mul tn_2 i0 (by omega) (by omega)) (fun x9 ix9 => ?_)
        refine ok_ltI (av_add ix6 ix9 (by omega) (by omega)) (fun x10 ix10 => ?_)
        refine ok_chk (nxg (g_n (i := 145) (n := 16) ts2_2 (by decide) rfl) ix10 (by omega) (by omega)) ?_
        refine ok_ltA (fun x11 => ?_)
        refine ok_ltA (fun x12 => ?_)
        refine ok_chk (nxg (g_n (i := 145) (n := 16) ts2_2 (by decide) rfl) ix6 (by omega) (by omega)) ?_
        refine ok_ltA (fun x13 => ?_)
        refine ok_ltI (av_mul tn_2 i0 (by omega) (by omega)) (fun x14 ix14 => ?_)
        refine ok_ltI (av_add ix6 ix14 (by omega) (by omega)) (fun x15 ix15 => ?_)
        refine ok_chk (nxg (g_n (i := 145) (n := 16) ts2_2 (by decide) rfl) ix15 (by omega) (by omega)) ?_
        refine ok_ltA (fun x16 => ?_)
        refine ok_ltA (fun x17 => ?_)
        refine ok_ltI (av_add ix6 i0 (by omega) (by omega)) (fun x18 ix18 => ?_)
        refine ok_chk (nxg (g_n (i := 145) (n := 16) ts2_2 (by decide) rfl) ix18 (by omega) (by omega)) ?_
        refine ok_ltA (fun x19 => ?_)
        refine ok_ltA (fun x20 => ?_)
        refine ok_ltI (av_mul tn_3 i0 (by omega) (by omega)) (fun x21 ix21 => ?_)
        refine ok_ltI (av_add ix6 ix21 (by omega) (by omega)) (fun x22 ix22 => ?_)
        refine ok_chk (nxg (g_n (i := 145) (n := 16) ts2_2 (by decide) rfl) ix22 (by omega) (by omega)) ?_
        refine ok_ltA (fun x23 => ?_)
        refine ok_ltA (fun x24 => ?_)
        refine ok_ltI (av_add ix6 i0 (by omega) (by omega)) (fun x25 ix25 => ?_)
        refine ok_chk (nxg (g_n (i := 145) (n := 16) ts2_2 (by decide) rfl) ix25 (by omega) (by omega)) ?_
        refine ok_ltA (fun x26 => ?_)
        refine ok_ltI (av_mul tn_3 i0 (by omega) (by omega)) (fun x27 ix27 => ?_)
        refine ok_ltI (av_add ix6 ix27 (by omega) (by omega)) (fun x28 ix28 => ?_)
        refine ok_chk (nxg (g_n (i := 145) (n := 16) ts2_2 (by decide) rfl) ix28 (by omega) (by omega)) ?_
        refine ok_ltA (fun x29 => ?_)
        refine ok_ltA (fun x30 => ?_)
        refine ok_ltA (fun x31 => ?_)
        refine ok_ltA (fun x32 => ?_)
        refine ok_chk (nxg (g_n (i := 145) (n := 16) ts2_2 (by decide) rfl) ix6 (by omega) (by omega)) ?_
        refine ok_ltt (fun M33 eM33 => ?_)
        have tM33 : TT G M33 p w L := by rw [eM33]; exact (tt_w0 ts2_2 rfl)
        have fM33 : Fr p [2] M M33 := by rw [eM33]; exact (fr_w fs2_2 rfl)
        clear eM33
        refine ok_ltI (av_add ix6 i0 (by omega) (by omega)) (fun x34 ix34 => ?_)
        refine ok_ltA (fun x35 => ?_)
        refine ok_dr (f_r (b := 145) tM33 rfl (by decide)) (g_lt tM33 (by decide)) (g_k tM33 (by decide) rfl) ?_
        refine ok_chk (nxg (g_n (i := 145) (n := 16) tM33 (by decide) rfl) ix34 (by omega) (by omega)) ?_
        refine ok_ltt (fun M37 eM37 => ?_)
        have tM37 : TT G M37 p w L := by rw [eM37]; exact (tt_w0 tM33 rfl)
        have fM37 : Fr p [2] M M37 := by rw [eM37]; exact (fr_w fM33 rfl)
        clear eM37
        refine ok_ltI (av_mul tn_2 i0 (by omega) (by omega)) (fun x38 ix38 => ?_)
        refine ok_ltI (av_add ix6 ix38 (by omega) (by omega)) (fun x39 ix39 => ?_)
        refine ok_ltA (fun x40 => ?_)
        refine ok_dr (f_r (b := 145) tM37 rfl (by decide)) (g_lt tM37 (by decide)) (g_k tM37 (by decide) rfl) ?_
        refine ok_chk (nxg (g_n (i := 145) (n := 16) tM37 (by decide) rfl) ix39 (by omega) (by omega)) ?_
        refine ok_ltt (fun M42 eM42 => ?_)
        have tM42 : TT G M42 p w L := by rw [eM42]; exact (tt_w0 tM37 rfl)
        have fM42 : Fr p [2] M M42 := by rw [eM42]; exact (fr_w fM37 rfl)
        clear eM42
        refine ok_ltI (av_mul tn_3 i0 (by omega) (by omega)) (fun x43 ix43 => ?_)
        refine ok_ltI (av_add ix6 ix43 (by omega) (by omega)) (fun x44 ix44 => ?_)
        refine ok_ltA (fun x45 => ?_)
        refine ok_dr (f_r (b := 145) tM42 rfl (by decide)) (g_lt tM42 (by decide)) (g_k tM42 (by decide) rfl) ?_
        refine ok_chk (nxg (g_n (i := 145) (n := 16) tM42 (by decide) rfl) ix44 (by omega) (by omega)) ?_
        refine ok_ltt (fun M47 eM47 => ?_)
        have tM47 : TT G M47 p w L := by rw [eM47]; exact (tt_w0 tM42 rfl)
        have fM47 : Fr p [2] M M47 := by rw [eM47]; exact (fr_w fM42 rfl)
        clear eM47
        refine ok_ltI (av_add is2_1 tn_1 (by omega) (by omega)) (fun x48 ix48 => ?_)
        exact ok_some ⟨⟨(ti_bd ix48 (by omega) (by omega)), tM47, fM47⟩, (mu_up ix48 (by omega) (by omega))⟩
    · exact ⟨(ti_bd tn_0 (by omega) (by omega)), t, (fr_0 p [2] M)⟩
    · exact mu_0 tn_0 (by omega)
    · intro y1 hyy1
      obtain ⟨ly1_1, ty1_2, fy1_2⟩ := hyy1
      have iy1_1 : TI y1.1 y1.1.toInt := rfl
      exact ok_some ⟨ty1_2, fy1_2⟩
  · refine ok_bnd (Q := fun (z : Int32 × DD) => (0 ≤ z.1.toInt ∧ z.1.toInt ≤ 4) ∧ TT G z.2 p w L ∧ Fr p [2] M z.2) (ok_itr (fun (z : Int32 × DD) => (0 ≤ z.1.toInt ∧ z.1.toInt ≤ 4) ∧ TT G z.2 p w L ∧ Fr p [2] M z.2) (fun z => (4 - z.1.toInt).toNat) ?_ _ _ ?_ ?_) ?_
    · intro s2 hys2
      obtain ⟨ls2_1, ts2_2, fs2_2⟩ := hys2
      have is2_1 : TI s2.1 s2.1.toInt := rfl
      refine ok_if (fun c1 => ?_) (fun c1 => ?_)
      · have dc1 := tl_le tn_4 is2_1 c1
        exact ok_some ⟨(ti_bd is2_1 (by omega) (by omega)), ts2_2, fs2_2⟩
      · have dc1 := tl_nle tn_4 is2_1 c1
        refine ok_ltI (av_mul is2_1 i1 (by omega) (by omega)) (fun x6 ix6 => ?_)
        refine ok_dr (f_r (b := 145) ts2_2 rfl (by decide)) (g_lt ts2_2 (by decide)) (g_k ts2_2 (by decide) rfl) ?_
        refine ok_chk (nxg (g_n (i := 145) (n := 16) ts2_2 (by decide) rfl) ix6 (by omega) (by omega)) ?_
        refine ok_ltA (fun x8 => ?_)
        refine ok_ltI (av_mul tn_2 i0 (by omega) (by omega)) (fun x9 ix9 => ?_)
        refine ok_ltI (av_add ix6 ix9 (by omega) (by omega)) (fun x10 ix10 => ?_)
        refine ok_chk (nxg (g_n (i := 145) (n := 16) ts2_2 (by decide) rfl) ix10 (by omega) (by omega)) ?_
        refine ok_ltA (fun x11 => ?_)
        refine ok_ltA (fun x12 => ?_)
        refine ok_chk (nxg (g_n (i := 145) (n := 16) ts2_2 (by decide) rfl) ix6 (by omega) (by omega)) ?_
        refine ok_ltA (fun x13 => ?_)
        refine ok_ltI (av_mul tn_2 i0 (by omega) (by omega)) (fun x14 ix14 => ?_)
        refine ok_ltI (av_add ix6 ix14 (by omega) (by omega)) (fun x15 ix15 => ?_)
        refine ok_chk (nxg (g_n (i := 145) (n := 16) ts2_2 (by decide) rfl) ix15 (by omega) (by omega)) ?_
        refine ok_ltA (fun x16 => ?_)
        refine ok_ltA (fun x17 => ?_)
        refine ok_ltI (av_add ix6 i0 (by omega) (by omega)) (fun x18 ix18 => ?_)
        refine ok_chk (nxg (g_n (i := 145) (n := 16) ts2_2 (by decide) rfl) ix18 (by omega) (by omega)) ?_
        refine ok_ltA (fun x19 => ?_)
        refine ok_ltA (fun x20 => ?_)
        refine ok_ltI (av_mul tn_3 i0 (by omega) (by omega)) (fun x21 ix21 => ?_)
        refine ok_ltI (av_add ix6 ix21 (by omega) (by omega)) (fun x22 ix22 => ?_)
        refine ok_chk (nxg (g_n (i := 145) (n := 16) ts2_2 (by decide) rfl) ix22 (by omega) (by omega)) ?_
        refine ok_ltA (fun x23 => ?_)
        refine ok_ltA (fun x24 => ?_)
        refine ok_ltI (av_add ix6 i0 (by omega) (by omega)) (fun x25 ix25 => ?_)
        refine ok_chk (nxg (g_n (i := 145) (n := 16) ts2_2 (by decide) rfl) ix25 (by omega) (by omega)) ?_
        refine ok_ltA (fun x26 => ?_)
        refine ok_ltI (av_mul tn_3 i0 (by omega) (by omega)) (fun x27 ix27 => ?_)
        refine ok_ltI (av_add ix6 ix27 (by omega) (by omega)) (fun x28 ix28 => ?_)
        refine ok_chk (nxg (g_n (i := 145) (n := 16) ts2_2 (by decide) rfl) ix28 (by omega) (by omega)) ?_
        refine ok_ltA (fun x29 => ?_)
        refine ok_ltA (fun x30 => ?_)
        refine ok_ltA (fun x31 => ?_)
        refine ok_ltA (fun x32 => ?_)
        refine ok_chk (nxg (g_n (i := 145) (n := 16) ts2_2 (by decide) rfl) ix6 (by omega) (by omega)) ?_
        refine ok_ltt (fun M33 eM33 => ?_)
        have tM33 : TT G M33 p w L := by rw [eM33]; exact (tt_w0 ts2_2 rfl)
        have fM33 : Fr p [2] M M33 := by rw [eM33]; exact (fr_w fs2_2 rfl)
        clear eM33
        refine ok_ltI (av_add ix6 i0 (by omega) (by omega)) (fun x34 ix34 => ?_)
        refine ok_ltA (fun x35 => ?_)
        refine ok_dr (f_r (b := 145) tM33 rfl (by decide)) (g_lt tM33 (by decide)) (g_k tM33 (by decide) rfl) ?_
        refine ok_chk (nxg (g_n (i := 145) (n := 16) tM33 (by decide) rfl) ix34 (by omega) (by omega)) ?_
        refine ok_ltt (fun M37 eM37 => ?_)
        have tM37 : TT G M37 p w L := by rw [eM37]; exact (tt_w0 tM33 rfl)
        have fM37 : Fr p [2] M M37 := by rw [eM37]; exact (fr_w fM33 rfl)
        clear eM37
        refine ok_ltI (av_mul tn_2 i0 (by omega) (by omega)) (fun x38 ix38 => ?_)
        refine ok_ltI (av_add ix6 ix38 (by omega) (by omega)) (fun x39 ix39 => ?_)
        refine ok_ltA (fun x40 => ?_)
        refine ok_dr (f_r (b := 145) tM37 rfl (by decide)) (g_lt tM37 (by decide)) (g_k tM37 (by decide) rfl) ?_
        refine ok_chk (nxg (g_n (i := 145) (n := 16) tM37 (by decide) rfl) ix39 (by omega) (by omega)) ?_
        refine ok_ltt (fun M42 eM42 => ?_)
        have tM42 : TT G M42 p w L := by rw [eM42]; exact (tt_w0 tM37 rfl)
        have fM42 : Fr p [2] M M42 := by rw [eM42]; exact (fr_w fM37 rfl)
        clear eM42
        refine ok_ltI (av_mul tn_3 i0 (by omega) (by omega)) (fun x43 ix43 => ?_)
        refine ok_ltI (av_add ix6 ix43 (by omega) (by omega)) (fun x44 ix44 => ?_)
        refine ok_ltA (fun x45 => ?_)
        refine ok_dr (f_r (b := 145) tM42 rfl (by decide)) (g_lt tM42 (by decide)) (g_k tM42 (by decide) rfl) ?_
        refine ok_chk (nxg (g_n (i := 145) (n := 16) tM42 (by decide) rfl) ix44 (by omega) (by omega)) ?_
        refine ok_ltt (fun M47 eM47 => ?_)
        have tM47 : TT G M47 p w L := by rw [eM47]; exact (tt_w0 tM42 rfl)
        have fM47 : Fr p [2] M M47 := by rw [eM47]; exact (fr_w fM42 rfl)
        clear eM47
        refine ok_ltI (av_add is2_1 tn_1 (by omega) (by omega)) (fun x48 ix48 => ?_)
        exact ok_some ⟨⟨(ti_bd ix48 (by omega) (by omega)), tM47, fM47⟩, (mu_up ix48 (by omega) (by omega))⟩
    · exact ⟨(ti_bd tn_0 (by omega) (by omega)), t, (fr_0 p [2] M)⟩
    · exact mu_0 tn_0 (by omega)
    · intro y1 hyy1
      obtain ⟨ly1_1, ty1_2, fy1_2⟩ := hyy1
      have iy1_1 : TI y1.1 y1.1.toInt := rfl
      exact ok_some ⟨ty1_2, fy1_2⟩
theorem s_turnFour {G : GG} {M : DD} {p : Nat} {w : Int} {L : List Nat} (t : TT G M p w L) : OK (FX6_turnFour G M 138) (fun y => TT G y p w L ∧ Fr p [2] M y) := by
  unfold FX6_turnFour
  have hw12 : 1 ≤ w ∧ w ≤ 2 := by rcases tt_w t with h | h <;> omega
  refine ok_dr (f_r (b := 146) t rfl (by decide)) (g_lt t (by decide)) (g_k t (by decide) rfl) ?_
  refine ok_chk (nxg (g_n (i := 146) (n := 16) t (by decide) rfl) tn_0 (by omega) (by omega)) ?_
  refine ok_ltA (fun x2 => ?_)
  refine ok_chk (nxg (g_n (i := 146) (n := 16) t (by decide) rfl) tn_1 (by omega) (by omega)) ?_
  refine ok_ltA (fun x3 => ?_)
  refine ok_chk (nxg (g_n (i := 146) (n := 16) t (by decide) rfl) tn_2 (by omega) (by omega)) ?_
  refine ok_ltA (fun x4 => ?_)
  refine ok_chk (nxg (g_n (i := 146) (n := 16) t (by decide) rfl) tn_3 (by omega) (by omega)) ?_
  refine ok_ltA (fun x5 => ?_)
  refine ok_ltA (fun x6 => ?_)
  refine ok_ltA (fun x7 => ?_)
  refine ok_ltA (fun x8 => ?_)
  refine ok_chk (nxg (g_n (i := 146) (n := 16) t (by decide) rfl) tn_0 (by omega) (by omega)) ?_
  refine ok_ltt (fun M9 eM9 => ?_)
  have tM9 : TT G M9 p w L := by rw [eM9]; exact (tt_w0 t rfl)
  have fM9 : Fr p [2] M M9 := by rw [eM9]; exact (fr_w (fr_0 p [2] M) rfl)
  clear eM9
  refine ok_ltA (fun x10 => ?_)
  refine ok_ltA (fun x11 => ?_)
  refine ok_ltA (fun x12 => ?_)
  refine ok_dr (f_r (b := 146) tM9 rfl (by decide)) (g_lt tM9 (by decide)) (g_k tM9 (by decide) rfl) ?_
  refine ok_chk (nxg (g_n (i := 146) (n := 16) tM9 (by decide) rfl) tn_1 (by omega) (by omega)) ?_
  refine ok_ltt (fun M14 eM14 => ?_)
  have tM14 : TT G M14 p w L := by rw [eM14]; exact (tt_w0 tM9 rfl)
  have fM14 : Fr p [2] M M14 := by rw [eM14]; exact (fr_w fM9 rfl)
  clear eM14
  refine ok_ltA (fun x15 => ?_)
  refine ok_ltA (fun x16 => ?_)
  refine ok_ltA (fun x17 => ?_)
  refine ok_dr (f_r (b := 146) tM14 rfl (by decide)) (g_lt tM14 (by decide)) (g_k tM14 (by decide) rfl) ?_
  refine ok_chk (nxg (g_n (i := 146) (n := 16) tM14 (by decide) rfl) tn_2 (by omega) (by omega)) ?_
  refine ok_ltt (fun M19 eM19 => ?_)
  have tM19 : TT G M19 p w L := by rw [eM19]; exact (tt_w0 tM14 rfl)
  have fM19 : Fr p [2] M M19 := by rw [eM19]; exact (fr_w fM14 rfl)
  clear eM19
  refine ok_ltA (fun x20 => ?_)
  refine ok_ltA (fun x21 => ?_)
  refine ok_ltA (fun x22 => ?_)
  refine ok_dr (f_r (b := 146) tM19 rfl (by decide)) (g_lt tM19 (by decide)) (g_k tM19 (by decide) rfl) ?_
  refine ok_chk (nxg (g_n (i := 146) (n := 16) tM19 (by decide) rfl) tn_3 (by omega) (by omega)) ?_
  refine ok_ltt (fun M24 eM24 => ?_)
  have tM24 : TT G M24 p w L := by rw [eM24]; exact (tt_w0 tM19 rfl)
  have fM24 : Fr p [2] M M24 := by rw [eM24]; exact (fr_w fM19 rfl)
  clear eM24
  exact ok_some ⟨tM24, fM24⟩
theorem s_turnEven {G : GG} {M : DD} {p : Nat} {w : Int} {L : List Nat} (t : TT G M p w L) : OK (FX6_turnEven G M 138) (fun y => TT G y p w L ∧ Fr p [2] M y) := by
  unfold FX6_turnEven
  have hw12 : 1 ≤ w ∧ w ≤ 2 := by rcases tt_w t with h | h <;> omega
  refine ok_bnd (Q := fun (z : Int32 × DD) => (0 ≤ z.1.toInt ∧ z.1.toInt ≤ 2) ∧ TT G z.2 p w L ∧ Fr p [2] M z.2) (ok_itr (fun (z : Int32 × DD) => (0 ≤ z.1.toInt ∧ z.1.toInt ≤ 2) ∧ TT G z.2 p w L ∧ Fr p [2] M z.2) (fun z => (2 - z.1.toInt).toNat) ?_ _ _ ?_ ?_) ?_
  · intro s2 hys2
    obtain ⟨ls2_1, ts2_2, fs2_2⟩ := hys2
    have is2_1 : TI s2.1 s2.1.toInt := rfl
    refine ok_if (fun c1 => ?_) (fun c1 => ?_)
    · have dc1 := tl_le tn_2 is2_1 c1
      exact ok_some ⟨(ti_bd is2_1 (by omega) (by omega)), ts2_2, fs2_2⟩
    · have dc1 := tl_nle tn_2 is2_1 c1
      refine ok_bnd (Q := fun (z : Int32 × DD) => (0 ≤ z.1.toInt ∧ z.1.toInt ≤ 4) ∧ TT G z.2 p w L ∧ Fr p [2] M z.2) (ok_itr (fun (z : Int32 × DD) => (0 ≤ z.1.toInt ∧ z.1.toInt ≤ 4) ∧ TT G z.2 p w L ∧ Fr p [2] M z.2) (fun z => (4 - z.1.toInt).toNat) ?_ _ _ ?_ ?_) ?_
      · intro s7 hys7
        obtain ⟨ls7_1, ts7_2, fs7_2⟩ := hys7
        have is7_1 : TI s7.1 s7.1.toInt := rfl
        refine ok_if (fun c2 => ?_) (fun c2 => ?_)
        · have dc2 := tl_le tn_4 is7_1 c2
          exact ok_some ⟨(ti_bd is7_1 (by omega) (by omega)), ts7_2, fs7_2⟩
        · have dc2 := tl_nle tn_4 is7_1 c2
          refine ok_bnd (Q := fun (z : Int32) => (1 ≤ z.toInt ∧ z.toInt ≤ 4) ∧ ((s2.1.toInt = 0 → z.toInt = 1) ∧ (s2.1.toInt ≠ 0 → z.toInt = 4))) ?_ ?_
          · refine ok_if (fun c3 => ?_) (fun c3 => ?_)
            · have dc3 := tl_eq is2_1 tn_0 c3
              exact ok_some ⟨(ti_bd tn_1 (by omega) (by omega)), (by have q : _ = _ := tn_1; (try dsimp only); omega)⟩
            · have dc3 := tl_ne is2_1 tn_0 c3
              exact ok_some ⟨(ti_bd tn_4 (by omega) (by omega)), (by have q : _ = _ := tn_4; (try dsimp only); omega)⟩
          · intro y12 hyy12
            obtain ⟨ly12, jy12⟩ := hyy12
            have iy12 : TI y12 y12.toInt := rfl
            refine ok_bnd (Q := fun (z : Int32) => (0 ≤ z.toInt ∧ z.toInt ≤ 12) ∧ ((s2.1.toInt = 0 → z.toInt = 4 * s7.1.toInt) ∧ (s2.1.toInt ≠ 0 → z.toInt = s7.1.toInt))) ?_ ?_
            · refine ok_if (fun c4 => ?_) (fun c4 => ?_)
              · have dc4 := tl_eq is2_1 tn_0 c4
                refine ok_ltI (av_mul tn_4 is7_1 (by omega) (by omega)) (fun x55 ix55 => ?_)
                exact ok_some ⟨(ti_bd ix55 (by omega) (by omega)), (by have q : _ = _ := ix55; (try dsimp only); omega)⟩
              · have dc4 := tl_ne is2_1 tn_0 c4
                exact ok_some ⟨(ti_bd is7_1 (by omega) (by omega)), (by have q : _ = _ := is7_1; (try dsimp only); omega)⟩
            · intro y13 hyy13
              obtain ⟨ly13, jy13⟩ := hyy13
              have iy13 : TI y13 y13.toInt := rfl
              refine ok_dr (f_r (b := 146) ts7_2 rfl (by decide)) (g_lt ts7_2 (by decide)) (g_k ts7_2 (by decide) rfl) ?_
              refine ok_chk (nxg (g_n (i := 146) (n := 16) ts7_2 (by decide) rfl) iy13 (by omega) (by omega)) ?_
              refine ok_ltA (fun x15 => ?_)
              refine ok_ltI (av_add iy13 iy12 (by omega) (by omega)) (fun x16 ix16 => ?_)
              refine ok_chk (nxg (g_n (i := 146) (n := 16) ts7_2 (by decide) rfl) ix16 (by omega) (by omega)) ?_
              refine ok_ltA (fun x17 => ?_)
              refine ok_ltA (fun x18 => ?_)
              refine ok_chk (nxg (g_n (i := 146) (n := 16) ts7_2 (by decide) rfl) iy13 (by omega) (by omega)) ?_
              refine ok_ltA (fun x19 => ?_)
              refine ok_ltI (av_add iy13 iy12 (by omega) (by omega)) (fun x20 ix20 => ?_)
              refine ok_chk (nxg (g_n (i := 146) (n := 16) ts7_2 (by decide) rfl) ix20 (by omega) (by omega)) ?_
              refine ok_ltA (fun x21 => ?_)
              refine ok_ltA (fun x22 => ?_)
              refine ok_ltI (av_mul tn_2 iy12 (by omega) (by omega)) (fun x23 ix23 => ?_)
              refine ok_ltI (av_add iy13 ix23 (by omega) (by omega)) (fun x24 ix24 => ?_)
              refine ok_chk (nxg (g_n (i := 146) (n := 16) ts7_2 (by decide) rfl) ix24 (by omega) (by omega)) ?_
              refine ok_ltA (fun x25 => ?_)
              refine ok_ltI (av_mul tn_3 iy12 (by omega) (by omega)) (fun x26 ix26 => ?_)
              refine ok_ltI (av_add iy13 ix26 (by omega) (by omega)) (fun x27 ix27 => ?_)
              refine ok_chk (nxg (g_n (i := 146) (n := 16) ts7_2 (by decide) rfl) ix27 (by omega) (by omega)) ?_
              refine ok_ltA (fun x28 => ?_)
              refine ok_ltA (fun x29 => ?_)
              refine ok_ltI (av_mul tn_2 iy12 (by omega) (by omega)) (fun x30 ix30 => ?_)
              refine ok_ltI (av_add iy13 ix30 (by omega) (by omega)) (fun x31 ix31 => ?_)
              refine ok_chk (nxg (g_n (i := 146) (n := 16) ts7_2 (by decide) rfl) ix31 (by omega) (by omega)) ?_
              refine ok_ltA (fun x32 => ?_)
              refine ok_ltI (av_mul tn_3 iy12 (by omega) (by omega)) (fun x33 ix33 => ?_)
              refine ok_ltI (av_add iy13 ix33 (by omega) (by omega)) (fun x34 ix34 => ?_)
              refine ok_chk (nxg (g_n (i := 146) (n := 16) ts7_2 (by decide) rfl) ix34 (by omega) (by omega)) ?_
              refine ok_ltA (fun x35 => ?_)
              refine ok_ltA (fun x36 => ?_)
              refine ok_ltA (fun x37 => ?_)
              refine ok_chk (nxg (g_n (i := 146) (n := 16) ts7_2 (by decide) rfl) iy13 (by omega) (by omega)) ?_
              refine ok_ltt (fun M38 eM38 => ?_)
              have tM38 : TT G M38 p w L := by rw [eM38]; exact (tt_w0 ts7_2 rfl)
              have fM38 : Fr p [2] M M38 := by rw [eM38]; exact (fr_w fs7_2 rfl)
              clear eM38
              refine ok_ltI (av_add iy13 iy12 (by omega) (by omega)) (fun x39 ix39 => ?_)
              refine ok_ltA (fun x40 => ?_)
              refine ok_dr (f_r (b := 146) tM38 rfl (by decide)) (g_lt tM38 (by decide)) (g_k tM38 (by decide) rfl) ?_
              refine ok_chk (nxg (g_n (i := 146) (n := 16) tM38 (by decide) rfl) ix39 (by omega) (by omega)) ?_
              refine ok_ltt (fun M42 eM42 => ?_)
              have tM42 : TT G M42 p w L := by rw [eM42]; exact (tt_w0 tM38 rfl)
              have fM42 : Fr p [2] M M42 := by rw [eM42]; exact (fr_w fM38 rfl)
              clear eM42
              refine ok_ltI (av_mul tn_2 iy12 (by omega) (by omega)) (fun x43 ix43 => ?_)
              refine ok_ltI (av_add iy13 ix43 (by omega) (by omega)) (fun x44 ix44 => ?_)
              refine ok_ltA (fun x45 => ?_)
              refine ok_dr (f_r (b := 146) tM42 rfl (by decide)) (g_lt tM42 (by decide)) (g_k tM42 (by decide) rfl) ?_
              refine ok_chk (nxg (g_n (i := 146) (n := 16) tM42 (by decide) rfl) ix44 (by omega) (by omega)) ?_
              refine ok_ltt (fun M47 eM47 => ?_)
              have tM47 : TT G M47 p w L := by rw [eM47]; exact (tt_w0 tM42 rfl)
              have fM47 : Fr p [2] M M47 := by rw [eM47]; exact (fr_w fM42 rfl)
              clear eM47
              refine ok_ltI (av_mul tn_3 iy12 (by omega) (by omega)) (fun x48 ix48 => ?_)
              refine ok_ltI (av_add iy13 ix48 (by omega) (by omega)) (fun x49 ix49 => ?_)
              refine ok_ltA (fun x50 => ?_)
              refine ok_dr (f_r (b := 146) tM47 rfl (by decide)) (g_lt tM47 (by decide)) (g_k tM47 (by decide) rfl) ?_
              refine ok_chk (nxg (g_n (i := 146) (n := 16) tM47 (by decide) rfl) ix49 (by omega) (by omega)) ?_
              refine ok_ltt (fun M52 eM52 => ?_)
              have tM52 : TT G M52 p w L := by rw [eM52]; exact (tt_w0 tM47 rfl)
              have fM52 : Fr p [2] M M52 := by rw [eM52]; exact (fr_w fM47 rfl)
              clear eM52
              refine ok_ltI (av_add is7_1 tn_1 (by omega) (by omega)) (fun x53 ix53 => ?_)
              exact ok_some ⟨⟨(ti_bd ix53 (by omega) (by omega)), tM52, fM52⟩, (mu_up ix53 (by omega) (by omega))⟩
      · exact ⟨(ti_bd tn_0 (by omega) (by omega)), ts2_2, fs2_2⟩
      · exact mu_0 tn_0 (by omega)
      · intro y6 hyy6
        obtain ⟨ly6_1, ty6_2, fy6_2⟩ := hyy6
        have iy6_1 : TI y6.1 y6.1.toInt := rfl
        refine ok_ltI (av_add is2_1 tn_1 (by omega) (by omega)) (fun x9 ix9 => ?_)
        exact ok_some ⟨⟨(ti_bd ix9 (by omega) (by omega)), ty6_2, fy6_2⟩, (mu_up ix9 (by omega) (by omega))⟩
  · exact ⟨(ti_bd tn_0 (by omega) (by omega)), t, (fr_0 p [2] M)⟩
  · exact mu_0 tn_0 (by omega)
  · intro y1 hyy1
    obtain ⟨ly1_1, ty1_2, fy1_2⟩ := hyy1
    have iy1_1 : TI y1.1 y1.1.toInt := rfl
    exact ok_some ⟨ty1_2, fy1_2⟩
theorem s_slant {G : GG} {M : DD} {p : Nat} {w : Int} {L : List Nat} (t : TT G M p w L) {p0 : Int32} {a0 : Int} (i0 : TI p0 a0) {p1 : Int32} {a1 : Int} (i1 : TI p1 a1) {p2 : Int32} {a2 : Int} (i2 : TI p2 a2) (h0 : 0 ≤ a0) (h1 : a0 ≤ 3) (h2 : 0 ≤ a1) (h3 : a1 ≤ 3) (h4 : a2 = 1 ∨ a2 = -1) : OK (FX6_slant G M 138 p0 p1 p2) (fun y => TT G y.1 p w L ∧ Fr p [] M y.1 ∧ True) := by
  unfold FX6_slant
  have hw12 : 1 ≤ w ∧ w ≤ 2 := by rcases tt_w t with h | h <;> omega
  rcases h4 with rfl | rfl
  · refine ok_ltI (av_mul tn_2 i0 (by omega) (by omega)) (fun x1 ix1 => ?_)
    refine ok_ltI (av_sub ix1 i1 (by omega) (by omega)) (fun x2 ix2 => ?_)
    refine ok_ltI (av_sar 1 i1 (by decide)) (fun x3 ix3 => ?_)
    refine ok_ltI (av_sub i0 ix3 (by omega) (by omega)) (fun x4 ix4 => ?_)
    refine ok_if (fun c1 => ?_) (fun c1 => ?_)
    · have dc1 := tl_lt ix2 tn_0 c1
      refine ok_bnd (Q := fun (z : Int32) => (-2 ≤ z.toInt ∧ z.toInt ≤ 1)) ?_ ?_
      · refine ok_if (fun c2 => ?_) (fun c2 => ?_)
        · have dc2 := tl_le ix2 tn_0 c2
          refine ok_bnd (Q := fun (z : Int32) => (-2 ≤ z.toInt ∧ z.toInt ≤ 1)) ?_ ?_
          · refine ok_if (fun c3 => ?_) (fun c3 => ?_)
            · have dc3 := tl_eq ix2 tn_m1 c3
              exact ok_some (ti_bd tn_0 (by omega) (by omega))
            · refine ok_ltI (av_sub tn_1 i1 (by omega) (by omega)) (fun x19 ix19 => ?_)
              exact ok_some (ti_bd ix19 (by omega) (by omega))
          · intro y17 hyy17
            have ly17 := hyy17
            have iy17 : TI y17 y17.toInt := rfl
            exact ok_some (ti_bd iy17 (by omega) (by omega))
        · have dc2 := tl_nle ix2 tn_0 c2
          exfalso
          omega
      · intro y6 hyy6
        have ly6 := hyy6
        have iy6 : TI y6 y6.toInt := rfl
        refine ok_ltI (av_sub iy6 tn_1 (by omega) (by omega)) (fun x7 ix7 => ?_)
        refine ok_ltI (av_mul i2 ix7 (by omega) (by omega)) (fun x8 ix8 => ?_)
        refine ok_ltI (av_add tn_4 ix8 (by omega) (by omega)) (fun x9 ix9 => ?_)
        refine ok_ltI (av_mul i2 iy6 (by omega) (by omega)) (fun x10 ix10 => ?_)
        refine ok_ltI (av_add tn_4 ix10 (by omega) (by omega)) (fun x11 ix11 => ?_)
        refine ok_ltI (av_add iy6 tn_1 (by omega) (by omega)) (fun x12 ix12 => ?_)
        refine ok_ltI (av_mul i2 ix12 (by omega) (by omega)) (fun x13 ix13 => ?_)
        refine ok_ltI (av_add tn_4 ix13 (by omega) (by omega)) (fun x14 ix14 => ?_)
        refine ok_bnd (s_three t ix9 ix11 ix14 (by omega) (by omega) (by omega) (by omega) (by omega) (by omega)) ?_
        intro y15 hyy15
        obtain ⟨ty15, gy15, _⟩ := hyy15
        have fy15 := fr_tr (fr_0 p [] M) gy15 rfl
        exact ok_some ⟨ty15, fy15, trivial⟩
    · have dc1 := tl_nlt ix2 tn_0 c1
      refine ok_ltI (av_mod ix2 tn_2 (by omega) (by omega)) (fun x20 ix20 => ?_)
      refine ok_if (fun c4 => ?_) (fun c4 => ?_)
      · have dc4 := tl_eq ix20 tn_0 c4
        refine ok_ltI (av_mul i2 ix4 (by omega) (by omega)) (fun x36 ix36 => ?_)
        refine ok_ltI (av_add tn_4 ix36 (by omega) (by omega)) (fun x37 ix37 => ?_)
        refine ok_ltI (av_add ix4 tn_1 (by omega) (by omega)) (fun x38 ix38 => ?_)
        refine ok_ltI (av_mul i2 ix38 (by omega) (by omega)) (fun x39 ix39 => ?_)
        refine ok_ltI (av_add tn_4 ix39 (by omega) (by omega)) (fun x40 ix40 => ?_)
        refine ok_bnd (s_two t ix37 ix40 (by omega) (by omega) (by omega) (by omega)) ?_
        intro y41 hyy41
        obtain ⟨ty41, gy41, _⟩ := hyy41
        have fy41 := fr_tr (fr_0 p [] M) gy41 rfl
        exact ok_some ⟨ty41, fy41, trivial⟩
      · refine ok_bnd (Q := fun (z : Int32) => (-2 ≤ z.toInt ∧ z.toInt ≤ 3)) ?_ ?_
        · refine ok_if (fun c5 => ?_) (fun c5 => ?_)
          · have dc5 := tl_le ix2 tn_0 c5
            refine ok_bnd (Q := fun (z : Int32) => (-2 ≤ z.toInt ∧ z.toInt ≤ 1)) ?_ ?_
            · refine ok_if (fun c6 => ?_) (fun c6 => ?_)
              · have dc6 := tl_eq ix2 tn_m1 c6
                exfalso
                omega
              · refine ok_ltI (av_sub tn_1 i1 (by omega) (by omega)) (fun x35 ix35 => ?_)
                exact ok_some (ti_bd ix35 (by omega) (by omega))
            · intro y33 hyy33
              have ly33 := hyy33
              have iy33 : TI y33 y33.toInt := rfl
              exact ok_some (ti_bd iy33 (by omega) (by omega))
          · have dc5 := tl_nle ix2 tn_0 c5
            exact ok_some (ti_bd ix4 (by omega) (by omega))
        · intro y22 hyy22
          have ly22 := hyy22
          have iy22 : TI y22 y22.toInt := rfl
          refine ok_ltI (av_sub iy22 tn_1 (by omega) (by omega)) (fun x23 ix23 => ?_)
          refine ok_ltI (av_mul i2 ix23 (by omega) (by omega)) (fun x24 ix24 => ?_)
          refine ok_ltI (av_add tn_4 ix24 (by omega) (by omega)) (fun x25 ix25 => ?_)
          refine ok_ltI (av_mul i2 iy22 (by omega) (by omega)) (fun x26 ix26 => ?_)
          refine ok_ltI (av_add tn_4 ix26 (by omega) (by omega)) (fun x27 ix27 => ?_)
          refine ok_ltI (av_add iy22 tn_1 (by omega) (by omega)) (fun x28 ix28 => ?_)
          refine ok_ltI (av_mul i2 ix28 (by omega) (by omega)) (fun x29 ix29 => ?_)
          refine ok_ltI (av_add tn_4 ix29 (by omega) (by omega)) (fun x30 ix30 => ?_)
          refine ok_bnd (s_three t ix25 ix27 ix30 (by omega) (by omega) (by omega) (by omega) (by omega) (by omega)) ?_
          intro y31 hyy31
          obtain ⟨ty31, gy31, _⟩ := hyy31
          have fy31 := fr_tr (fr_0 p [] M) gy31 rfl
          exact ok_some ⟨ty31, fy31, trivial⟩
  · refine ok_ltI (av_mul tn_2 i0 (by omega) (by omega)) (fun x1 ix1 => ?_)
    refine ok_ltI (av_sub ix1 i1 (by omega) (by omega)) (fun x2 ix2 => ?_)
    refine ok_ltI (av_sar 1 i1 (by decide)) (fun x3 ix3 => ?_)
    refine ok_ltI (av_sub i0 ix3 (by omega) (by omega)) (fun x4 ix4 => ?_)
    refine ok_if (fun c1 => ?_) (fun c1 => ?_)
    · have dc1 := tl_lt ix2 tn_0 c1
      refine ok_bnd (Q := fun (z : Int32) => (-2 ≤ z.toInt ∧ z.toInt ≤ 1)) ?_ ?_
      · refine ok_if (fun c2 => ?_) (fun c2 => ?_)
        · have dc2 := tl_le ix2 tn_0 c2
          refine ok_bnd (Q := fun (z : Int32) => (-2 ≤ z.toInt ∧ z.toInt ≤ 1)) ?_ ?_
          · refine ok_if (fun c3 => ?_) (fun c3 => ?_)
            · have dc3 := tl_eq ix2 tn_m1 c3
              exact ok_some (ti_bd tn_0 (by omega) (by omega))
            · refine ok_ltI (av_sub tn_1 i1 (by omega) (by omega)) (fun x19 ix19 => ?_)
              exact ok_some (ti_bd ix19 (by omega) (by omega))
          · intro y17 hyy17
            have ly17 := hyy17
            have iy17 : TI y17 y17.toInt := rfl
            exact ok_some (ti_bd iy17 (by omega) (by omega))
        · have dc2 := tl_nle ix2 tn_0 c2
          exfalso
          omega
      · intro y6 hyy6
        have ly6 := hyy6
        have iy6 : TI y6 y6.toInt := rfl
        refine ok_ltI (av_sub iy6 tn_1 (by omega) (by omega)) (fun x7 ix7 => ?_)
        refine ok_ltI (av_mul i2 ix7 (by omega) (by omega)) (fun x8 ix8 => ?_)
        refine ok_ltI (av_add tn_4 ix8 (by omega) (by omega)) (fun x9 ix9 => ?_)
        refine ok_ltI (av_mul i2 iy6 (by omega) (by omega)) (fun x10 ix10 => ?_)
        refine ok_ltI (av_add tn_4 ix10 (by omega) (by omega)) (fun x11 ix11 => ?_)
        refine ok_ltI (av_add iy6 tn_1 (by omega) (by omega)) (fun x12 ix12 => ?_)
        refine ok_ltI (av_mul i2 ix12 (by omega) (by omega)) (fun x13 ix13 => ?_)
        refine ok_ltI (av_add tn_4 ix13 (by omega) (by omega)) (fun x14 ix14 => ?_)
        refine ok_bnd (s_three t ix9 ix11 ix14 (by omega) (by omega) (by omega) (by omega) (by omega) (by omega)) ?_
        intro y15 hyy15
        obtain ⟨ty15, gy15, _⟩ := hyy15
        have fy15 := fr_tr (fr_0 p [] M) gy15 rfl
        exact ok_some ⟨ty15, fy15, trivial⟩
    · have dc1 := tl_nlt ix2 tn_0 c1
      refine ok_ltI (av_mod ix2 tn_2 (by omega) (by omega)) (fun x20 ix20 => ?_)
      refine ok_if (fun c4 => ?_) (fun c4 => ?_)
      · have dc4 := tl_eq ix20 tn_0 c4
        refine ok_ltI (av_mul i2 ix4 (by omega) (by omega)) (fun x36 ix36 => ?_)
        refine ok_ltI (av_add tn_4 ix36 (by omega) (by omega)) (fun x37 ix37 => ?_)
        refine ok_ltI (av_add ix4 tn_1 (by omega) (by omega)) (fun x38 ix38 => ?_)
        refine ok_ltI (av_mul i2 ix38 (by omega) (by omega)) (fun x39 ix39 => ?_)
        refine ok_ltI (av_add tn_4 ix39 (by omega) (by omega)) (fun x40 ix40 => ?_)
        refine ok_bnd (s_two t ix37 ix40 (by omega) (by omega) (by omega) (by omega)) ?_
        intro y41 hyy41
        obtain ⟨ty41, gy41, _⟩ := hyy41
        have fy41 := fr_tr (fr_0 p [] M) gy41 rfl
        exact ok_some ⟨ty41, fy41, trivial⟩
      · refine ok_bnd (Q := fun (z : Int32) => (-2 ≤ z.toInt ∧ z.toInt ≤ 3)) ?_ ?_
        · refine ok_if (fun c5 => ?_) (fun c5 => ?_)
          · have dc5 := tl_le ix2 tn_0 c5
            refine ok_bnd (Q := fun (z : Int32) => (-2 ≤ z.toInt ∧ z.toInt ≤ 1)) ?_ ?_
            · refine ok_if (fun c6 => ?_) (fun c6 => ?_)
              · have dc6 := tl_eq ix2 tn_m1 c6
                exfalso
                omega
              · refine ok_ltI (av_sub tn_1 i1 (by omega) (by omega)) (fun x35 ix35 => ?_)
                exact ok_some (ti_bd ix35 (by omega) (by omega))
            · intro y33 hyy33
              have ly33 := hyy33
              have iy33 : TI y33 y33.toInt := rfl
              exact ok_some (ti_bd iy33 (by omega) (by omega))
          · have dc5 := tl_nle ix2 tn_0 c5
            exact ok_some (ti_bd ix4 (by omega) (by omega))
        · intro y22 hyy22
          have ly22 := hyy22
          have iy22 : TI y22 y22.toInt := rfl
          refine ok_ltI (av_sub iy22 tn_1 (by omega) (by omega)) (fun x23 ix23 => ?_)
          refine ok_ltI (av_mul i2 ix23 (by omega) (by omega)) (fun x24 ix24 => ?_)
          refine ok_ltI (av_add tn_4 ix24 (by omega) (by omega)) (fun x25 ix25 => ?_)
          refine ok_ltI (av_mul i2 iy22 (by omega) (by omega)) (fun x26 ix26 => ?_)
          refine ok_ltI (av_add tn_4 ix26 (by omega) (by omega)) (fun x27 ix27 => ?_)
          refine ok_ltI (av_add iy22 tn_1 (by omega) (by omega)) (fun x28 ix28 => ?_)
          refine ok_ltI (av_mul i2 ix28 (by omega) (by omega)) (fun x29 ix29 => ?_)
          refine ok_ltI (av_add tn_4 ix29 (by omega) (by omega)) (fun x30 ix30 => ?_)
          refine ok_bnd (s_three t ix25 ix27 ix30 (by omega) (by omega) (by omega) (by omega) (by omega) (by omega)) ?_
          intro y31 hyy31
          obtain ⟨ty31, gy31, _⟩ := hyy31
          have fy31 := fr_tr (fr_0 p [] M) gy31 rfl
          exact ok_some ⟨ty31, fy31, trivial⟩
theorem s_takeMotion {G : GG} {M : DD} {p : Nat} {w : Int} {L : List Nat} (t : TT G M p w L) {p0 : Option Nat} {q0 : Nat} (e0 : p0 = some q0) (hq0 : q0 ∈ L) {p1 : Int32} {a1 : Int} (i1 : TI p1 a1) (h0 : 0 ≤ a1) (h1 : a1 ≤ 511) : OK (FX6_takeMotion G M 138 p0 p1) (fun y => TT G y p w L ∧ Fr p [1] M y) := by
  unfold FX6_takeMotion
  subst e0
  have hw12 : 1 ≤ w ∧ w ≤ 2 := by rcases tt_w t with h | h <;> omega
  refine ok_bnd (Q := fun (z : Int32 × DD) => (0 ≤ z.1.toInt ∧ z.1.toInt ≤ 2) ∧ TT G z.2 p w L ∧ Fr p [1] M z.2) (ok_itr (fun (z : Int32 × DD) => (0 ≤ z.1.toInt ∧ z.1.toInt ≤ 2) ∧ TT G z.2 p w L ∧ Fr p [1] M z.2) (fun z => (2 - z.1.toInt).toNat) ?_ _ _ ?_ ?_) ?_
  · intro s2 hys2
    obtain ⟨ls2_1, ts2_2, fs2_2⟩ := hys2
    have is2_1 : TI s2.1 s2.1.toInt := rfl
    refine ok_if (fun c1 => ?_) (fun c1 => ?_)
    · have dc1 := tl_le tn_2 is2_1 c1
      exact ok_some ⟨(ti_bd is2_1 (by omega) (by omega)), ts2_2, fs2_2⟩
    · have dc1 := tl_nle tn_2 is2_1 c1
      refine ok_bnd (s_at ts2_2 is2_1 i1 (by omega) (by omega) (by omega) (by omega)) ?_
      intro y6 hyy6
      obtain ⟨ty6, gy6, iy6⟩ := hyy6
      have fy6 := fr_tr fs2_2 gy6 rfl
      refine ok_ltI (av_mul tn_3 is2_1 (by omega) (by omega)) (fun x7 ix7 => ?_)
      refine ok_dr rfl (by have q := (tt_q0b ty6 hq0); omega) (gk_0 ty6 hq0) ?_
      refine ok_dr (pr_5 ty6 hq0) (by have q := (tt_q0b ty6 hq0); omega) (gk_6 ty6 hq0) ?_
      refine ok_chk (nxg (gl_6 ty6 hq0) iy6 (by omega) (by omega)) ?_
      refine ok_ltB (ib_6 ty6 hq0 _) (fun x10 lx10 => ?_)
      have ix10 : TI x10 x10.toInt := rfl
      refine ok_dr (f_r (b := 144) ty6 rfl (by decide)) (g_lt ty6 (by decide)) (g_k ty6 (by decide) rfl) ?_
      refine ok_chk (nxg (g_n (i := 144) (n := 6) ty6 (by decide) rfl) ix7 (by omega) (by omega)) ?_
      refine ok_ltt (fun M12 eM12 => ?_)
      have tM12 : TT G M12 p w L := by rw [eM12]; exact (tt_144 ty6 (fun _ => (ti_ib ix10 (by omega) (by omega))))
      have fM12 : Fr p [1] M M12 := by rw [eM12]; exact (fr_w fy6 rfl)
      clear eM12
      refine ok_ltI (av_mul tn_3 is2_1 (by omega) (by omega)) (fun x13 ix13 => ?_)
      refine ok_ltI (av_add ix13 tn_1 (by omega) (by omega)) (fun x14 ix14 => ?_)
      refine ok_ltI (av_mul tn_2 iy6 (by omega) (by omega)) (fun x15 ix15 => ?_)
      refine ok_dr (pr_7 tM12 hq0) (by have q := (tt_q0b tM12 hq0); omega) (gk_8 tM12 hq0) ?_
      refine ok_chk (nxg (gl_8 tM12 hq0) ix15 (by omega) (by omega)) ?_
      refine ok_ltB (ib_8 tM12 hq0 _) (fun x17 lx17 => ?_)
      have ix17 : TI x17 x17.toInt := rfl
      refine ok_dr (f_r (b := 144) tM12 rfl (by decide)) (g_lt tM12 (by decide)) (g_k tM12 (by decide) rfl) ?_
      refine ok_chk (nxg (g_n (i := 144) (n := 6) tM12 (by decide) rfl) ix14 (by omega) (by omega)) ?_
      refine ok_ltt (fun M19 eM19 => ?_)
      have tM19 : TT G M19 p w L := by rw [eM19]; exact (tt_144n tM12 ix14 (by omega) (by omega))
      have fM19 : Fr p [1] M M19 := by rw [eM19]; exact (fr_w fM12 rfl)
      clear eM19
      refine ok_ltI (av_mul tn_3 is2_1 (by omega) (by omega)) (fun x20 ix20 => ?_)
      refine ok_ltI (av_add ix20 tn_2 (by omega) (by omega)) (fun x21 ix21 => ?_)
      refine ok_ltI (av_mul tn_2 iy6 (by omega) (by omega)) (fun x22 ix22 => ?_)
      refine ok_ltI (av_add ix22 tn_1 (by omega) (by omega)) (fun x23 ix23 => ?_)
      refine ok_dr (pr_7 tM19 hq0) (by have q := (tt_q0b tM19 hq0); omega) (gk_8 tM19 hq0) ?_
      refine ok_chk (nxg (gl_8 tM19 hq0) ix23 (by omega) (by omega)) ?_
      refine ok_ltB (ib_8 tM19 hq0 _) (fun x25 lx25 => ?_)
      have ix25 : TI x25 x25.toInt := rfl
      refine ok_dr (f_r (b := 144) tM19 rfl (by decide)) (g_lt tM19 (by decide)) (g_k tM19 (by decide) rfl) ?_
      refine ok_chk (nxg (g_n (i := 144) (n := 6) tM19 (by decide) rfl) ix21 (by omega) (by omega)) ?_
      refine ok_ltt (fun M27 eM27 => ?_)
      have tM27 : TT G M27 p w L := by rw [eM27]; exact (tt_144n tM19 ix21 (by omega) (by omega))
      have fM27 : Fr p [1] M M27 := by rw [eM27]; exact (fr_w fM19 rfl)
      clear eM27
      refine ok_ltI (av_add is2_1 tn_1 (by omega) (by omega)) (fun x28 ix28 => ?_)
      exact ok_some ⟨⟨(ti_bd ix28 (by omega) (by omega)), tM27, fM27⟩, (mu_up ix28 (by omega) (by omega))⟩
  · exact ⟨(ti_bd tn_0 (by omega) (by omega)), t, (fr_0 p [1] M)⟩
  · exact mu_0 tn_0 (by omega)
  · intro y1 hyy1
    obtain ⟨ly1_1, ty1_2, fy1_2⟩ := hyy1
    have iy1_1 : TI y1.1 y1.1.toInt := rfl
    exact ok_some ⟨ty1_2, fy1_2⟩
theorem s_listOf {G : GG} {M : DD} {p : Nat} {w : Int} {L : List Nat} (t : TT G M p w L) {q : Nat} (hq : q ∈ L) {p0 : Int32} {a0 : Int} (i0 : TI p0 a0) (h0 : 0 ≤ a0) (h1 : a0 ≤ 511) : OK (FX4_listOf G M q p0) (fun y => TT G y.1 p w L ∧ Fr p [] M y.1 ∧ (-1 ≤ y.2.toInt ∧ y.2.toInt ≤ 1)) := by
  unfold FX4_listOf
  have hw12 : 1 ≤ w ∧ w ≤ 2 := by rcases tt_w t with h | h <;> omega
  refine ok_dr (pr_5 t hq) (by have q := (tt_q0b t hq); omega) (gk_6 t hq) ?_
  refine ok_chk (nxg (gl_6 t hq) i0 (by omega) (by omega)) ?_
  refine ok_ltB (ib_6 t hq _) (fun x2 lx2 => ?_)
  have ix2 : TI x2 x2.toInt := rfl
  refine ok_bnd (Q := fun (z : Int32) => (-1 ≤ z.toInt ∧ z.toInt ≤ 1)) ?_ ?_
  · refine ok_if (fun c1 => ?_) (fun c1 => ?_)
    · have dc1 := tl_lt ix2 tn_0 c1
      refine ok_ltI (av_add tn_512 i0 (by omega) (by omega)) (fun x5 ix5 => ?_)
      refine ok_chk (nxg (gl_6 t hq) ix5 (by omega) (by omega)) ?_
      refine ok_ltB (ib_6 t hq _) (fun x6 lx6 => ?_)
      have ix6 : TI x6 x6.toInt := rfl
      refine ok_bnd (Q := fun (z : Int32) => (-1 ≤ z.toInt ∧ z.toInt ≤ 1)) ?_ ?_
      · refine ok_if (fun c2 => ?_) (fun c2 => ?_)
        · have dc2 := tl_lt ix6 tn_0 c2
          exact ok_some (ti_bd tn_m1 (by omega) (by omega))
        · have dc2 := tl_nlt ix6 tn_0 c2
          exact ok_some (ti_bd tn_1 (by omega) (by omega))
      · intro y7 hyy7
        have ly7 := hyy7
        have iy7 : TI y7 y7.toInt := rfl
        exact ok_some (ti_bd iy7 (by omega) (by omega))
    · have dc1 := tl_nlt ix2 tn_0 c1
      exact ok_some (ti_bd tn_0 (by omega) (by omega))
  · intro y3 hyy3
    have ly3 := hyy3
    have iy3 : TI y3 y3.toInt := rfl
    exact ok_some ⟨t, (fr_0 p [] M), (ti_bd iy3 (by omega) (by omega))⟩
theorem s_clip {G : GG} {M : DD} {p : Nat} {w : Int} {L : List Nat} (t : TT G M p w L) {p0 : Int32} : OK (FX11_clip G M p0) (fun y => TT G y.1 p w L ∧ Fr p [] M y.1 ∧ True) := by
  unfold FX11_clip
  have hw12 : 1 ≤ w ∧ w ≤ 2 := by rcases tt_w t with h | h <;> omega
  refine ok_bnd (Q := fun (z : Int32) => (0 ≤ z.toInt ∧ z.toInt ≤ 255)) ?_ ?_
  · refine ok_if (fun c1 => ?_) (fun c1 => ?_)
    · have dc1 := tl_le tn_0 (rfl : TI p0 p0.toInt) c1
      refine ok_bnd (Q := fun (z : Int32) => (0 ≤ z.toInt ∧ z.toInt ≤ 255)) ?_ ?_
      · refine ok_if (fun c2 => ?_) (fun c2 => ?_)
        · have dc2 := tl_le (rfl : TI p0 p0.toInt) tn_255 c2
          exact ok_some (ti_bd (rfl : TI p0 p0.toInt) (by omega) (by omega))
        · have dc2 := tl_nle (rfl : TI p0 p0.toInt) tn_255 c2
          exact ok_some (ti_bd tn_255 (by omega) (by omega))
      · intro y3 hyy3
        have ly3 := hyy3
        have iy3 : TI y3 y3.toInt := rfl
        exact ok_some (ti_bd iy3 (by omega) (by omega))
    · have dc1 := tl_nle tn_0 (rfl : TI p0 p0.toInt) c1
      exact ok_some (ti_bd tn_0 (by omega) (by omega))
  · intro y1 hyy1
    have ly1 := hyy1
    have iy1 : TI y1 y1.toInt := rfl
    exact ok_some ⟨t, (fr_0 p [] M), trivial⟩
theorem s_weightAt {G : GG} {M : DD} {p : Nat} {w : Int} {L : List Nat} (t : TT G M p w L) {p0 : Int32} {a0 : Int} (i0 : TI p0 a0) {p1 : Int32} {a1 : Int} (i1 : TI p1 a1) {p2 : Int32} {a2 : Int} (i2 : TI p2 a2) (h0 : 0 ≤ a0) (h1 : a0 ≤ 1) (h2 : 0 ≤ a1) (h3 : a1 ≤ 7) (h4 : 0 ≤ a2) (h5 : a2 ≤ 2) : OK (FX3_weightAt G M p0 p1 p2) (fun y => TT G y.1 p w L ∧ Fr p [] M y.1 ∧ TI y.2 (2 * (3 * (8 * a0 + a1) + a2))) := by
  unfold FX3_weightAt
  have hw12 : 1 ≤ w ∧ w ≤ 2 := by rcases tt_w t with h | h <;> omega
  refine ok_ltI (av_mul tn_8 i0 (by omega) (by omega)) (fun x1 ix1 => ?_)
  refine ok_ltI (av_add ix1 i1 (by omega) (by omega)) (fun x2 ix2 => ?_)
  refine ok_ltI (av_mul tn_3 ix2 (by omega) (by omega)) (fun x3 ix3 => ?_)
  refine ok_ltI (av_add ix3 i2 (by omega) (by omega)) (fun x4 ix4 => ?_)
  refine ok_ltI (av_mul tn_2 ix4 (by omega) (by omega)) (fun x5 ix5 => ?_)
  exact ok_some ⟨t, (fr_0 p [] M), (ix5)⟩
theorem s_colourStep {G : GG} {M : DD} {p : Nat} {w : Int} {L : List Nat} (t : TT G M p w L) {p0 : Int32} {p1 : Int32} : OK (FX6_colourStep G M p0 p1) (fun y => TT G y.1 p w L ∧ Fr p [] M y.1 ∧ (0 ≤ y.2.toInt ∧ y.2.toInt ≤ 51)) := by
  unfold FX6_colourStep
  have hw12 : 1 ≤ w ∧ w ≤ 2 := by rcases tt_w t with h | h <;> omega
  refine ok_ltA (fun x1 => ?_)
  refine ok_bnd (s_clamp t tn_0 tn_51 (by omega)) ?_
  intro y2 hyy2
  obtain ⟨ty2, gy2, ly2⟩ := hyy2
  have fy2 := fr_tr (fr_0 p [] M) gy2 rfl
  have iy2 : TI y2.2 y2.2.toInt := rfl
  refine ok_bnd (Q := fun (z : Int32) => (0 ≤ z.toInt ∧ z.toInt ≤ 39)) ?_ ?_
  · refine ok_if (fun c1 => ?_) (fun c1 => ?_)
    · have dc1 := tl_le tn_30 iy2 c1
      refine ok_ltI (av_sub iy2 tn_30 (by omega) (by omega)) (fun x5 ix5 => ?_)
      refine ok_chk (nx ix5 (by omega) (by omega)) ?_
      refine ok_ltB (tb_11 _) (fun x6 lx6 => ?_)
      have ix6 : TI x6 x6.toInt := rfl
      exact ok_some (ti_bd ix6 (by omega) (by omega))
    · have dc1 := tl_nle tn_30 iy2 c1
      exact ok_some (ti_bd iy2 (by omega) (by omega))
  · intro y3 hyy3
    have ly3 := hyy3
    have iy3 : TI y3 y3.toInt := rfl
    exact ok_some ⟨ty2, fy2, (ti_bd iy3 (by omega) (by omega))⟩
theorem s_isAtRest {G : GG} {M : DD} {p : Nat} {w : Int} {L : List Nat} (t : TT G M p w L) {p0 : Int32} {a0 : Int} (i0 : TI p0 a0) (h0 : 0 ≤ a0) (h1 : a0 ≤ 63) : OK (FX9_isAtRest G M 125 p0) (fun y => TT G y.1 p w L ∧ Fr p [] M y.1 ∧ True) := by
  unfold FX9_isAtRest
  have hw12 : 1 ≤ w ∧ w ≤ 2 := by rcases tt_w t with h | h <;> omega
  refine ok_dr (tt_pic t) (by have q := (tt_q0b t (tt_p t)); omega) (gk_0 t (tt_p t)) ?_
  refine ok_dr (pr_5 t (tt_p t)) (by have q := (tt_q0b t (tt_p t)); omega) (gk_6 t (tt_p t)) ?_
  refine ok_chk (nxg (gl_6 t (tt_p t)) i0 (by omega) (by omega)) ?_
  refine ok_ltB (ib_6 t (tt_p t) _) (fun x3 lx3 => ?_)
  have ix3 : TI x3 x3.toInt := rfl
  refine ok_bnd (Q := fun (z : Int32) => (0 ≤ z.toInt ∧ z.toInt ≤ 1)) ?_ ?_
  · refine ok_if (fun c1 => ?_) (fun c1 => ?_)
    · have dc1 := tl_eq ix3 tn_0 c1
      refine ok_ltI (av_mul tn_2 i0 (by omega) (by omega)) (fun x6 ix6 => ?_)
      refine ok_dr (pr_7 t (tt_p t)) (by have q := (tt_q0b t (tt_p t)); omega) (gk_8 t (tt_p t)) ?_
      refine ok_chk (nxg (gl_8 t (tt_p t)) ix6 (by omega) (by omega)) ?_
      refine ok_ltB (ib_8 t (tt_p t) _) (fun x8 lx8 => ?_)
      have ix8 : TI x8 x8.toInt := rfl
      refine ok_bnd (Q := fun (z : Int32) => (0 ≤ z.toInt ∧ z.toInt ≤ 1)) ?_ ?_
      · refine ok_if (fun c2 => ?_) (fun c2 => ?_)
        · have dc2 := tl_eq ix8 tn_0 c2
          refine ok_ltI (av_mul tn_2 i0 (by omega) (by omega)) (fun x11 ix11 => ?_)
          refine ok_ltI (av_add ix11 tn_1 (by omega) (by omega)) (fun x12 ix12 => ?_)
          refine ok_chk (nxg (gl_8 t (tt_p t)) ix12 (by omega) (by omega)) ?_
          refine ok_ltB (ib_8 t (tt_p t) _) (fun x13 lx13 => ?_)
          have ix13 : TI x13 x13.toInt := rfl
          refine ok_bnd (Q := fun (z : Int32) => (0 ≤ z.toInt ∧ z.toInt ≤ 1)) ?_ ?_
          · refine ok_if (fun c3 => ?_) (fun c3 => ?_)
            · have dc3 := tl_eq ix13 tn_0 c3
              exact ok_some (ti_bd tn_1 (by omega) (by omega))
            · exact ok_some (ti_bd tn_0 (by omega) (by omega))
          · intro y14 hyy14
            have ly14 := hyy14
            have iy14 : TI y14 y14.toInt := rfl
            exact ok_some (ti_bd iy14 (by omega) (by omega))
        · exact ok_some (ti_bd tn_0 (by omega) (by omega))
      · intro y9 hyy9
        have ly9 := hyy9
        have iy9 : TI y9 y9.toInt := rfl
        exact ok_some (ti_bd iy9 (by omega) (by omega))
    · exact ok_some (ti_bd tn_0 (by omega) (by omega))
  · intro y4 hyy4
    have ly4 := hyy4
    have iy4 : TI y4 y4.toInt := rfl
    refine ok_chk (t01 iy4 (by omega) (by omega)) ?_
    exact ok_some ⟨t, (fr_0 p [] M), trivial⟩
theorem s_adopt {G : GG} {M : DD} {p : Nat} {w : Int} {L : List Nat} (t : TT G M p w L) {p0 : Int32} {a0 : Int} (i0 : TI p0 a0) {p1 : Int32} {a1 : Int} (i1 : TI p1 a1) (h0 : 0 ≤ a0) (h1 : a0 ≤ 1) (h2 : 0 ≤ a1) (h3 : a1 ≤ 63) : OK (FX9_adopt G M 125 p0 p1) (fun y => TT G y p w L ∧ Fr p [10] M y) := by
  unfold FX9_adopt
  have hw12 : 1 ≤ w ∧ w ≤ 2 := by rcases tt_w t with h | h <;> omega
  refine ok_ltI (av_mul tn_512 i0 (by omega) (by omega)) (fun x1 ix1 => ?_)
  refine ok_ltI (av_add ix1 i1 (by omega) (by omega)) (fun x2 ix2 => ?_)
  refine ok_ltI (av_mul tn_2 ix2 (by omega) (by omega)) (fun x3 ix3 => ?_)
  refine ok_dr (tt_pic t) (by have q := (tt_q0b t (tt_p t)); omega) (gk_0 t (tt_p t)) ?_
  refine ok_dr (pr_7 t (tt_p t)) (by have q := (tt_q0b t (tt_p t)); omega) (gk_8 t (tt_p t)) ?_
  refine ok_chk (nxg (gl_8 t (tt_p t)) ix3 (by omega) (by omega)) ?_
  refine ok_ltB (ib_8 t (tt_p t) _) (fun x6 lx6 => ?_)
  have ix6 : TI x6 x6.toInt := rfl
  refine ok_ltt (fun M7 eM7 => ?_)
  have tM7 : TT G M7 p w L := by rw [eM7]; exact (tt_gx t (ti_ib ix6 (by omega) (by omega)))
  have fM7 : Fr p [10] M M7 := by rw [eM7]; exact (fr_w (fr_0 p [10] M) rfl)
  clear eM7
  refine ok_dr (tt_pic tM7) (by have q := (tt_q0b tM7 (tt_p tM7)); omega) (gk_0 tM7 (tt_p tM7)) ?_
  refine ok_ltI (av_add ix3 tn_1 (by omega) (by omega)) (fun x9 ix9 => ?_)
  refine ok_dr (pr_7 tM7 (tt_p tM7)) (by have q := (tt_q0b tM7 (tt_p tM7)); omega) (gk_8 tM7 (tt_p tM7)) ?_
  refine ok_chk (nxg (gl_8 tM7 (tt_p tM7)) ix9 (by omega) (by omega)) ?_
  refine ok_ltB (ib_8 tM7 (tt_p tM7) _) (fun x11 lx11 => ?_)
  have ix11 : TI x11 x11.toInt := rfl
  refine ok_ltt (fun M12 eM12 => ?_)
  have tM12 : TT G M12 p w L := by rw [eM12]; exact (tt_gy tM7 (ti_ib ix11 (by omega) (by omega)))
  have fM12 : Fr p [10] M M12 := by rw [eM12]; exact (fr_w fM7 rfl)
  clear eM12
  exact ok_some ⟨tM12, fM12⟩
theorem s_adoptMedian {G : GG} {M : DD} {p : Nat} {w : Int} {L : List Nat} (t : TT G M p w L) {p0 : Int32} {a0 : Int} (i0 : TI p0 a0) {p1 : Int32} {a1 : Int} (i1 : TI p1 a1) {p2 : Int32} {a2 : Int} (i2 : TI p2 a2) {p3 : Int32} {a3 : Int} (i3 : TI p3 a3) (h0 : 0 ≤ a0) (h1 : a0 ≤ 1) (h2 : -1 ≤ a1) (h3 : a1 ≤ 63) (h4 : -1 ≤ a2) (h5 : a2 ≤ 63) (h6 : -1 ≤ a3) (h7 : a3 ≤ 63) : OK (FX9_adoptMedian G M 125 p0 p1 p2 p3) (fun y => TT G y p w L ∧ Fr p [10] M y) := by
  unfold FX9_adoptMedian
  have hw12 : 1 ≤ w ∧ w ≤ 2 := by rcases tt_w t with h | h <;> omega
  refine ok_ltI (av_mul tn_1024 i0 (by omega) (by omega)) (fun x1 ix1 => ?_)
  refine ok_bnd (Q := fun (z : Int32 × Int32 × Int32) => (-2048 ≤ z.1.toInt ∧ z.1.toInt ≤ 2047) ∧ (-2048 ≤ z.2.1.toInt ∧ z.2.1.toInt ≤ 2047) ∧ (0 ≤ z.2.2.toInt ∧ z.2.2.toInt ≤ 2)) (ok_itr (fun (z : Int32 × Int32 × Int32) => (-2048 ≤ z.1.toInt ∧ z.1.toInt ≤ 2047) ∧ (-2048 ≤ z.2.1.toInt ∧ z.2.1.toInt ≤ 2047) ∧ (0 ≤ z.2.2.toInt ∧ z.2.2.toInt ≤ 2)) (fun z => (2 - z.2.2.toInt).toNat) ?_ _ _ ?_ ?_) ?_
  · intro s3 hys3
    obtain ⟨ls3_1, ls3_2_1, ls3_2_2⟩ := hys3
    have is3_1 : TI s3.1 s3.1.toInt := rfl
    have is3_2_1 : TI s3.2.1 s3.2.1.toInt := rfl
    have is3_2_2 : TI s3.2.2 s3.2.2.toInt := rfl
    refine ok_if (fun c1 => ?_) (fun c1 => ?_)
    · have dc1 := tl_le tn_2 is3_2_2 c1
      exact ok_some ⟨(ti_bd is3_1 (by omega) (by omega)), (ti_bd is3_2_1 (by omega) (by omega)), (ti_bd is3_2_2 (by omega) (by omega))⟩
    · have dc1 := tl_nle tn_2 is3_2_2 c1
      refine ok_bnd (Q := fun (z : Int32) => (-2048 ≤ z.toInt ∧ z.toInt ≤ 2047)) ?_ ?_
      · refine ok_if (fun c2 => ?_) (fun c2 => ?_)
        · have dc2 := tl_le tn_0 i1 c2
          refine ok_dr (tt_pic t) (by have q := (tt_q0b t (tt_p t)); omega) (gk_0 t (tt_p t)) ?_
          refine ok_ltI (av_mul tn_2 i1 (by omega) (by omega)) (fun x39 ix39 => ?_)
          refine ok_ltI (av_add ix1 ix39 (by omega) (by omega)) (fun x40 ix40 => ?_)
          refine ok_ltI (av_add ix40 is3_2_2 (by omega) (by omega)) (fun x41 ix41 => ?_)
          refine ok_dr (pr_7 t (tt_p t)) (by have q := (tt_q0b t (tt_p t)); omega) (gk_8 t (tt_p t)) ?_
          refine ok_chk (nxg (gl_8 t (tt_p t)) ix41 (by omega) (by omega)) ?_
          refine ok_ltB (ib_8 t (tt_p t) _) (fun x43 lx43 => ?_)
          have ix43 : TI x43 x43.toInt := rfl
          exact ok_some (ti_bd ix43 (by omega) (by omega))
        · have dc2 := tl_nle tn_0 i1 c2
          exact ok_some (ti_bd tn_0 (by omega) (by omega))
      · intro y9 hyy9
        have ly9 := hyy9
        have iy9 : TI y9 y9.toInt := rfl
        refine ok_bnd (Q := fun (z : Int32) => (-2048 ≤ z.toInt ∧ z.toInt ≤ 2047)) ?_ ?_
        · refine ok_if (fun c3 => ?_) (fun c3 => ?_)
          · have dc3 := tl_le tn_0 i2 c3
            refine ok_dr (tt_pic t) (by have q := (tt_q0b t (tt_p t)); omega) (gk_0 t (tt_p t)) ?_
            refine ok_ltI (av_mul tn_2 i2 (by omega) (by omega)) (fun x32 ix32 => ?_)
            refine ok_ltI (av_add ix1 ix32 (by omega) (by omega)) (fun x33 ix33 => ?_)
            refine ok_ltI (av_add ix33 is3_2_2 (by omega) (by omega)) (fun x34 ix34 => ?_)
            refine ok_dr (pr_7 t (tt_p t)) (by have q := (tt_q0b t (tt_p t)); omega) (gk_8 t (tt_p t)) ?_
            refine ok_chk (nxg (gl_8 t (tt_p t)) ix34 (by omega) (by omega)) ?_
            refine ok_ltB (ib_8 t (tt_p t) _) (fun x36 lx36 => ?_)
            have ix36 : TI x36 x36.toInt := rfl
            exact ok_some (ti_bd ix36 (by omega) (by omega))
          · have dc3 := tl_nle tn_0 i2 c3
            exact ok_some (ti_bd tn_0 (by omega) (by omega))
        · intro y10 hyy10
          have ly10 := hyy10
          have iy10 : TI y10 y10.toInt := rfl
          refine ok_bnd (Q := fun (z : Int32) => (-2048 ≤ z.toInt ∧ z.toInt ≤ 2047)) ?_ ?_
          · refine ok_if (fun c4 => ?_) (fun c4 => ?_)
            · have dc4 := tl_le tn_0 i3 c4
              refine ok_dr (tt_pic t) (by have q := (tt_q0b t (tt_p t)); omega) (gk_0 t (tt_p t)) ?_
              refine ok_ltI (av_mul tn_2 i3 (by omega) (by omega)) (fun x25 ix25 => ?_)
              refine ok_ltI (av_add ix1 ix25 (by omega) (by omega)) (fun x26 ix26 => ?_)
              refine ok_ltI (av_add ix26 is3_2_2 (by omega) (by omega)) (fun x27 ix27 => ?_)
              refine ok_dr (pr_7 t (tt_p t)) (by have q := (tt_q0b t (tt_p t)); omega) (gk_8 t (tt_p t)) ?_
              refine ok_chk (nxg (gl_8 t (tt_p t)) ix27 (by omega) (by omega)) ?_
              refine ok_ltB (ib_8 t (tt_p t) _) (fun x29 lx29 => ?_)
              have ix29 : TI x29 x29.toInt := rfl
              exact ok_some (ti_bd ix29 (by omega) (by omega))
            · have dc4 := tl_nle tn_0 i3 c4
              exact ok_some (ti_bd tn_0 (by omega) (by omega))
          · intro y11 hyy11
            have ly11 := hyy11
            have iy11 : TI y11 y11.toInt := rfl
            refine ok_bnd (Q := fun (z : Int32) => (-2048 ≤ z.toInt ∧ z.toInt ≤ 2047)) ?_ ?_
            · refine ok_if (fun c5 => ?_) (fun c5 => ?_)
              · have dc5 := tl_le iy10 iy9 c5
                exact ok_some (ti_bd iy10 (by omega) (by omega))
              · have dc5 := tl_nle iy10 iy9 c5
                exact ok_some (ti_bd iy9 (by omega) (by omega))
            · intro y12 hyy12
              have ly12 := hyy12
              have iy12 : TI y12 y12.toInt := rfl
              refine ok_bnd (Q := fun (z : Int32) => (-2048 ≤ z.toInt ∧ z.toInt ≤ 2047)) ?_ ?_
              · refine ok_if (fun c6 => ?_) (fun c6 => ?_)
                · have dc6 := tl_le iy10 iy9 c6
                  exact ok_some (ti_bd iy9 (by omega) (by omega))
                · have dc6 := tl_nle iy10 iy9 c6
                  exact ok_some (ti_bd iy10 (by omega) (by omega))
              · intro y13 hyy13
                have ly13 := hyy13
                have iy13 : TI y13 y13.toInt := rfl
                refine ok_bnd (Q := fun (z : Int32) => (-2048 ≤ z.toInt ∧ z.toInt ≤ 2047)) ?_ ?_
                · refine ok_if (fun c7 => ?_) (fun c7 => ?_)
                  · have dc7 := tl_le iy12 iy11 c7
                    refine ok_bnd (Q := fun (z : Int32) => (-2048 ≤ z.toInt ∧ z.toInt ≤ 2047)) ?_ ?_
                    · refine ok_if (fun c8 => ?_) (fun c8 => ?_)
                      · have dc8 := tl_le iy11 iy13 c8
                        exact ok_some (ti_bd iy11 (by omega) (by omega))
                      · have dc8 := tl_nle iy11 iy13 c8
                        exact ok_some (ti_bd iy13 (by omega) (by omega))
                    · intro y19 hyy19
                      have ly19 := hyy19
                      have iy19 : TI y19 y19.toInt := rfl
                      exact ok_some (ti_bd iy19 (by omega) (by omega))
                  · have dc7 := tl_nle iy12 iy11 c7
                    exact ok_some (ti_bd iy12 (by omega) (by omega))
                · intro y14 hyy14
                  have ly14 := hyy14
                  have iy14 : TI y14 y14.toInt := rfl
                  refine ok_bnd (Q := fun (z : Int32) => (-2048 ≤ z.toInt ∧ z.toInt ≤ 2047)) ?_ ?_
                  · refine ok_if (fun c9 => ?_) (fun c9 => ?_)
                    · have dc9 := tl_eq is3_2_2 tn_0 c9
                      exact ok_some (ti_bd iy14 (by omega) (by omega))
                    · exact ok_some (ti_bd is3_1 (by omega) (by omega))
                  · intro y15 hyy15
                    have ly15 := hyy15
                    have iy15 : TI y15 y15.toInt := rfl
                    refine ok_ltI (av_add is3_2_2 tn_1 (by omega) (by omega)) (fun x16 ix16 => ?_)
                    exact ok_some ⟨⟨(ti_bd iy15 (by omega) (by omega)), (ti_bd iy14 (by omega) (by omega)), (ti_bd ix16 (by omega) (by omega))⟩, (mu_up ix16 (by omega) (by omega))⟩
  · exact ⟨(ti_bd tn_0 (by omega) (by omega)), (ti_bd tn_0 (by omega) (by omega)), (ti_bd tn_0 (by omega) (by omega))⟩
  · exact mu_0 tn_0 (by omega)
  · intro y2 hyy2
    obtain ⟨ly2_1, ly2_2_1, ly2_2_2⟩ := hyy2
    have iy2_1 : TI y2.1 y2.1.toInt := rfl
    have iy2_2_1 : TI y2.2.1 y2.2.1.toInt := rfl
    have iy2_2_2 : TI y2.2.2 y2.2.2.toInt := rfl
    refine ok_ltt (fun M5 eM5 => ?_)
    have tM5 : TT G M5 p w L := by rw [eM5]; exact (tt_gx t (ti_ib iy2_1 (by omega) (by omega)))
    have fM5 : Fr p [10] M M5 := by rw [eM5]; exact (fr_w (fr_0 p [10] M) rfl)
    clear eM5
    refine ok_ltt (fun M6 eM6 => ?_)
    have tM6 : TT G M6 p w L := by rw [eM6]; exact (tt_gy tM5 (ti_ib iy2_2_1 (by omega) (by omega)))
    have fM6 : Fr p [10] M M6 := by rw [eM6]; exact (fr_w fM5 rfl)
    clear eM6
    exact ok_some ⟨tM6, fM6⟩
theorem s_mayBeColours {G : GG} {M : DD} {p : Nat} {w : Int} {L : List Nat} (t : TT G M p w L) {p0 : Int32} {p1 : Int32} : OK (FX9_mayBeColours G M p0 p1) (fun y => TT G y.1 p w L ∧ Fr p [] M y.1 ∧ (0 ≤ y.2.toInt ∧ y.2.toInt ≤ 1)) := by
  unfold FX9_mayBeColours
  have hw12 : 1 ≤ w ∧ w ≤ 2 := by rcases tt_w t with h | h <;> omega
  refine ok_bnd (Q := fun (z : Int32) => (0 ≤ z.toInt ∧ z.toInt ≤ 7)) ?_ ?_
  · refine ok_if (fun c1 => ?_) (fun c1 => ?_)
    · have dc1 := tl_eq (rfl : TI p0 p0.toInt) tn_0 c1
      exact ok_some (ti_bd tn_0 (by omega) (by omega))
    · refine ok_bnd (Q := fun (z : Int32) => (1 ≤ z.toInt ∧ z.toInt ≤ 7)) ?_ ?_
      · refine ok_if (fun c2 => ?_) (fun c2 => ?_)
        · have dc2 := tl_eq (rfl : TI p0 p0.toInt) tn_1 c2
          exact ok_some (ti_bd tn_1 (by omega) (by omega))
        · refine ok_bnd (Q := fun (z : Int32) => (2 ≤ z.toInt ∧ z.toInt ≤ 7)) ?_ ?_
          · refine ok_if (fun c3 => ?_) (fun c3 => ?_)
            · have dc3 := tl_eq (rfl : TI p0 p0.toInt) tn_2 c3
              exact ok_some (ti_bd tn_2 (by omega) (by omega))
            · exact ok_some (ti_bd tn_7 (by omega) (by omega))
          · intro y8 hyy8
            have ly8 := hyy8
            have iy8 : TI y8 y8.toInt := rfl
            exact ok_some (ti_bd iy8 (by omega) (by omega))
      · intro y6 hyy6
        have ly6 := hyy6
        have iy6 : TI y6 y6.toInt := rfl
        exact ok_some (ti_bd iy6 (by omega) (by omega))
  · intro y1 hyy1
    have ly1 := hyy1
    have iy1 : TI y1 y1.toInt := rfl
    refine ok_ltA (fun x2 => ?_)
    refine ok_bnd (Q := fun (z : Int32) => (0 ≤ z.toInt ∧ z.toInt ≤ 1)) ?_ ?_
    · refine ok_if (fun c4 => ?_) (fun c4 => ?_)
      · have dc4 := tl_eq (rfl : TI x2 x2.toInt) iy1 c4
        exact ok_some (ti_bd tn_1 (by omega) (by omega))
      · exact ok_some (ti_bd tn_0 (by omega) (by omega))
    · intro y3 hyy3
      have ly3 := hyy3
      have iy3 : TI y3 y3.toInt := rfl
      refine ok_chk (t01 iy3 (by omega) (by omega)) ?_
      exact ok_some ⟨t, (fr_0 p [] M), (ti_bd iy3 (by omega) (by omega))⟩
theorem s_mayBeFour {G : GG} {M : DD} {p : Nat} {w : Int} {L : List Nat} (t : TT G M p w L) {p0 : Int32} {p1 : Int32} : OK (FX9_mayBeFour G M p0 p1) (fun y => TT G y.1 p w L ∧ Fr p [] M y.1 ∧ (0 ≤ y.2.toInt ∧ y.2.toInt ≤ 1)) := by
  unfold FX9_mayBeFour
  have hw12 : 1 ≤ w ∧ w ≤ 2 := by rcases tt_w t with h | h <;> omega
  refine ok_bnd (Q := fun (z : Int32) => (0 ≤ z.toInt ∧ z.toInt ≤ 7)) ?_ ?_
  · refine ok_if (fun c1 => ?_) (fun c1 => ?_)
    · have dc1 := tl_eq (rfl : TI p0 p0.toInt) tn_2 c1
      exact ok_some (ti_bd tn_0 (by omega) (by omega))
    · refine ok_bnd (Q := fun (z : Int32) => (1 ≤ z.toInt ∧ z.toInt ≤ 7)) ?_ ?_
      · refine ok_if (fun c2 => ?_) (fun c2 => ?_)
        · have dc2 := tl_eq (rfl : TI p0 p0.toInt) tn_1 c2
          exact ok_some (ti_bd tn_1 (by omega) (by omega))
        · refine ok_bnd (Q := fun (z : Int32) => (1 ≤ z.toInt ∧ z.toInt ≤ 7)) ?_ ?_
          · refine ok_if (fun c3 => ?_) (fun c3 => ?_)
            · have dc3 := tl_eq (rfl : TI p0 p0.toInt) tn_8 c3
              exact ok_some (ti_bd tn_1 (by omega) (by omega))
            · refine ok_bnd (Q := fun (z : Int32) => (2 ≤ z.toInt ∧ z.toInt ≤ 7)) ?_ ?_
              · refine ok_if (fun c4 => ?_) (fun c4 => ?_)
                · have dc4 := tl_lt (rfl : TI p0 p0.toInt) tn_4 c4
                  exact ok_some (ti_bd tn_2 (by omega) (by omega))
                · have dc4 := tl_nlt (rfl : TI p0 p0.toInt) tn_4 c4
                  refine ok_bnd (Q := fun (z : Int32) => (2 ≤ z.toInt ∧ z.toInt ≤ 7)) ?_ ?_
                  · refine ok_if (fun c5 => ?_) (fun c5 => ?_)
                    · have dc5 := tl_eq (rfl : TI p0 p0.toInt) tn_7 c5
                      exact ok_some (ti_bd tn_2 (by omega) (by omega))
                    · exact ok_some (ti_bd tn_7 (by omega) (by omega))
                  · intro y12 hyy12
                    have ly12 := hyy12
                    have iy12 : TI y12 y12.toInt := rfl
                    exact ok_some (ti_bd iy12 (by omega) (by omega))
              · intro y10 hyy10
                have ly10 := hyy10
                have iy10 : TI y10 y10.toInt := rfl
                exact ok_some (ti_bd iy10 (by omega) (by omega))
          · intro y8 hyy8
            have ly8 := hyy8
            have iy8 : TI y8 y8.toInt := rfl
            exact ok_some (ti_bd iy8 (by omega) (by omega))
      · intro y6 hyy6
        have ly6 := hyy6
        have iy6 : TI y6 y6.toInt := rfl
        exact ok_some (ti_bd iy6 (by omega) (by omega))
  · intro y1 hyy1
    have ly1 := hyy1
    have iy1 : TI y1 y1.toInt := rfl
    refine ok_ltA (fun x2 => ?_)
    refine ok_bnd (Q := fun (z : Int32) => (0 ≤ z.toInt ∧ z.toInt ≤ 1)) ?_ ?_
    · refine ok_if (fun c6 => ?_) (fun c6 => ?_)
      · have dc6 := tl_eq (rfl : TI x2 x2.toInt) iy1 c6
        exact ok_some (ti_bd tn_1 (by omega) (by omega))
      · exact ok_some (ti_bd tn_0 (by omega) (by omega))
    · intro y3 hyy3
      have ly3 := hyy3
      have iy3 : TI y3 y3.toInt := rfl
      refine ok_chk (t01 iy3 (by omega) (by omega)) ?_
      exact ok_some ⟨t, (fr_0 p [] M), (ti_bd iy3 (by omega) (by omega))⟩
theorem s_mayBeSixteen {G : GG} {M : DD} {p : Nat} {w : Int} {L : List Nat} (t : TT G M p w L) {p0 : Int32} {p1 : Int32} : OK (FX9_mayBeSixteen G M p0 p1) (fun y => TT G y.1 p w L ∧ Fr p [] M y.1 ∧ (0 ≤ y.2.toInt ∧ y.2.toInt ≤ 1)) := by
  unfold FX9_mayBeSixteen
  have hw12 : 1 ≤ w ∧ w ≤ 2 := by rcases tt_w t with h | h <;> omega
  refine ok_bnd (Q := fun (z : Int32) => (0 ≤ z.toInt ∧ z.toInt ≤ 7)) ?_ ?_
  · refine ok_if (fun c1 => ?_) (fun c1 => ?_)
    · have dc1 := tl_eq (rfl : TI p0 p0.toInt) tn_0 c1
      exact ok_some (ti_bd tn_2 (by omega) (by omega))
    · refine ok_bnd (Q := fun (z : Int32) => (0 ≤ z.toInt ∧ z.toInt ≤ 7)) ?_ ?_
      · refine ok_if (fun c2 => ?_) (fun c2 => ?_)
        · have dc2 := tl_eq (rfl : TI p0 p0.toInt) tn_1 c2
          exact ok_some (ti_bd tn_1 (by omega) (by omega))
        · refine ok_bnd (Q := fun (z : Int32) => (0 ≤ z.toInt ∧ z.toInt ≤ 7)) ?_ ?_
          · refine ok_if (fun c3 => ?_) (fun c3 => ?_)
            · have dc3 := tl_eq (rfl : TI p0 p0.toInt) tn_2 c3
              exact ok_some (ti_bd tn_0 (by omega) (by omega))
            · exact ok_some (ti_bd tn_7 (by omega) (by omega))
          · intro y8 hyy8
            have ly8 := hyy8
            have iy8 : TI y8 y8.toInt := rfl
            exact ok_some (ti_bd iy8 (by omega) (by omega))
      · intro y6 hyy6
        have ly6 := hyy6
        have iy6 : TI y6 y6.toInt := rfl
        exact ok_some (ti_bd iy6 (by omega) (by omega))
  · intro y1 hyy1
    have ly1 := hyy1
    have iy1 : TI y1 y1.toInt := rfl
    refine ok_ltA (fun x2 => ?_)
    refine ok_bnd (Q := fun (z : Int32) => (0 ≤ z.toInt ∧ z.toInt ≤ 1)) ?_ ?_
    · refine ok_if (fun c4 => ?_) (fun c4 => ?_)
      · have dc4 := tl_eq (rfl : TI x2 x2.toInt) iy1 c4
        exact ok_some (ti_bd tn_1 (by omega) (by omega))
      · exact ok_some (ti_bd tn_0 (by omega) (by omega))
    · intro y3 hyy3
      have ly3 := hyy3
      have iy3 : TI y3 y3.toInt := rfl
      refine ok_chk (t01 iy3 (by omega) (by omega)) ?_
      exact ok_some ⟨t, (fr_0 p [] M), (ti_bd iy3 (by omega) (by omega))⟩
theorem s_mayBe {G : GG} {M : DD} {p : Nat} {w : Int} {L : List Nat} (t : TT G M p w L) {p0 : Int32} {p1 : Int32} {p2 : Int32} : OK (FX0_mayBe G M p0 p1 p2) (fun y => TT G y.1 p w L ∧ Fr p [] M y.1 ∧ (0 ≤ y.2.toInt ∧ y.2.toInt ≤ 1)) := by
  unfold FX0_mayBe
  have hw12 : 1 ≤ w ∧ w ≤ 2 := by rcases tt_w t with h | h <;> omega
  refine ok_if (fun c1 => ?_) (fun c1 => ?_)
  · have dc1 := tl_eq (rfl : TI p0 p0.toInt) tn_m1 c1
    refine ok_bnd (s_mayBeColours t) ?_
    intro y6 hyy6
    obtain ⟨ty6, gy6, ly6⟩ := hyy6
    have fy6 := fr_tr (fr_0 p [] M) gy6 rfl
    have iy6 : TI y6.2 y6.2.toInt := rfl
    refine ok_chk (t01 iy6 (by omega) (by omega)) ?_
    exact ok_some ⟨ty6, fy6, (ti_bd iy6 (by omega) (by omega))⟩
  · refine ok_bnd (Q := fun (z : Int32 × DD) => (0 ≤ z.1.toInt ∧ z.1.toInt ≤ 1) ∧ TT G z.2 p w L ∧ Fr p [] M z.2) ?_ ?_
    · refine ok_if (fun c2 => ?_) (fun c2 => ?_)
      · have dc2 := tl_eq (rfl : TI p0 p0.toInt) tn_0 c2
        refine ok_bnd (s_mayBeFour t) ?_
        intro y5 hyy5
        obtain ⟨ty5, gy5, ly5⟩ := hyy5
        have fy5 := fr_tr (fr_0 p [] M) gy5 rfl
        have iy5 : TI y5.2 y5.2.toInt := rfl
        exact ok_some ⟨(ti_bd iy5 (by omega) (by omega)), ty5, fy5⟩
      · refine ok_bnd (s_mayBeSixteen t) ?_
        intro y4 hyy4
        obtain ⟨ty4, gy4, ly4⟩ := hyy4
        have fy4 := fr_tr (fr_0 p [] M) gy4 rfl
        have iy4 : TI y4.2 y4.2.toInt := rfl
        exact ok_some ⟨(ti_bd iy4 (by omega) (by omega)), ty4, fy4⟩
    · intro y2 hyy2
      obtain ⟨ly2_1, ty2_2, fy2_2⟩ := hyy2
      have iy2_1 : TI y2.1 y2.1.toInt := rfl
      refine ok_chk (t01 iy2_1 (by omega) (by omega)) ?_
      exact ok_some ⟨ty2_2, fy2_2, (ti_bd iy2_1 (by omega) (by omega))⟩
theorem s_measured {G : GG} {M : DD} {p : Nat} {w : Int} {L : List Nat} (t : TT G M p w L) {p0 : Int32} {p1 : Int32} {p2 : Int32} {p3 : Int32} : OK (FX6_measured G M p0 p1 p2 p3) (fun y => TT G y.1 p w L ∧ Fr p [] M y.1 ∧ True) := by
  unfold FX6_measured
  have hw12 : 1 ≤ w ∧ w ≤ 2 := by rcases tt_w t with h | h <;> omega
  refine ok_bnd (Q := fun (z : Int32) => True) ?_ ?_
  · refine ok_if (fun c1 => ?_) (fun c1 => ?_)
    · have dc1 := tl_le tn_0 (rfl : TI p0 p0.toInt) c1
      exact ok_some trivial
    · have dc1 := tl_nle tn_0 (rfl : TI p0 p0.toInt) c1
      refine ok_ltA (fun x11 => ?_)
      exact ok_some trivial
  · intro y1 hyy1
    have u_y1 := hyy1
    refine ok_ltA (fun x2 => ?_)
    refine ok_ltA (fun x3 => ?_)
    refine ok_ltA (fun x4 => ?_)
    refine ok_bnd (Q := fun (z : Int32) => True) ?_ ?_
    · refine ok_if (fun c2 => ?_) (fun c2 => ?_)
      · have dc2 := tl_le (rfl : TI x4 x4.toInt) tn_2000 c2
        exact ok_some trivial
      · have dc2 := tl_nle (rfl : TI x4 x4.toInt) tn_2000 c2
        exact ok_some trivial
    · intro y5 hyy5
      have u_y5 := hyy5
      refine ok_bnd (Q := fun (z : Int32) => True) ?_ ?_
      · refine ok_if (fun c3 => ?_) (fun c3 => ?_)
        · have dc3 := tl_le tn_0 (rfl : TI p0 p0.toInt) c3
          exact ok_some trivial
        · have dc3 := tl_nle tn_0 (rfl : TI p0 p0.toInt) c3
          refine ok_ltA (fun x8 => ?_)
          exact ok_some trivial
      · intro y6 hyy6
        have u_y6 := hyy6
        exact ok_some ⟨t, (fr_0 p [] M), trivial⟩
theorem s_indexOfSe {G : GG} {M : DD} {p : Nat} {w : Int} {L : List Nat} (t : TT G M p w L) {p0 : Int32} : OK (FX10_indexOfSe G M p0) (fun y => TT G y.1 p w L ∧ Fr p [] M y.1 ∧ True) := by
  unfold FX10_indexOfSe
  have hw12 : 1 ≤ w ∧ w ≤ 2 := by rcases tt_w t with h | h <;> omega
  refine ok_bnd (Q := fun (z : Int32) => True) ?_ ?_
  · refine ok_if (fun c1 => ?_) (fun c1 => ?_)
    · have dc1 := tl_le (rfl : TI p0 p0.toInt) tn_0 c1
      refine ok_ltA (fun x3 => ?_)
      exact ok_some trivial
    · have dc1 := tl_nle (rfl : TI p0 p0.toInt) tn_0 c1
      refine ok_ltA (fun x4 => ?_)
      refine ok_ltA (fun x5 => ?_)
      exact ok_some trivial
  · intro y1 hyy1
    have u_y1 := hyy1
    exact ok_some ⟨t, (fr_0 p [] M), trivial⟩
theorem s_priceOfBit {G : GG} {M : DD} {p : Nat} {w : Int} {L : List Nat} (t : TT G M p w L) : OK (FX0_priceOfBit G M 116) (fun y => TT G y.1 p w L ∧ Fr p [] M y.1 ∧ True) := by
  unfold FX0_priceOfBit
  have hw12 : 1 ≤ w ∧ w ≤ 2 := by rcases tt_w t with h | h <;> omega
  refine ok_dr (f_r (b := 125) t rfl (by decide)) (g_lt t (by decide)) (g_k t (by decide) rfl) ?_
  refine ok_dr (f_r (b := 215) t rfl (by decide)) (g_lt t (by decide)) (g_k t (by decide) rfl) ?_
  refine ok_dr (f_r (b := 216) t rfl (by decide)) (g_lt t (by decide)) (g_k t (by decide) rfl) ?_
  refine ok_chk (nxg (g_n (i := 216) (n := 27) t (by decide) rfl) tn_12 (by omega) (by omega)) ?_
  refine ok_ltB (ib_p t (by simp [PYL] : (216, 12, 12, 51) ∈ PYL)) (fun x4 lx4 => ?_)
  have ix4 : TI x4 x4.toInt := rfl
  refine ok_ltI (av_div ix4 tn_4 (by omega) (by omega)) (fun x5 ix5 => ?_)
  refine ok_ltI (av_add ix5 tn_1 (by omega) (by omega)) (fun x6 ix6 => ?_)
  exact ok_some ⟨t, (fr_0 p [] M), trivial⟩
theorem s_sumAround {G : GG} {M : DD} {p : Nat} {w : Int} {L : List Nat} (t : TT G M p w L) {p0 : Int32} {a0 : Int} (i0 : TI p0 a0) {p1 : Int32} {a1 : Int} (i1 : TI p1 a1) (h0 : 0 ≤ a0) (h1 : 0 ≤ a1) (h2 : a0 + a1 ≤ 34) : OK (FX6_sumAround G M 138 p0 p1) (fun y => TT G y.1 p w L ∧ Fr p [] M y.1 ∧ True) := by
  unfold FX6_sumAround
  have hw12 : 1 ≤ w ∧ w ≤ 2 := by rcases tt_w t with h | h <;> omega
  have k0p0 : p0.toInt = _ := i0
  refine ok_bnd (Q := fun (z : Int32 × Int32) => True ∧ (p0.toInt ≤ z.2.toInt ∧ z.2.toInt ≤ (a0 + a1))) (ok_itr (fun (z : Int32 × Int32) => True ∧ (p0.toInt ≤ z.2.toInt ∧ z.2.toInt ≤ (a0 + a1))) (fun z => ((a0 + a1) - z.2.toInt).toNat) ?_ _ _ ?_ ?_) ?_
  · intro s2 hys2
    obtain ⟨_, ls2_2⟩ := hys2
    have is2_2 : TI s2.2 s2.2.toInt := rfl
    refine ok_ltI (av_add i0 i1 (by omega) (by omega)) (fun x5 ix5 => ?_)
    refine ok_if (fun c1 => ?_) (fun c1 => ?_)
    · have dc1 := tl_le ix5 is2_2 c1
      exact ok_some ⟨trivial, (ti_bd is2_2 (by omega) (by omega))⟩
    · have dc1 := tl_nle ix5 is2_2 c1
      refine ok_dr (f_r (b := 147) t rfl (by decide)) (g_lt t (by decide)) (g_k t (by decide) rfl) ?_
      refine ok_chk (nxg (g_n (i := 147) (n := 34) t (by decide) rfl) is2_2 (by omega) (by omega)) ?_
      refine ok_ltA (fun x8 => ?_)
      refine ok_ltA (fun x9 => ?_)
      refine ok_ltI (av_add is2_2 tn_1 (by omega) (by omega)) (fun x10 ix10 => ?_)
      exact ok_some ⟨⟨trivial, (ti_bd ix10 (by omega) (by omega))⟩, (mu_up ix10 (by omega) (by omega))⟩
  · exact ⟨trivial, (ti_bd i0 (by omega) (by omega))⟩
  · exact mu_0 i0 (by omega)
  · intro y1 hyy1
    obtain ⟨_, ly1_2⟩ := hyy1
    have iy1_2 : TI y1.2 y1.2.toInt := rfl
    exact ok_some ⟨t, (fr_0 p [] M), trivial⟩
theorem s_movesAlike {G : GG} {M : DD} {p : Nat} {w : Int} {L : List Nat} (t : TT G M p w L) {q : Nat} (hq : q ∈ L) {p0 : Int32} {a0 : Int} (i0 : TI p0 a0) {p1 : Int32} {a1 : Int} (i1 : TI p1 a1) (h0 : 0 ≤ a0) (h1 : a0 ≤ 511) (h2 : 0 ≤ a1) (h3 : a1 ≤ 511) : OK (FX4_movesAlike G M q p0 p1) (fun y => TT G y.1 p w L ∧ Fr p [] M y.1 ∧ True) := by
  unfold FX4_movesAlike
  have hw12 : 1 ≤ w ∧ w ≤ 2 := by rcases tt_w t with h | h <;> omega
  refine ok_bnd (Q := fun (z : ( Int32 × DD ) ⊕ ( DD × Int32 )) => match z with | .inl z => (0 ≤ z.1.toInt ∧ z.1.toInt ≤ 2) ∧ TT G z.2 p w L ∧ Fr p [] M z.2 | .inr r => TT G r.1 p w L ∧ Fr p [] M r.1 ∧ True) (ok_itr (fun (z : Int32 × DD) => (0 ≤ z.1.toInt ∧ z.1.toInt ≤ 2) ∧ TT G z.2 p w L ∧ Fr p [] M z.2) (fun z => (2 - z.1.toInt).toNat) ?_ _ _ ?_ ?_) ?_
  · intro s2 hys2
    obtain ⟨ls2_1, ts2_2, fs2_2⟩ := hys2
    have is2_1 : TI s2.1 s2.1.toInt := rfl
    refine ok_if (fun c1 => ?_) (fun c1 => ?_)
    · have dc1 := tl_le tn_2 is2_1 c1
      exact ok_some ⟨(ti_bd is2_1 (by omega) (by omega)), ts2_2, fs2_2⟩
    · have dc1 := tl_nle tn_2 is2_1 c1
      refine ok_bnd (s_at ts2_2 is2_1 i0 (by omega) (by omega) (by omega) (by omega)) ?_
      intro y6 hyy6
      obtain ⟨ty6, gy6, iy6⟩ := hyy6
      have fy6 := fr_tr fs2_2 gy6 rfl
      refine ok_bnd (s_at ty6 is2_1 i1 (by omega) (by omega) (by omega) (by omega)) ?_
      intro y7 hyy7
      obtain ⟨ty7, gy7, iy7⟩ := hyy7
      have fy7 := fr_tr fy6 gy7 rfl
      refine ok_dr (pr_5 ty7 hq) (by have q := (tt_q0b ty7 hq); omega) (gk_6 ty7 hq) ?_
      refine ok_chk (nxg (gl_6 ty7 hq) iy6 (by omega) (by omega)) ?_
      refine ok_ltB (ib_6 ty7 hq _) (fun x9 lx9 => ?_)
      have ix9 : TI x9 x9.toInt := rfl
      refine ok_chk (nxg (gl_6 ty7 hq) iy7 (by omega) (by omega)) ?_
      refine ok_ltB (ib_6 ty7 hq _) (fun x10 lx10 => ?_)
      have ix10 : TI x10 x10.toInt := rfl
      refine ok_if (fun c2 => ?_) (fun c2 => ?_)
      · have dc2 := tl_eq ix9 ix10 c2
        refine ok_ltI (av_mul tn_2 iy6 (by omega) (by omega)) (fun x12 ix12 => ?_)
        refine ok_dr (pr_7 ty7 hq) (by have q := (tt_q0b ty7 hq); omega) (gk_8 ty7 hq) ?_
        refine ok_chk (nxg (gl_8 ty7 hq) ix12 (by omega) (by omega)) ?_
        refine ok_ltB (ib_8 ty7 hq _) (fun x14 lx14 => ?_)
        have ix14 : TI x14 x14.toInt := rfl
        refine ok_ltI (av_mul tn_2 iy7 (by omega) (by omega)) (fun x15 ix15 => ?_)
        refine ok_chk (nxg (gl_8 ty7 hq) ix15 (by omega) (by omega)) ?_
        refine ok_ltB (ib_8 ty7 hq _) (fun x16 lx16 => ?_)
        have ix16 : TI x16 x16.toInt := rfl
        refine ok_if (fun c3 => ?_) (fun c3 => ?_)
        · have dc3 := tl_eq ix14 ix16 c3
          refine ok_ltI (av_mul tn_2 iy6 (by omega) (by omega)) (fun x18 ix18 => ?_)
          refine ok_ltI (av_add ix18 tn_1 (by omega) (by omega)) (fun x19 ix19 => ?_)
          refine ok_chk (nxg (gl_8 ty7 hq) ix19 (by omega) (by omega)) ?_
          refine ok_ltB (ib_8 ty7 hq _) (fun x20 lx20 => ?_)
          have ix20 : TI x20 x20.toInt := rfl
          refine ok_ltI (av_mul tn_2 iy7 (by omega) (by omega)) (fun x21 ix21 => ?_)
          refine ok_ltI (av_add ix21 tn_1 (by omega) (by omega)) (fun x22 ix22 => ?_)
          refine ok_chk (nxg (gl_8 ty7 hq) ix22 (by omega) (by omega)) ?_
          refine ok_ltB (ib_8 ty7 hq _) (fun x23 lx23 => ?_)
          have ix23 : TI x23 x23.toInt := rfl
          refine ok_if (fun c4 => ?_) (fun c4 => ?_)
          · have dc4 := tl_eq ix20 ix23 c4
            refine ok_ltI (av_add is2_1 tn_1 (by omega) (by omega)) (fun x25 ix25 => ?_)
            exact ok_some ⟨⟨(ti_bd ix25 (by omega) (by omega)), ty7, fy7⟩, (mu_up ix25 (by omega) (by omega))⟩
          · refine ok_chk (by decide) ?_
            exact ok_some ⟨ty7, fy7, trivial⟩
        · refine ok_chk (by decide) ?_
          exact ok_some ⟨ty7, fy7, trivial⟩
      · refine ok_chk (by decide) ?_
        exact ok_some ⟨ty7, fy7, trivial⟩
  · exact ⟨(ti_bd tn_0 (by omega) (by omega)), t, (fr_0 p [] M)⟩
  · exact mu_0 tn_0 (by omega)
  · intro y1 hyy1
    cases y1 with
    | inl z1k =>
      have hyz1k := hyy1
      show OK _ _
      obtain ⟨lz1k_1, tz1k_2, fz1k_2⟩ := hyz1k
      have iz1k_1 : TI z1k.1 z1k.1.toInt := rfl
      refine ok_chk (by decide) ?_
      exact ok_some ⟨tz1k_2, fz1k_2, trivial⟩
    | inr r9 => exact ok_some hyy1
