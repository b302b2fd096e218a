/-! safety of the coder's functions, printed out of their trees -/
theorem s_smooth {G : GG} {M : DD} {p : Nat} {w : Int} {L : List Nat} (t : TT G M p w L) {p0 : Option Nat} {j0 : Nat} (e0 : p0 = some (p + j0)) (hj0 : j0 = 9 ∨ j0 = 10 ∨ j0 = 11) {n0 : Int} (hn0 : (G.2.2 (p + j0) : Int) = n0) {p1 : Int32} {a1 : Int} (i1 : TI p1 a1) {p2 : Int32} {a2 : Int} (i2 : TI p2 a2) {p3 : Int32} {a3 : Int} (i3 : TI p3 a3) {p4 : Int32} {p5 : Int32} (h0 : n0 ≤ 1024) (h1 : 0 ≤ a1) (h2 : a1 < n0) (h3 : 0 ≤ a1 + a2) (h4 : a1 + a2 < n0) (h5 : -32 ≤ a2) (h6 : a2 ≤ 32) (h7 : a3 ≠ 0 → 0 ≤ a1 + 2 * a2 ∧ a1 + 2 * a2 < n0 ∧ 0 ≤ a1 + 3 * a2 ∧ a1 + 3 * a2 < n0) : OK (FX2_smooth G M p0 p1 p2 p3 p4 p5) (fun y => TT G y p w L ∧ Fr p [18] M y) := by
  unfold FX2_smooth
  subst e0
  have hw12 : 1 ≤ w ∧ w ≤ 2 := by rcases tt_w t with h | h <;> omega
  refine ok_dr rfl (by have q := (tt_q0b t (tt_p t)); omega) (gk_s t (tt_p t) hj0) ?_
  refine ok_chk (nxi hn0 i1 (by omega) (by omega)) ?_
  refine ok_ltA (fun x2 => ?_)
  refine ok_ltI (av_add i1 i2 (by omega) (by omega)) (fun x3 ix3 => ?_)
  refine ok_chk (nxi hn0 ix3 (by omega) (by omega)) ?_
  refine ok_ltA (fun x4 => ?_)
  refine ok_if (fun c1 => ?_) (fun c1 => ?_)
  · have dc1 := tl_eq i3 tn_0 c1
    refine ok_ltA (fun x40 => ?_)
    refine ok_ltA (fun x41 => ?_)
    refine ok_ltA (fun x42 => ?_)
    refine ok_ltA (fun x43 => ?_)
    refine ok_ltA (fun x44 => ?_)
    refine ok_chk (nxi hn0 i1 (by omega) (by omega)) ?_
    refine ok_ltt (fun M45 eM45 => ?_)
    have tM45 : TT G M45 p w L := by rw [eM45]; exact (tt_ws t hj0)
    have fM45 : Fr p [18] M M45 := by rw [eM45]; exact (fr_ws (fr_0 p [18] M) (tt_p0 t) hj0 rfl)
    clear eM45
    exact ok_some ⟨tM45, fM45⟩
  · have dc1 := tl_ne i3 tn_0 c1
    refine ok_ltI (av_mul tn_2 i2 (by omega) (by omega)) (fun x6 ix6 => ?_)
    refine ok_ltI (av_add i1 ix6 (by omega) (by omega)) (fun x7 ix7 => ?_)
    refine ok_chk (nxi hn0 ix7 (by omega) (by omega)) ?_
    refine ok_ltA (fun x8 => ?_)
    refine ok_ltI (av_mul tn_3 i2 (by omega) (by omega)) (fun x9 ix9 => ?_)
    refine ok_ltI (av_add i1 ix9 (by omega) (by omega)) (fun x10 ix10 => ?_)
    refine ok_chk (nxi hn0 ix10 (by omega) (by omega)) ?_
    refine ok_ltA (fun x11 => ?_)
    refine ok_ltA (fun x12 => ?_)
    refine ok_ltA (fun x13 => ?_)
    refine ok_ltA (fun x14 => ?_)
    refine ok_ltA (fun x15 => ?_)
    refine ok_ltA (fun x16 => ?_)
    refine ok_ltA (fun x17 => ?_)
    refine ok_ltA (fun x18 => ?_)
    refine ok_ltA (fun x19 => ?_)
    refine ok_ltA (fun x20 => ?_)
    refine ok_chk (nxi hn0 i1 (by omega) (by omega)) ?_
    refine ok_ltt (fun M21 eM21 => ?_)
    have tM21 : TT G M21 p w L := by rw [eM21]; exact (tt_ws t hj0)
    have fM21 : Fr p [18] M M21 := by rw [eM21]; exact (fr_ws (fr_0 p [18] M) (tt_p0 t) hj0 rfl)
    clear eM21
    refine ok_ltI (av_add i1 i2 (by omega) (by omega)) (fun x22 ix22 => ?_)
    refine ok_ltA (fun x23 => ?_)
    refine ok_ltA (fun x24 => ?_)
    refine ok_ltA (fun x25 => ?_)
    refine ok_ltA (fun x26 => ?_)
    refine ok_ltA (fun x27 => ?_)
    refine ok_chk (nxi hn0 ix22 (by omega) (by omega)) ?_
    refine ok_ltt (fun M28 eM28 => ?_)
    have tM28 : TT G M28 p w L := by rw [eM28]; exact (tt_ws tM21 hj0)
    have fM28 : Fr p [18] M M28 := by rw [eM28]; exact (fr_ws fM21 (tt_p0 tM21) hj0 rfl)
    clear eM28
    refine ok_ltI (av_mul tn_2 i2 (by omega) (by omega)) (fun x29 ix29 => ?_)
    refine ok_ltI (av_add i1 ix29 (by omega) (by omega)) (fun x30 ix30 => ?_)
    refine ok_ltA (fun x31 => ?_)
    refine ok_ltA (fun x32 => ?_)
    refine ok_ltA (fun x33 => ?_)
    refine ok_ltA (fun x34 => ?_)
    refine ok_ltA (fun x35 => ?_)
    refine ok_ltA (fun x36 => ?_)
    refine ok_ltA (fun x37 => ?_)
    refine ok_ltA (fun x38 => ?_)
    refine ok_chk (nxi hn0 ix30 (by omega) (by omega)) ?_
    refine ok_ltt (fun M39 eM39 => ?_)
    have tM39 : TT G M39 p w L := by rw [eM39]; exact (tt_ws tM28 hj0)
    have fM39 : Fr p [18] M M39 := by rw [eM39]; exact (fr_ws fM28 (tt_p0 tM28) hj0 rfl)
    clear eM39
    exact ok_some ⟨tM39, fM39⟩
theorem s_filterLine {G : GG} {M : DD} {p : Nat} {w : Int} {L : List Nat} (t : TT G M p w L) {p0 : Option Nat} {j0 : Nat} (e0 : p0 = some (p + j0)) (hj0 : j0 = 9 ∨ j0 = 10 ∨ j0 = 11) {n0 : Int} (hn0 : (G.2.2 (p + j0) : Int) = n0) {p1 : Int32} {a1 : Int} (i1 : TI p1 a1) {p2 : Int32} {a2 : Int} (i2 : TI p2 a2) {p3 : Int32} {a3 : Int} (i3 : TI p3 a3) {p4 : Int32} {a4 : Int} (i4 : TI p4 a4) (h0 : n0 ≤ 1024) (h1 : 0 ≤ a1 - 2 * a2) (h2 : a1 + a2 < n0) (h3 : 1 ≤ a2) (h4 : a2 ≤ 32) (h5 : 1 ≤ a3) (h6 : a3 ≤ 4) (h7 : a4 ≠ 0 → 0 ≤ a1 - 4 * a2 ∧ a1 + 3 * a2 < n0) : OK (FX2_filterLine G M 148 p0 p1 p2 p3 p4) (fun y => TT G y p w L ∧ Fr p [18] M y) := by
  unfold FX2_filterLine
  subst e0
  have hw12 : 1 ≤ w ∧ w ≤ 2 := by rcases tt_w t with h | h <;> omega
  refine ok_ltI (av_sub i1 i2 (by omega) (by omega)) (fun x1 ix1 => ?_)
  refine ok_dr rfl (by have q := (tt_q0b t (tt_p t)); omega) (gk_s t (tt_p t) hj0) ?_
  refine ok_chk (nxi hn0 ix1 (by omega) (by omega)) ?_
  refine ok_ltA (fun x3 => ?_)
  refine ok_ltI (av_mul tn_2 i2 (by omega) (by omega)) (fun x4 ix4 => ?_)
  refine ok_ltI (av_sub i1 ix4 (by omega) (by omega)) (fun x5 ix5 => ?_)
  refine ok_chk (nxi hn0 ix5 (by omega) (by omega)) ?_
  refine ok_ltA (fun x6 => ?_)
  refine ok_chk (nxi hn0 i1 (by omega) (by omega)) ?_
  refine ok_ltA (fun x7 => ?_)
  refine ok_ltI (av_add i1 i2 (by omega) (by omega)) (fun x8 ix8 => ?_)
  refine ok_chk (nxi hn0 ix8 (by omega) (by omega)) ?_
  refine ok_ltA (fun x9 => ?_)
  refine ok_ltA (fun x10 => ?_)
  refine ok_ltA (fun x11 => ?_)
  refine ok_ltA (fun x12 => ?_)
  refine ok_if (fun c1 => ?_) (fun c1 => ?_)
  · have dc1 := tl_le (rfl : TI x12 x12.toInt) (rfl : TI x11 x11.toInt) c1
    exact ok_some ⟨t, (fr_0 p [18] M)⟩
  · have dc1 := tl_nle (rfl : TI x12 x12.toInt) (rfl : TI x11 x11.toInt) c1
    refine ok_ltA (fun x14 => ?_)
    refine ok_ltA (fun x15 => ?_)
    refine ok_ltA (fun x16 => ?_)
    refine ok_if (fun c2 => ?_) (fun c2 => ?_)
    · have dc2 := tl_le (rfl : TI x16 x16.toInt) (rfl : TI x15 x15.toInt) c2
      exact ok_some ⟨t, (fr_0 p [18] M)⟩
    · have dc2 := tl_nle (rfl : TI x16 x16.toInt) (rfl : TI x15 x15.toInt) c2
      refine ok_ltA (fun x18 => ?_)
      refine ok_ltA (fun x19 => ?_)
      refine ok_ltA (fun x20 => ?_)
      refine ok_if (fun c3 => ?_) (fun c3 => ?_)
      · have dc3 := tl_lt (rfl : TI x19 x19.toInt) (rfl : TI x20 x20.toInt) c3
        refine ok_bnd (Q := fun (z : Int32 × DD) => (0 ≤ z.1.toInt ∧ z.1.toInt ≤ 1) ∧ TT G z.2 p w L ∧ Fr p [18] M z.2 ∧ (z.1.toInt ≠ 0 → a4 ≠ 0)) ?_ ?_
        · refine ok_if (fun c4 => ?_) (fun c4 => ?_)
          · have dc4 := tl_eq i4 tn_0 c4
            exact ok_some ⟨(ti_bd tn_0 (by omega) (by omega)), t, (fr_0 p [18] M), (by have q0 : _ = _ := tn_0; (try dsimp only); omega)⟩
          · have dc4 := tl_ne i4 tn_0 c4
            refine ok_ltI (av_mul tn_3 i2 (by omega) (by omega)) (fun x131 ix131 => ?_)
            refine ok_ltI (av_sub i1 ix131 (by omega) (by omega)) (fun x132 ix132 => ?_)
            refine ok_chk (nxi hn0 ix132 (by omega) (by omega)) ?_
            refine ok_ltA (fun x133 => ?_)
            refine ok_ltA (fun x134 => ?_)
            refine ok_ltA (fun x135 => ?_)
            refine ok_ltA (fun x136 => ?_)
            refine ok_bnd (Q := fun (z : Int32) => (0 ≤ z.toInt ∧ z.toInt ≤ 1)) ?_ ?_
            · refine ok_if (fun c5 => ?_) (fun c5 => ?_)
              · have dc5 := tl_le (rfl : TI x136 x136.toInt) (rfl : TI x135 x135.toInt) c5
                exact ok_some (ti_bd tn_0 (by omega) (by omega))
              · have dc5 := tl_nle (rfl : TI x136 x136.toInt) (rfl : TI x135 x135.toInt) c5
                exact ok_some (ti_bd tn_1 (by omega) (by omega))
            · intro y137 hyy137
              have ly137 := hyy137
              have iy137 : TI y137 y137.toInt := rfl
              exact ok_some ⟨(ti_bd iy137 (by omega) (by omega)), t, (fr_0 p [18] M), (by have q0 : _ = _ := iy137; (try dsimp only); omega)⟩
        · intro y22 hyy22
          obtain ⟨ly22_1, ty22_2, fy22_2, jy22⟩ := hyy22
          have iy22_1 : TI y22.1 y22.1.toInt := rfl
          refine ok_bnd (Q := fun (z : Int32 × DD) => (0 ≤ z.1.toInt ∧ z.1.toInt ≤ 1) ∧ TT G z.2 p w L ∧ Fr p [18] M z.2 ∧ (z.1.toInt ≠ 0 → a4 ≠ 0)) ?_ ?_
          · refine ok_if (fun c6 => ?_) (fun c6 => ?_)
            · have dc6 := tl_eq i4 tn_0 c6
              exact ok_some ⟨(ti_bd tn_0 (by omega) (by omega)), ty22_2, fy22_2, (by have q0 : _ = _ := tn_0; (try dsimp only); omega)⟩
            · have dc6 := tl_ne i4 tn_0 c6
              refine ok_ltI (av_mul tn_2 i2 (by omega) (by omega)) (fun x122 ix122 => ?_)
              refine ok_ltI (av_add i1 ix122 (by omega) (by omega)) (fun x123 ix123 => ?_)
              refine ok_chk (nxi hn0 ix123 (by omega) (by omega)) ?_
              refine ok_ltA (fun x124 => ?_)
              refine ok_ltA (fun x125 => ?_)
              refine ok_ltA (fun x126 => ?_)
              refine ok_ltA (fun x127 => ?_)
              refine ok_bnd (Q := fun (z : Int32) => (0 ≤ z.toInt ∧ z.toInt ≤ 1)) ?_ ?_
              · refine ok_if (fun c7 => ?_) (fun c7 => ?_)
                · have dc7 := tl_le (rfl : TI x127 x127.toInt) (rfl : TI x126 x126.toInt) c7
                  exact ok_some (ti_bd tn_0 (by omega) (by omega))
                · have dc7 := tl_nle (rfl : TI x127 x127.toInt) (rfl : TI x126 x126.toInt) c7
                  exact ok_some (ti_bd tn_1 (by omega) (by omega))
              · intro y128 hyy128
                have ly128 := hyy128
                have iy128 : TI y128 y128.toInt := rfl
                exact ok_some ⟨(ti_bd iy128 (by omega) (by omega)), ty22_2, fy22_2, (by have q0 : _ = _ := iy128; (try dsimp only); omega)⟩
          · intro y23 hyy23
            obtain ⟨ly23_1, ty23_2, fy23_2, jy23⟩ := hyy23
            have iy23_1 : TI y23.1 y23.1.toInt := rfl
            refine ok_if (fun c8 => ?_) (fun c8 => ?_)
            · have dc8 := tl_eq i3 tn_4 c8
              refine ok_ltA (fun x102 => ?_)
              refine ok_ltA (fun x103 => ?_)
              refine ok_ltA (fun x104 => ?_)
              refine ok_ltA (fun x105 => ?_)
              refine ok_ltA (fun x106 => ?_)
              refine ok_bnd (Q := fun (z : Int32) => (0 ≤ z.toInt ∧ z.toInt ≤ 1)) ?_ ?_
              · refine ok_if (fun c9 => ?_) (fun c9 => ?_)
                · have dc9 := tl_le (rfl : TI x106 x106.toInt) (rfl : TI x103 x103.toInt) c9
                  exact ok_some (ti_bd tn_0 (by omega) (by omega))
                · have dc9 := tl_nle (rfl : TI x106 x106.toInt) (rfl : TI x103 x103.toInt) c9
                  exact ok_some (ti_bd tn_1 (by omega) (by omega))
              · intro y107 hyy107
                have ly107 := hyy107
                have iy107 : TI y107 y107.toInt := rfl
                refine ok_ltI (av_sub i1 i2 (by omega) (by omega)) (fun x108 ix108 => ?_)
                refine ok_ltI (av_neg i2 (by omega)) (fun x109 ix109 => ?_)
                refine ok_bnd (Q := fun (z : Int32) => (0 ≤ z.toInt ∧ z.toInt ≤ 1) ∧ (z.toInt ≠ 0 → a4 ≠ 0)) ?_ ?_
                · refine ok_if (fun c10 => ?_) (fun c10 => ?_)
                  · have dc10 := tl_eq iy22_1 tn_0 c10
                    exact ok_some ⟨(ti_bd tn_0 (by omega) (by omega)), (by have q : _ = _ := tn_0; (try dsimp only); omega)⟩
                  · have dc10 := tl_ne iy22_1 tn_0 c10
                    refine ok_bnd (Q := fun (z : Int32) => (0 ≤ z.toInt ∧ z.toInt ≤ 1) ∧ (z.toInt ≠ 0 → a4 ≠ 0 ∨ 1 = 1)) ?_ ?_
                    · refine ok_if (fun c11 => ?_) (fun c11 => ?_)
                      · have dc11 := tl_eq iy107 tn_0 c11
                        exact ok_some ⟨(ti_bd tn_0 (by omega) (by omega)), (by have q : _ = _ := tn_0; (try dsimp only); omega)⟩
                      · have dc11 := tl_ne iy107 tn_0 c11
                        exact ok_some ⟨(ti_bd tn_1 (by omega) (by omega)), (by have q : _ = _ := tn_1; (try dsimp only); omega)⟩
                    · intro y118 hyy118
                      obtain ⟨ly118, jy118⟩ := hyy118
                      have iy118 : TI y118 y118.toInt := rfl
                      exact ok_some ⟨(ti_bd iy118 (by omega) (by omega)), (by have q : _ = _ := iy118; (try dsimp only); omega)⟩
                · intro y110 hyy110
                  obtain ⟨ly110, jy110⟩ := hyy110
                  have iy110 : TI y110 y110.toInt := rfl
                  refine ok_bnd (s_smooth ty23_2 rfl hj0 hn0 ix108 ix109 iy110 (by omega) (by omega) (by omega) (by omega) (by omega) (by omega) (by omega) (by omega)) ?_
                  intro y111 hyy111
                  obtain ⟨ty111, gy111⟩ := hyy111
                  have fy111 := fr_tr fy23_2 gy111 rfl
                  have w4_y111 : (y111.1 148 4).toInt = (y23.2.1 148 4).toInt := by rw [gy111.2 148 4 rfl]
                  refine ok_bnd (Q := fun (z : Int32) => (0 ≤ z.toInt ∧ z.toInt ≤ 1) ∧ (z.toInt ≠ 0 → a4 ≠ 0)) ?_ ?_
                  · refine ok_if (fun c12 => ?_) (fun c12 => ?_)
                    · have dc12 := tl_eq iy23_1 tn_0 c12
                      exact ok_some ⟨(ti_bd tn_0 (by omega) (by omega)), (by have q : _ = _ := tn_0; (try dsimp only); omega)⟩
                    · have dc12 := tl_ne iy23_1 tn_0 c12
                      refine ok_bnd (Q := fun (z : Int32) => (0 ≤ z.toInt ∧ z.toInt ≤ 1)) ?_ ?_
                      · refine ok_if (fun c13 => ?_) (fun c13 => ?_)
                        · have dc13 := tl_eq iy107 tn_0 c13
                          exact ok_some (ti_bd tn_0 (by omega) (by omega))
                        · have dc13 := tl_ne iy107 tn_0 c13
                          exact ok_some (ti_bd tn_1 (by omega) (by omega))
                      · intro y115 hyy115
                        have ly115 := hyy115
                        have iy115 : TI y115 y115.toInt := rfl
                        exact ok_some ⟨(ti_bd iy115 (by omega) (by omega)), (by have q : _ = _ := iy115; (try dsimp only); omega)⟩
                  · intro y112 hyy112
                    obtain ⟨ly112, jy112⟩ := hyy112
                    have iy112 : TI y112 y112.toInt := rfl
                    refine ok_bnd (s_smooth ty111 rfl hj0 hn0 i1 i2 iy112 (by omega) (by omega) (by omega) (by omega) (by omega) (by omega) (by omega) (by omega)) ?_
                    intro y113 hyy113
                    obtain ⟨ty113, gy113⟩ := hyy113
                    have fy113 := fr_tr fy111 gy113 rfl
                    have w4_y113 : (y113.1 148 4).toInt = (y111.1 148 4).toInt := by rw [gy113.2 148 4 rfl]
                    exact ok_some ⟨ty113, fy113⟩
            · have dc8 := tl_ne i3 tn_4 c8
              have lx25 := (ib_p ty23_2 (by simp [PYL] : (148, 4, 0, 51) ∈ PYL))
              refine ok_ltI (rfl : TI (y23.2.1 148 4) (y23.2.1 148 4).toInt) (fun x25 ix25 => ?_)
              refine ok_bnd (Q := fun (z : Int32) => (0 ≤ z.toInt ∧ z.toInt ≤ 25)) ?_ ?_
              · refine ok_if (fun c14 => ?_) (fun c14 => ?_)
                · have dc14 := tl_le tn_17 ix25 c14
                  have lx96 := (ib_p ty23_2 (by simp [PYL] : (148, 4, 0, 51) ∈ PYL))
                  refine ok_ltI (rfl : TI (y23.2.1 148 4) (y23.2.1 148 4).toInt) (fun x96 ix96 => ?_)
                  refine ok_ltI (av_sub ix96 tn_17 (by omega) (by omega)) (fun x97 ix97 => ?_)
                  refine ok_ltI (av_mul tn_3 ix97 (by omega) (by omega)) (fun x98 ix98 => ?_)
                  refine ok_ltI (av_add ix98 i3 (by omega) (by omega)) (fun x99 ix99 => ?_)
                  refine ok_ltI (av_sub ix99 tn_1 (by omega) (by omega)) (fun x100 ix100 => ?_)
                  refine ok_chk (nx ix100 (by omega) (by omega)) ?_
                  refine ok_ltB (tb_5 _) (fun x101 lx101 => ?_)
                  have ix101 : TI x101 x101.toInt := rfl
                  exact ok_some (ti_bd ix101 (by omega) (by omega))
                · have dc14 := tl_nle tn_17 ix25 c14
                  exact ok_some (ti_bd tn_0 (by omega) (by omega))
              · intro y26 hyy26
                have ly26 := hyy26
                have iy26 : TI y26 y26.toInt := rfl
                refine ok_bnd (Q := fun (z : Int32) => (0 ≤ z.toInt ∧ z.toInt ≤ 27)) ?_ ?_
                · refine ok_if (fun c15 => ?_) (fun c15 => ?_)
                  · have dc15 := tl_eq i4 tn_0 c15
                    refine ok_ltI (av_add iy26 tn_1 (by omega) (by omega)) (fun x88 ix88 => ?_)
                    exact ok_some (ti_bd ix88 (by omega) (by omega))
                  · have dc15 := tl_ne i4 tn_0 c15
                    refine ok_bnd (Q := fun (z : Int32) => (0 ≤ z.toInt ∧ z.toInt ≤ 1)) ?_ ?_
                    · refine ok_if (fun c16 => ?_) (fun c16 => ?_)
                      · have dc16 := tl_eq iy22_1 tn_0 c16
                        exact ok_some (ti_bd tn_0 (by omega) (by omega))
                      · have dc16 := tl_ne iy22_1 tn_0 c16
                        exact ok_some (ti_bd tn_1 (by omega) (by omega))
                    · intro y89 hyy89
                      have ly89 := hyy89
                      have iy89 : TI y89 y89.toInt := rfl
                      refine ok_ltI (av_add iy26 iy89 (by omega) (by omega)) (fun x90 ix90 => ?_)
                      refine ok_bnd (Q := fun (z : Int32) => (0 ≤ z.toInt ∧ z.toInt ≤ 1)) ?_ ?_
                      · refine ok_if (fun c17 => ?_) (fun c17 => ?_)
                        · have dc17 := tl_eq iy23_1 tn_0 c17
                          exact ok_some (ti_bd tn_0 (by omega) (by omega))
                        · have dc17 := tl_ne iy23_1 tn_0 c17
                          exact ok_some (ti_bd tn_1 (by omega) (by omega))
                      · intro y91 hyy91
                        have ly91 := hyy91
                        have iy91 : TI y91 y91.toInt := rfl
                        refine ok_ltI (av_add ix90 iy91 (by omega) (by omega)) (fun x92 ix92 => ?_)
                        exact ok_some (ti_bd ix92 (by omega) (by omega))
                · intro y27 hyy27
                  have ly27 := hyy27
                  have iy27 : TI y27 y27.toInt := rfl
                  refine ok_ltA (fun x28 => ?_)
                  refine ok_ltA (fun x29 => ?_)
                  refine ok_ltA (fun x30 => ?_)
                  refine ok_ltA (fun x31 => ?_)
                  refine ok_ltA (fun x32 => ?_)
                  refine ok_ltA (fun x33 => ?_)
                  refine ok_ltI (av_neg iy27 (by omega)) (fun x34 ix34 => ?_)
                  refine ok_bnd (Q := fun (z : Int32) => (-27 ≤ z.toInt ∧ z.toInt ≤ 27)) ?_ ?_
                  · refine ok_if (fun c18 => ?_) (fun c18 => ?_)
                    · have dc18 := tl_le ix34 (rfl : TI x33 x33.toInt) c18
                      refine ok_bnd (Q := fun (z : Int32) => (-27 ≤ z.toInt ∧ z.toInt ≤ 27)) ?_ ?_
                      · refine ok_if (fun c19 => ?_) (fun c19 => ?_)
                        · have dc19 := tl_le (rfl : TI x33 x33.toInt) iy27 c19
                          exact ok_some (ti_bd (rfl : TI x33 x33.toInt) (by omega) (by omega))
                        · have dc19 := tl_nle (rfl : TI x33 x33.toInt) iy27 c19
                          exact ok_some (ti_bd iy27 (by omega) (by omega))
                      · intro y84 hyy84
                        have ly84 := hyy84
                        have iy84 : TI y84 y84.toInt := rfl
                        exact ok_some (ti_bd iy84 (by omega) (by omega))
                    · have dc18 := tl_nle ix34 (rfl : TI x33 x33.toInt) c18
                      refine ok_ltI (av_neg iy27 (by omega)) (fun x86 ix86 => ?_)
                      exact ok_some (ti_bd ix86 (by omega) (by omega))
                  · intro y35 hyy35
                    have ly35 := hyy35
                    have iy35 : TI y35 y35.toInt := rfl
                    refine ok_ltA (fun x36 => ?_)
                    refine ok_ltA (fun x37 => ?_)
                    refine ok_ltA (fun x38 => ?_)
                    refine ok_bnd (Q := fun (z : DD) => TT G z p w L ∧ Fr p [18] M z) ?_ ?_
                    · refine ok_if (fun c20 => ?_) (fun c20 => ?_)
                      · have dc20 := tl_eq iy22_1 tn_0 c20
                        exact ok_some ⟨ty23_2, fy23_2⟩
                      · have dc20 := tl_ne iy22_1 tn_0 c20
                        refine ok_ltI (av_mul tn_3 i2 (by omega) (by omega)) (fun x66 ix66 => ?_)
                        refine ok_ltI (av_sub i1 ix66 (by omega) (by omega)) (fun x67 ix67 => ?_)
                        refine ok_chk (nxi hn0 ix67 (by omega) (by omega)) ?_
                        refine ok_ltA (fun x68 => ?_)
                        refine ok_ltA (fun x69 => ?_)
                        refine ok_ltA (fun x70 => ?_)
                        refine ok_ltA (fun x71 => ?_)
                        refine ok_ltA (fun x72 => ?_)
                        refine ok_ltI (av_mul tn_2 i2 (by omega) (by omega)) (fun x73 ix73 => ?_)
                        refine ok_ltI (av_sub i1 ix73 (by omega) (by omega)) (fun x74 ix74 => ?_)
                        refine ok_ltI (av_neg iy26 (by omega)) (fun x75 ix75 => ?_)
                        refine ok_bnd (Q := fun (z : Int32) => (-25 ≤ z.toInt ∧ z.toInt ≤ 25)) ?_ ?_
                        · refine ok_if (fun c21 => ?_) (fun c21 => ?_)
                          · have dc21 := tl_le ix75 (rfl : TI x72 x72.toInt) c21
                            refine ok_bnd (Q := fun (z : Int32) => (-25 ≤ z.toInt ∧ z.toInt ≤ 25)) ?_ ?_
                            · refine ok_if (fun c22 => ?_) (fun c22 => ?_)
                              · have dc22 := tl_le (rfl : TI x72 x72.toInt) iy26 c22
                                exact ok_some (ti_bd (rfl : TI x72 x72.toInt) (by omega) (by omega))
                              · have dc22 := tl_nle (rfl : TI x72 x72.toInt) iy26 c22
                                exact ok_some (ti_bd iy26 (by omega) (by omega))
                            · intro y80 hyy80
                              have ly80 := hyy80
                              have iy80 : TI y80 y80.toInt := rfl
                              exact ok_some (ti_bd iy80 (by omega) (by omega))
                          · have dc21 := tl_nle ix75 (rfl : TI x72 x72.toInt) c21
                            refine ok_ltI (av_neg iy26 (by omega)) (fun x82 ix82 => ?_)
                            exact ok_some (ti_bd ix82 (by omega) (by omega))
                        · intro y76 hyy76
                          have ly76 := hyy76
                          have iy76 : TI y76 y76.toInt := rfl
                          refine ok_ltA (fun x77 => ?_)
                          refine ok_chk (nxi hn0 ix74 (by omega) (by omega)) ?_
                          refine ok_ltt (fun M78 eM78 => ?_)
                          have tM78 : TT G M78 p w L := by rw [eM78]; exact (tt_ws ty23_2 hj0)
                          have fM78 : Fr p [18] M M78 := by rw [eM78]; exact (fr_ws fy23_2 (tt_p0 ty23_2) hj0 rfl)
                          have w4_M78 : (M78.1 148 4).toInt = (y23.2.1 148 4).toInt := by rw [eM78, uI_n _ _ (by intro h; first | exact absurd h.1 (by decide) | exact absurd h.2 (by decide) | (have := tt_p0 ty23_2; omega))]
                          clear eM78
                          exact ok_some ⟨tM78, fM78⟩
                    · intro y39 hyy39
                      obtain ⟨ty39, fy39⟩ := hyy39
                      refine ok_bnd (Q := fun (z : DD) => TT G z p w L ∧ Fr p [18] M z) ?_ ?_
                      · refine ok_if (fun c23 => ?_) (fun c23 => ?_)
                        · have dc23 := tl_eq iy23_1 tn_0 c23
                          exact ok_some ⟨ty39, fy39⟩
                        · have dc23 := tl_ne iy23_1 tn_0 c23
                          refine ok_ltI (av_mul tn_2 i2 (by omega) (by omega)) (fun x49 ix49 => ?_)
                          refine ok_ltI (av_add i1 ix49 (by omega) (by omega)) (fun x50 ix50 => ?_)
                          refine ok_chk (nxi hn0 ix50 (by omega) (by omega)) ?_
                          refine ok_ltA (fun x51 => ?_)
                          refine ok_ltA (fun x52 => ?_)
                          refine ok_ltA (fun x53 => ?_)
                          refine ok_ltA (fun x54 => ?_)
                          refine ok_ltA (fun x55 => ?_)
                          refine ok_ltI (av_add i1 i2 (by omega) (by omega)) (fun x56 ix56 => ?_)
                          refine ok_ltI (av_neg iy26 (by omega)) (fun x57 ix57 => ?_)
                          refine ok_bnd (Q := fun (z : Int32) => (-25 ≤ z.toInt ∧ z.toInt ≤ 25)) ?_ ?_
                          · refine ok_if (fun c24 => ?_) (fun c24 => ?_)
                            · have dc24 := tl_le ix57 (rfl : TI x55 x55.toInt) c24
                              refine ok_bnd (Q := fun (z : Int32) => (-25 ≤ z.toInt ∧ z.toInt ≤ 25)) ?_ ?_
                              · refine ok_if (fun c25 => ?_) (fun c25 => ?_)
                                · have dc25 := tl_le (rfl : TI x55 x55.toInt) iy26 c25
                                  exact ok_some (ti_bd (rfl : TI x55 x55.toInt) (by omega) (by omega))
                                · have dc25 := tl_nle (rfl : TI x55 x55.toInt) iy26 c25
                                  exact ok_some (ti_bd iy26 (by omega) (by omega))
                              · intro y62 hyy62
                                have ly62 := hyy62
                                have iy62 : TI y62 y62.toInt := rfl
                                exact ok_some (ti_bd iy62 (by omega) (by omega))
                            · have dc24 := tl_nle ix57 (rfl : TI x55 x55.toInt) c24
                              refine ok_ltI (av_neg iy26 (by omega)) (fun x64 ix64 => ?_)
                              exact ok_some (ti_bd ix64 (by omega) (by omega))
                          · intro y58 hyy58
                            have ly58 := hyy58
                            have iy58 : TI y58 y58.toInt := rfl
                            refine ok_ltA (fun x59 => ?_)
                            refine ok_chk (nxi hn0 ix56 (by omega) (by omega)) ?_
                            refine ok_ltt (fun M60 eM60 => ?_)
                            have tM60 : TT G M60 p w L := by rw [eM60]; exact (tt_ws ty39 hj0)
                            have fM60 : Fr p [18] M M60 := by rw [eM60]; exact (fr_ws fy39 (tt_p0 ty39) hj0 rfl)
                            have w4_M60 : (M60.1 148 4).toInt = (y39.1 148 4).toInt := by rw [eM60, uI_n _ _ (by intro h; first | exact absurd h.1 (by decide) | exact absurd h.2 (by decide) | (have := tt_p0 ty39; omega))]
                            clear eM60
                            exact ok_some ⟨tM60, fM60⟩
                      · intro y40 hyy40
                        obtain ⟨ty40, fy40⟩ := hyy40
                        refine ok_ltI (av_sub i1 i2 (by omega) (by omega)) (fun x41 ix41 => ?_)
                        refine ok_ltA (fun x42 => ?_)
                        refine ok_bnd (s_clip ty40) ?_
                        intro y43 hyy43
                        obtain ⟨ty43, gy43, _⟩ := hyy43
                        have fy43 := fr_tr fy40 gy43 rfl
                        have w4_y43 : (y43.1.1 148 4).toInt = (y40.1 148 4).toInt := by rw [gy43.2 148 4 rfl]
                        refine ok_chk (nxi hn0 ix41 (by omega) (by omega)) ?_
                        refine ok_ltt (fun M44 eM44 => ?_)
                        have tM44 : TT G M44 p w L := by rw [eM44]; exact (tt_ws ty43 hj0)
                        have fM44 : Fr p [18] M M44 := by rw [eM44]; exact (fr_ws fy43 (tt_p0 ty43) hj0 rfl)
                        have w4_M44 : (M44.1 148 4).toInt = (y43.1.1 148 4).toInt := by rw [eM44, uI_n _ _ (by intro h; first | exact absurd h.1 (by decide) | exact absurd h.2 (by decide) | (have := tt_p0 ty43; omega))]
                        clear eM44
                        refine ok_ltA (fun x45 => ?_)
                        refine ok_bnd (s_clip tM44) ?_
                        intro y46 hyy46
                        obtain ⟨ty46, gy46, _⟩ := hyy46
                        have fy46 := fr_tr fM44 gy46 rfl
                        have w4_y46 : (y46.1.1 148 4).toInt = (M44.1 148 4).toInt := by rw [gy46.2 148 4 rfl]
                        refine ok_chk (nxi hn0 i1 (by omega) (by omega)) ?_
                        refine ok_ltt (fun M47 eM47 => ?_)
                        have tM47 : TT G M47 p w L := by rw [eM47]; exact (tt_ws ty46 hj0)
                        have fM47 : Fr p [18] M M47 := by rw [eM47]; exact (fr_ws fy46 (tt_p0 ty46) hj0 rfl)
                        have w4_M47 : (M47.1 148 4).toInt = (y46.1.1 148 4).toInt := by rw [eM47, uI_n _ _ (by intro h; first | exact absurd h.1 (by decide) | exact absurd h.2 (by decide) | (have := tt_p0 ty46; omega))]
                        clear eM47
                        exact ok_some ⟨tM47, fM47⟩
      · have dc3 := tl_nlt (rfl : TI x19 x19.toInt) (rfl : TI x20 x20.toInt) c3
        exact ok_some ⟨t, (fr_0 p [18] M)⟩
theorem s_setThresholds {G : GG} {M : DD} {p : Nat} {w : Int} {L : List Nat} (t : TT G M p w L) {p0 : Option Nat} (e0 : p0 = some 125) {p1 : Int32} {a1 : Int} (i1 : TI p1 a1) {p2 : Int32} {a2 : Int} (i2 : TI p2 a2) {p3 : Int32} (h0 : 0 ≤ a1) (h1 : a1 < 2 * w) (h2 : 0 ≤ a2) (h3 : a2 < 2 * w) : OK (FX2_setThresholds G M 148 p0 p1 p2 p3) (fun y => TT G y p w L ∧ Fr p [15] M y) := by
  unfold FX2_setThresholds
  subst e0
  have hw12 : 1 ≤ w ∧ w ≤ 2 := by rcases tt_w t with h | h <;> omega
  refine ok_dr rfl (g_lt t (by decide)) (g_k t (by decide) rfl) ?_
  refine ok_ltI (av_mul tn_8 i1 (by omega) (by omega)) (fun x3 ix3 => ?_)
  refine ok_ltI (av_add ix3 tn_2 (by omega) (by omega)) (fun x4 ix4 => ?_)
  refine ok_dr (f_r (b := 129) t rfl (by decide)) (g_lt t (by decide)) (g_k t (by decide) rfl) ?_
  refine ok_chk (nxg (g_n (i := 129) (n := 256) t (by decide) rfl) ix4 (by omega) (by omega)) ?_
  refine ok_ltA (fun x6 => ?_)
  refine ok_ltI (av_mul tn_8 i2 (by omega) (by omega)) (fun x7 ix7 => ?_)
  refine ok_ltI (av_add ix7 tn_2 (by omega) (by omega)) (fun x8 ix8 => ?_)
  refine ok_chk (nxg (g_n (i := 129) (n := 256) t (by decide) rfl) ix8 (by omega) (by omega)) ?_
  refine ok_ltA (fun x9 => ?_)
  refine ok_bnd (Q := fun (z : Int32 × Int32 × DD) => True ∧ True ∧ TT G z.2.2 p w L ∧ Fr p [15] M z.2.2) ?_ ?_
  · refine ok_if (fun c1 => ?_) (fun c1 => ?_)
    · have dc1 := tl_le (rfl : TI p3 p3.toInt) tn_0 c1
      exact ok_some ⟨trivial, trivial, t, (fr_0 p [15] M)⟩
    · have dc1 := tl_nle (rfl : TI p3 p3.toInt) tn_0 c1
      refine ok_dr (f_r (b := 220) t rfl (by decide)) (g_lt t (by decide)) (g_k t (by decide) rfl) ?_
      refine ok_chk (nxg (g_n (i := 220) (n := 12) t (by decide) rfl) tn_8 (by omega) (by omega)) ?_
      refine ok_ltA (fun x43 => ?_)
      refine ok_bnd (s_colourStep t) ?_
      intro y44 hyy44
      obtain ⟨ty44, gy44, ly44⟩ := hyy44
      have fy44 := fr_tr (fr_0 p [15] M) gy44 rfl
      have iy44 : TI y44.2 y44.2.toInt := rfl
      have w4_y44 : (y44.1.1 148 4).toInt = (M.1 148 4).toInt := by rw [gy44.2 148 4 rfl]
      refine ok_dr (f_r (b := 220) ty44 rfl (by decide)) (g_lt ty44 (by decide)) (g_k ty44 (by decide) rfl) ?_
      refine ok_chk (nxg (g_n (i := 220) (n := 12) ty44 (by decide) rfl) tn_8 (by omega) (by omega)) ?_
      refine ok_ltA (fun x46 => ?_)
      refine ok_bnd (s_colourStep ty44) ?_
      intro y47 hyy47
      obtain ⟨ty47, gy47, ly47⟩ := hyy47
      have fy47 := fr_tr fy44 gy47 rfl
      have iy47 : TI y47.2 y47.2.toInt := rfl
      have w4_y47 : (y47.1.1 148 4).toInt = (y44.1.1 148 4).toInt := by rw [gy47.2 148 4 rfl]
      exact ok_some ⟨trivial, trivial, ty47, fy47⟩
  · intro y10 hyy10
    obtain ⟨_, _, ty10_2_2, fy10_2_2⟩ := hyy10
    refine ok_ltA (fun x11 => ?_)
    refine ok_ltA (fun x12 => ?_)
    refine ok_ltA (fun x13 => ?_)
    refine ok_ltI (av_mul tn_3 i2 (by omega) (by omega)) (fun x14 ix14 => ?_)
    refine ok_ltI (av_add ix14 tn_1 (by omega) (by omega)) (fun x15 ix15 => ?_)
    refine ok_dr (f_r (b := 133) ty10_2_2 rfl (by decide)) (g_lt ty10_2_2 (by decide)) (g_k ty10_2_2 (by decide) rfl) ?_
    refine ok_chk (nxg (g_n (i := 133) (n := 96) ty10_2_2 (by decide) rfl) ix15 (by omega) (by omega)) ?_
    refine ok_ltA (fun x17 => ?_)
    refine ok_ltA (fun x18 => ?_)
    refine ok_ltA (fun x19 => ?_)
    refine ok_bnd (s_clamp ty10_2_2 tn_0 tn_51 (by omega)) ?_
    intro y20 hyy20
    obtain ⟨ty20, gy20, ly20⟩ := hyy20
    have fy20 := fr_tr fy10_2_2 gy20 rfl
    have iy20 : TI y20.2 y20.2.toInt := rfl
    have w4_y20 : (y20.1.1 148 4).toInt = (y10.2.2.1 148 4).toInt := by rw [gy20.2 148 4 rfl]
    refine ok_ltt (fun M21 eM21 => ?_)
    have tM21 : TT G M21 p w L := by rw [eM21]; exact (tt_ia ty20 (ti_ib iy20 (by omega) (by omega)))
    have fM21 : Fr p [15] M M21 := by rw [eM21]; exact (fr_w fy20 rfl)
    have w4_M21 := wat eM21 iy20
    clear eM21
    refine ok_ltI (av_mul tn_3 i2 (by omega) (by omega)) (fun x22 ix22 => ?_)
    refine ok_ltI (av_add ix22 tn_2 (by omega) (by omega)) (fun x23 ix23 => ?_)
    refine ok_dr (f_r (b := 133) tM21 rfl (by decide)) (g_lt tM21 (by decide)) (g_k tM21 (by decide) rfl) ?_
    refine ok_chk (nxg (g_n (i := 133) (n := 96) tM21 (by decide) rfl) ix23 (by omega) (by omega)) ?_
    refine ok_ltA (fun x25 => ?_)
    refine ok_ltA (fun x26 => ?_)
    refine ok_ltA (fun x27 => ?_)
    refine ok_bnd (s_clamp tM21 tn_0 tn_51 (by omega)) ?_
    intro y28 hyy28
    obtain ⟨ty28, gy28, ly28⟩ := hyy28
    have fy28 := fr_tr fM21 gy28 rfl
    have iy28 : TI y28.2 y28.2.toInt := rfl
    have w4_y28 : (y28.1.1 148 4).toInt = (M21.1 148 4).toInt := by rw [gy28.2 148 4 rfl]
    have lx29 := (ib_p ty28 (by simp [PYL] : (148, 4, 0, 51) ∈ PYL))
    refine ok_ltI (rfl : TI (y28.1.1 148 4) (y28.1.1 148 4).toInt) (fun x29 ix29 => ?_)
    refine ok_bnd (Q := fun (z : Int32) => (0 ≤ z.toInt ∧ z.toInt ≤ 255)) ?_ ?_
    · refine ok_if (fun c2 => ?_) (fun c2 => ?_)
      · have dc2 := tl_le tn_16 ix29 c2
        have lx38 := (ib_p ty28 (by simp [PYL] : (148, 4, 0, 51) ∈ PYL))
        refine ok_ltI (rfl : TI (y28.1.1 148 4) (y28.1.1 148 4).toInt) (fun x38 ix38 => ?_)
        refine ok_ltI (av_sub ix38 tn_16 (by omega) (by omega)) (fun x39 ix39 => ?_)
        refine ok_chk (nx ix39 (by omega) (by omega)) ?_
        refine ok_ltB (tb_3 _) (fun x40 lx40 => ?_)
        have ix40 : TI x40 x40.toInt := rfl
        exact ok_some (ti_bd ix40 (by omega) (by omega))
      · have dc2 := tl_nle tn_16 ix29 c2
        exact ok_some (ti_bd tn_0 (by omega) (by omega))
    · intro y30 hyy30
      have ly30 := hyy30
      have iy30 : TI y30 y30.toInt := rfl
      refine ok_ltt (fun M31 eM31 => ?_)
      have tM31 : TT G M31 p w L := by rw [eM31]; exact (tt_w0 ty28 rfl)
      have fM31 : Fr p [15] M M31 := by rw [eM31]; exact (fr_w fy28 rfl)
      have w4_M31 : (M31.1 148 4).toInt = (y28.1.1 148 4).toInt := by rw [eM31, uI_n _ _ (by intro h; first | exact absurd h.1 (by decide) | exact absurd h.2 (by decide) | (have := tt_p0 ty28; omega))]
      clear eM31
      refine ok_bnd (Q := fun (z : Int32) => (0 ≤ z.toInt ∧ z.toInt ≤ 18)) ?_ ?_
      · refine ok_if (fun c3 => ?_) (fun c3 => ?_)
        · have dc3 := tl_le tn_16 iy28 c3
          refine ok_ltI (av_sub iy28 tn_16 (by omega) (by omega)) (fun x35 ix35 => ?_)
          refine ok_chk (nx ix35 (by omega) (by omega)) ?_
          refine ok_ltB (tb_4 _) (fun x36 lx36 => ?_)
          have ix36 : TI x36 x36.toInt := rfl
          exact ok_some (ti_bd ix36 (by omega) (by omega))
        · have dc3 := tl_nle tn_16 iy28 c3
          exact ok_some (ti_bd tn_0 (by omega) (by omega))
      · intro y32 hyy32
        have ly32 := hyy32
        have iy32 : TI y32 y32.toInt := rfl
        refine ok_ltt (fun M33 eM33 => ?_)
        have tM33 : TT G M33 p w L := by rw [eM33]; exact (tt_w0 tM31 rfl)
        have fM33 : Fr p [15] M M33 := by rw [eM33]; exact (fr_w fM31 rfl)
        have w4_M33 : (M33.1 148 4).toInt = (M31.1 148 4).toInt := by rw [eM33, uI_n _ _ (by intro h; first | exact absurd h.1 (by decide) | exact absurd h.2 (by decide) | (have := tt_p0 tM31; omega))]
        clear eM33
        exact ok_some ⟨tM33, fM33⟩
theorem s_filterEdge {G : GG} {M : DD} {p : Nat} {w : Int} {L : List Nat} (t : TT G M p w L) {p0 : Option Nat} (e0 : p0 = some 125) {p1 : Int32} {a1 : Int} (i1 : TI p1 a1) {p2 : Int32} {a2 : Int} (i2 : TI p2 a2) {p3 : Int32} {a3 : Int} (i3 : TI p3 a3) {p4 : Int32} {a4 : Int} (i4 : TI p4 a4) (h0 : 0 ≤ a1) (h1 : a1 < 2 * w) (h2 : a2 = 0 ∨ a2 = 1 ∨ a2 = 2) (h3 : a3 = 0 ∨ a3 = 1) (h4 : 0 ≤ a4) (h5 : a4 ≤ 3) (h6 : a2 ≠ 0 → a4 ≤ 1) : OK (FX2_filterEdge G M 148 p0 p1 p2 p3 p4) (fun y => TT G y p w L ∧ Fr p [15, 18] M y) := by
  unfold FX2_filterEdge
  subst e0
  have hw12 : 1 ≤ w ∧ w ≤ 2 := by rcases tt_w t with h | h <;> omega
  rcases tt_w t with rfl | rfl
  · rcases h2 with rfl | rfl | rfl
    · rcases h3 with rfl | rfl
      · refine ok_dr rfl (g_lt t (by decide)) (g_k t (by decide) rfl) ?_
        refine ok_bnd (Q := fun (z : Int32) => (16 ≤ z.toInt ∧ z.toInt ≤ 16)) ?_ ?_
        · refine ok_if (fun c1 => ?_) (fun c1 => ?_)
          · have dc1 := tl_eq i2 tn_0 c1
            exact ok_some (ti_bd tn_16 (by omega) (by omega))
          · have dc1 := tl_ne i2 tn_0 c1
            exfalso
            omega
        · intro y3 hyy3
          have ly3 := hyy3
          have iy3 : TI y3 (16) := ti_c ly3
          refine ok_bnd (Q := fun (z : Int32) => (-1 ≤ z.toInt ∧ z.toInt ≤ 3) ∧ ((a4 = 0 → (0 = 0 → z.toInt = a1 - 1) ∧ (0 = 1 → z.toInt = a1 - 1)) ∧ (1 ≤ a4 → z.toInt = a1))) ?_ ?_
          · refine ok_if (fun c2 => ?_) (fun c2 => ?_)
            · have dc2 := tl_le i4 tn_0 c2
              refine ok_bnd (Q := fun (z : Int32) => (-1 ≤ z.toInt ∧ z.toInt ≤ 2) ∧ ((0 = 0 → z.toInt = a1 - 1) ∧ (0 = 1 → z.toInt = a1 - 1))) ?_ ?_
              · refine ok_if (fun c3 => ?_) (fun c3 => ?_)
                · have dc3 := tl_eq i3 tn_0 c3
                  refine ok_ltI (av_sub i1 tn_1 (by omega) (by omega)) (fun x209 ix209 => ?_)
                  exact ok_some ⟨(ti_bd ix209 (by omega) (by omega)), (by have q : _ = _ := ix209; (try dsimp only); omega)⟩
                · have dc3 := tl_ne i3 tn_0 c3
                  exfalso
                  omega
              · intro y204 hyy204
                obtain ⟨ly204, jy204⟩ := hyy204
                have iy204 : TI y204 y204.toInt := rfl
                exact ok_some ⟨(ti_bd iy204 (by omega) (by omega)), (by have q : _ = _ := iy204; (try dsimp only); omega)⟩
            · have dc2 := tl_nle i4 tn_0 c2
              exact ok_some ⟨(ti_bd i1 (by omega) (by omega)), (by have q : _ = _ := i1; (try dsimp only); omega)⟩
          · intro y4 hyy4
            obtain ⟨ly4, jy4⟩ := hyy4
            have iy4 : TI y4 y4.toInt := rfl
            refine ok_if (fun c4 => ?_) (fun c4 => ?_)
            · have dc4 := tl_eq i4 tn_0 c4
              refine ok_if (fun c5 => ?_) (fun c5 => ?_)
              · have dc5 := tl_eq i3 tn_0 c5
                refine ok_dr (tt_pic t) (by have q := (tt_q0b t (tt_p t)); omega) (gk_0 t (tt_p t)) ?_
                refine ok_ltI (tw_q t (tt_p t)) (fun x137 ix137 => ?_)
                refine ok_chk (nz ix137 (by omega)) ?_
                refine ok_ltI (av_mod i1 ix137 (by omega) (by omega)) (fun x138 ix138 => ?_)
                refine ok_if (fun c6 => ?_) (fun c6 => ?_)
                · have dc6 := tl_eq ix138 tn_0 c6
                  exact ok_some ⟨t, (fr_0 p [15, 18] M)⟩
                · have dc6 := tl_ne ix138 tn_0 c6
                  exfalso
                  omega
              · have dc5 := tl_ne i3 tn_0 c5
                exfalso
                omega
            · have dc4 := tl_ne i4 tn_0 c4
              refine ok_bnd (s_setThresholds t rfl iy4 i1 (by omega) (by omega) (by omega) (by omega)) ?_
              intro y6 hyy6
              obtain ⟨ty6, gy6⟩ := hyy6
              have fy6 := fr_tr (fr_0 p [15, 18] M) gy6 rfl
              refine ok_dr (tt_pic t) (by have q := (tt_q0b ty6 (tt_p t)); omega) (gk_0 ty6 (tt_p t)) ?_
              refine ok_ltI (tw_q ty6 (tt_p t)) (fun x8 ix8 => ?_)
              refine ok_ltI (av_mul iy3 ix8 (by omega) (by omega)) (fun x9 ix9 => ?_)
              refine ok_ltI (tw_q ty6 (tt_p t)) (fun x10 ix10 => ?_)
              refine ok_chk (nz ix10 (by omega)) ?_
              refine ok_ltI (av_div i1 ix10 (by omega) (by omega)) (fun x11 ix11 => ?_)
              refine ok_ltI (av_mul iy3 ix11 (by omega) (by omega)) (fun x12 ix12 => ?_)
              refine ok_ltI (av_mul ix12 ix9 (by omega) (by omega)) (fun x13 ix13 => ?_)
              refine ok_ltI (tw_q ty6 (tt_p t)) (fun x14 ix14 => ?_)
              refine ok_chk (nz ix14 (by omega)) ?_
              refine ok_ltI (av_mod i1 ix14 (by omega) (by omega)) (fun x15 ix15 => ?_)
              refine ok_ltI (av_mul iy3 ix15 (by omega) (by omega)) (fun x16 ix16 => ?_)
              refine ok_ltI (av_add ix13 ix16 (by omega) (by omega)) (fun x17 ix17 => ?_)
              refine ok_ltI (av_mul tn_4 i4 (by omega) (by omega)) (fun x18 ix18 => ?_)
              refine ok_bnd (Q := fun (z : Int32) => (1 ≤ z.toInt ∧ z.toInt ≤ 1)) ?_ ?_
              · refine ok_if (fun c7 => ?_) (fun c7 => ?_)
                · have dc7 := tl_eq i3 tn_0 c7
                  exact ok_some (ti_bd tn_1 (by omega) (by omega))
                · have dc7 := tl_ne i3 tn_0 c7
                  exfalso
                  omega
              · intro y19 hyy19
                have ly19 := hyy19
                have iy19 : TI y19 (1) := ti_c ly19
                refine ok_ltI (av_mul ix18 iy19 (by omega) (by omega)) (fun x20 ix20 => ?_)
                refine ok_ltI (av_add ix17 ix20 (by omega) (by omega)) (fun x21 ix21 => ?_)
                refine ok_bnd (Q := fun (z : Int32) => (1 ≤ z.toInt ∧ z.toInt ≤ 1)) ?_ ?_
                · refine ok_if (fun c8 => ?_) (fun c8 => ?_)
                  · have dc8 := tl_eq i3 tn_0 c8
                    exact ok_some (ti_bd tn_1 (by omega) (by omega))
                  · have dc8 := tl_ne i3 tn_0 c8
                    exfalso
                    omega
                · intro y22 hyy22
                  have ly22 := hyy22
                  have iy22 : TI y22 (1) := ti_c ly22
                  refine ok_bnd (Q := fun (z : Int32) => (16 ≤ z.toInt ∧ z.toInt ≤ 16)) ?_ ?_
                  · refine ok_if (fun c9 => ?_) (fun c9 => ?_)
                    · have dc9 := tl_eq i3 tn_0 c9
                      exact ok_some (ti_bd ix9 (by omega) (by omega))
                    · have dc9 := tl_ne i3 tn_0 c9
                      exfalso
                      omega
                  · intro y23 hyy23
                    have ly23 := hyy23
                    have iy23 : TI y23 (16) := ti_c ly23
                    have ky3 : y3.toInt = _ := iy3
                    refine ok_bnd (Q := fun (z : Int32 × DD) => (0 ≤ z.1.toInt ∧ z.1.toInt ≤ y3.toInt) ∧ TT G z.2 p 1 L ∧ Fr p [15, 18] M z.2) (ok_itr (fun (z : Int32 × DD) => (0 ≤ z.1.toInt ∧ z.1.toInt ≤ y3.toInt) ∧ TT G z.2 p 1 L ∧ Fr p [15, 18] M z.2) (fun z => (y3.toInt - z.1.toInt).toNat) ?_ _ _ ?_ ?_) ?_
                    · intro s25 hys25
                      obtain ⟨ls25_1, ts25_2, fs25_2⟩ := hys25
                      have is25_1 : TI s25.1 s25.1.toInt := rfl
                      refine ok_if (fun c10 => ?_) (fun c10 => ?_)
                      · have dc10 := tl_le iy3 is25_1 c10
                        exact ok_some ⟨(ti_bd is25_1 (by omega) (by omega)), ts25_2, fs25_2⟩
                      · have dc10 := tl_nle iy3 is25_1 c10
                        refine ok_bnd (Q := fun (z : Int32) => (0 ≤ z.toInt ∧ z.toInt ≤ 15)) ?_ ?_
                        · refine ok_if (fun c11 => ?_) (fun c11 => ?_)
                          · have dc11 := tl_eq i2 tn_0 c11
                            exact ok_some (ti_bd is25_1 (by omega) (by omega))
                          · have dc11 := tl_ne i2 tn_0 c11
                            exfalso
                            omega
                        · intro y29 hyy29
                          have ly29 := hyy29
                          have iy29 : TI y29 y29.toInt := rfl
                          refine ok_bnd (Q := fun (z : Int32) => (4 ≤ z.toInt ∧ z.toInt ≤ 12)) ?_ ?_
                          · refine ok_if (fun c12 => ?_) (fun c12 => ?_)
                            · have dc12 := tl_eq i2 tn_0 c12
                              refine ok_ltI (av_mul tn_4 i4 (by omega) (by omega)) (fun x64 ix64 => ?_)
                              exact ok_some (ti_bd ix64 (by omega) (by omega))
                            · have dc12 := tl_ne i2 tn_0 c12
                              exfalso
                              omega
                          · intro y30 hyy30
                            have ly30 := hyy30
                            have iy30 : TI y30 y30.toInt := rfl
                            refine ok_bnd (Q := fun (z : Int32) => (4 ≤ z.toInt ∧ z.toInt ≤ 12)) ?_ ?_
                            · refine ok_if (fun c13 => ?_) (fun c13 => ?_)
                              · have dc13 := tl_eq i3 tn_0 c13
                                exact ok_some (ti_bd iy30 (by omega) (by omega))
                              · have dc13 := tl_ne i3 tn_0 c13
                                exfalso
                                omega
                            · intro y31 hyy31
                              have ly31 := hyy31
                              have iy31 : TI y31 y31.toInt := rfl
                              refine ok_bnd (Q := fun (z : Int32) => (0 ≤ z.toInt ∧ z.toInt ≤ 15)) ?_ ?_
                              · refine ok_if (fun c14 => ?_) (fun c14 => ?_)
                                · have dc14 := tl_eq i3 tn_0 c14
                                  exact ok_some (ti_bd iy29 (by omega) (by omega))
                                · have dc14 := tl_ne i3 tn_0 c14
                                  exfalso
                                  omega
                              · intro y32 hyy32
                                have ly32 := hyy32
                                have iy32 : TI y32 y32.toInt := rfl
                                refine ok_ltI (av_sar 3 iy32 (by decide)) (fun x33 ix33 => ?_)
                                refine ok_ltI (av_mul ix33 tn_8 (by omega) (by omega)) (fun x34 ix34 => ?_)
                                refine ok_ltI (av_sar 3 iy31 (by decide)) (fun x35 ix35 => ?_)
                                refine ok_ltI (av_mul ix35 tn_4 (by omega) (by omega)) (fun x36 ix36 => ?_)
                                refine ok_ltI (av_add ix34 ix36 (by omega) (by omega)) (fun x37 ix37 => ?_)
                                refine ok_ltI (av_sar 2 iy32 (by decide)) (fun x38 ix38 => ?_)
                                refine ok_ltI (av_and 1 ix38 (by decide) (by decide)) (fun x39 ix39 => ?_)
                                refine ok_ltI (av_mul ix39 tn_2 (by omega) (by omega)) (fun x40 ix40 => ?_)
                                refine ok_ltI (av_add ix37 ix40 (by omega) (by omega)) (fun x41 ix41 => ?_)
                                refine ok_ltI (av_sar 2 iy31 (by decide)) (fun x42 ix42 => ?_)
                                refine ok_ltI (av_and 1 ix42 (by decide) (by decide)) (fun x43 ix43 => ?_)
                                refine ok_ltI (av_add ix41 ix43 (by omega) (by omega)) (fun x44 ix44 => ?_)
                                refine ok_ltI (av_mul tn_16 i1 (by omega) (by omega)) (fun x45 ix45 => ?_)
                                refine ok_ltI (av_add ix45 ix44 (by omega) (by omega)) (fun x46 ix46 => ?_)
                                refine ok_ltI (av_mul tn_2 ix46 (by omega) (by omega)) (fun x47 ix47 => ?_)
                                refine ok_ltI (av_add ix47 i3 (by omega) (by omega)) (fun x48 ix48 => ?_)
                                refine ok_dr (f_r (b := 149) ts25_2 rfl (by decide)) (g_lt ts25_2 (by decide)) (g_k ts25_2 (by decide) rfl) ?_
                                refine ok_chk (nxg (g_n (i := 149) (n := 1024) ts25_2 (by decide) rfl) ix48 (by omega) (by omega)) ?_
                                refine ok_ltB (ib_t ts25_2 (by simp [TYL] : (149, 0, 4) ∈ TYL) _) (fun x50 lx50 => ?_)
                                have ix50 : TI x50 x50.toInt := rfl
                                refine ok_bnd (Q := fun (z : DD) => TT G z p 1 L ∧ Fr p [15, 18] M z) ?_ ?_
                                · refine ok_if (fun c15 => ?_) (fun c15 => ?_)
                                  · have dc15 := tl_le ix50 tn_0 c15
                                    exact ok_some ⟨ts25_2, fs25_2⟩
                                  · have dc15 := tl_nle ix50 tn_0 c15
                                    refine ok_dr (pr_4 ts25_2 (tt_p t)) (by have q := (tt_q0b ts25_2 (tt_p t)); omega) (gk_2 ts25_2 (tt_p t)) ?_
                                    refine ok_chk (nxg (gl_2 ts25_2 (tt_p t)) i2 (by omega) (by omega)) ?_
                                    refine ok_ltI (av_mul is25_1 iy23 (by omega) (by omega)) (fun x55 ix55 => ?_)
                                    refine ok_ltI (av_add ix21 ix55 (by omega) (by omega)) (fun x56 ix56 => ?_)
                                    refine ok_bnd (Q := fun (z : Int32) => (1 ≤ z.toInt ∧ z.toInt ≤ 1)) ?_ ?_
                                    · refine ok_if (fun c16 => ?_) (fun c16 => ?_)
                                      · have dc16 := tl_eq i2 tn_0 c16
                                        exact ok_some (ti_bd tn_1 (by omega) (by omega))
                                      · have dc16 := tl_ne i2 tn_0 c16
                                        exfalso
                                        omega
                                    · intro y57 hyy57
                                      have ly57 := hyy57
                                      have iy57 : TI y57 (1) := ti_c ly57
                                      obtain ⟨j17, hj17, nj17, ej17⟩ := pp_z ts25_2 (tt_p t) i2 (by omega)
                                      refine ok_bnd (s_filterLine ts25_2 ej17 hj17 nj17 ix56 iy22 ix50 iy57 (by omega) (by omega) (by omega) (by omega) (by omega) (by omega) (by omega) (by omega)) ?_
                                      intro y58 hyy58
                                      obtain ⟨ty58, gy58⟩ := hyy58
                                      have fy58 := fr_tr fs25_2 gy58 rfl
                                      exact ok_some ⟨ty58, fy58⟩
                                · intro y51 hyy51
                                  obtain ⟨ty51, fy51⟩ := hyy51
                                  refine ok_ltI (av_add is25_1 tn_1 (by omega) (by omega)) (fun x52 ix52 => ?_)
                                  exact ok_some ⟨⟨(ti_bd ix52 (by omega) (by omega)), ty51, fy51⟩, (mu_up ix52 (by omega) (by omega))⟩
                    · exact ⟨(ti_bd tn_0 (by omega) (by omega)), ty6, fy6⟩
                    · exact mu_0 tn_0 (by omega)
                    · intro y24 hyy24
                      obtain ⟨ly24_1, ty24_2, fy24_2⟩ := hyy24
                      have iy24_1 : TI y24.1 y24.1.toInt := rfl
                      exact ok_some ⟨ty24_2, fy24_2⟩
      · refine ok_dr rfl (g_lt t (by decide)) (g_k t (by decide) rfl) ?_
        refine ok_bnd (Q := fun (z : Int32) => (16 ≤ z.toInt ∧ z.toInt ≤ 16)) ?_ ?_
        · refine ok_if (fun c1 => ?_) (fun c1 => ?_)
          · have dc1 := tl_eq i2 tn_0 c1
            exact ok_some (ti_bd tn_16 (by omega) (by omega))
          · have dc1 := tl_ne i2 tn_0 c1
            exfalso
            omega
        · intro y3 hyy3
          have ly3 := hyy3
          have iy3 : TI y3 (16) := ti_c ly3
          refine ok_bnd (Q := fun (z : Int32) => (-1 ≤ z.toInt ∧ z.toInt ≤ 3) ∧ ((a4 = 0 → (1 = 0 → z.toInt = a1 - 1) ∧ (1 = 1 → z.toInt = a1 - 1)) ∧ (1 ≤ a4 → z.toInt = a1))) ?_ ?_
          · refine ok_if (fun c2 => ?_) (fun c2 => ?_)
            · have dc2 := tl_le i4 tn_0 c2
              refine ok_bnd (Q := fun (z : Int32) => (-1 ≤ z.toInt ∧ z.toInt ≤ 2) ∧ ((1 = 0 → z.toInt = a1 - 1) ∧ (1 = 1 → z.toInt = a1 - 1))) ?_ ?_
              · refine ok_if (fun c3 => ?_) (fun c3 => ?_)
                · have dc3 := tl_eq i3 tn_0 c3
                  exfalso
                  omega
                · have dc3 := tl_ne i3 tn_0 c3
                  refine ok_dr (tt_pic t) (by have q := (tt_q0b t (tt_p t)); omega) (gk_0 t (tt_p t)) ?_
                  refine ok_ltI (tw_q t (tt_p t)) (fun x207 ix207 => ?_)
                  refine ok_ltI (av_sub i1 ix207 (by omega) (by omega)) (fun x208 ix208 => ?_)
                  exact ok_some ⟨(ti_bd ix208 (by omega) (by omega)), (by have q : _ = _ := ix208; (try dsimp only); omega)⟩
              · intro y204 hyy204
                obtain ⟨ly204, jy204⟩ := hyy204
                have iy204 : TI y204 y204.toInt := rfl
                exact ok_some ⟨(ti_bd iy204 (by omega) (by omega)), (by have q : _ = _ := iy204; (try dsimp only); omega)⟩
            · have dc2 := tl_nle i4 tn_0 c2
              exact ok_some ⟨(ti_bd i1 (by omega) (by omega)), (by have q : _ = _ := i1; (try dsimp only); omega)⟩
          · intro y4 hyy4
            obtain ⟨ly4, jy4⟩ := hyy4
            have iy4 : TI y4 y4.toInt := rfl
            refine ok_if (fun c4 => ?_) (fun c4 => ?_)
            · have dc4 := tl_eq i4 tn_0 c4
              refine ok_if (fun c5 => ?_) (fun c5 => ?_)
              · have dc5 := tl_eq i3 tn_0 c5
                exfalso
                omega
              · have dc5 := tl_ne i3 tn_0 c5
                refine ok_if (fun c6 => ?_) (fun c6 => ?_)
                · have dc6 := tl_le tn_0 iy4 c6
                  refine ok_bnd (s_setThresholds t rfl iy4 i1 (by omega) (by omega) (by omega) (by omega)) ?_
                  intro y72 hyy72
                  obtain ⟨ty72, gy72⟩ := hyy72
                  have fy72 := fr_tr (fr_0 p [15, 18] M) gy72 rfl
                  refine ok_dr (tt_pic t) (by have q := (tt_q0b ty72 (tt_p t)); omega) (gk_0 ty72 (tt_p t)) ?_
                  refine ok_ltI (tw_q ty72 (tt_p t)) (fun x74 ix74 => ?_)
                  refine ok_ltI (av_mul iy3 ix74 (by omega) (by omega)) (fun x75 ix75 => ?_)
                  refine ok_ltI (tw_q ty72 (tt_p t)) (fun x76 ix76 => ?_)
                  refine ok_chk (nz ix76 (by omega)) ?_
                  refine ok_ltI (av_div i1 ix76 (by omega) (by omega)) (fun x77 ix77 => ?_)
                  refine ok_ltI (av_mul iy3 ix77 (by omega) (by omega)) (fun x78 ix78 => ?_)
                  refine ok_ltI (av_mul ix78 ix75 (by omega) (by omega)) (fun x79 ix79 => ?_)
                  refine ok_ltI (tw_q ty72 (tt_p t)) (fun x80 ix80 => ?_)
                  refine ok_chk (nz ix80 (by omega)) ?_
                  refine ok_ltI (av_mod i1 ix80 (by omega) (by omega)) (fun x81 ix81 => ?_)
                  refine ok_ltI (av_mul iy3 ix81 (by omega) (by omega)) (fun x82 ix82 => ?_)
                  refine ok_ltI (av_add ix79 ix82 (by omega) (by omega)) (fun x83 ix83 => ?_)
                  refine ok_ltI (av_mul tn_4 i4 (by omega) (by omega)) (fun x84 ix84 => ?_)
                  refine ok_bnd (Q := fun (z : Int32) => (16 ≤ z.toInt ∧ z.toInt ≤ 16)) ?_ ?_
                  · refine ok_if (fun c7 => ?_) (fun c7 => ?_)
                    · have dc7 := tl_eq i3 tn_0 c7
                      exfalso
                      omega
                    · have dc7 := tl_ne i3 tn_0 c7
                      exact ok_some (ti_bd ix75 (by omega) (by omega))
                  · intro y85 hyy85
                    have ly85 := hyy85
                    have iy85 : TI y85 (16) := ti_c ly85
                    refine ok_ltI (av_mul ix84 iy85 (by omega) (by omega)) (fun x86 ix86 => ?_)
                    refine ok_ltI (av_add ix83 ix86 (by omega) (by omega)) (fun x87 ix87 => ?_)
                    refine ok_bnd (Q := fun (z : Int32) => (16 ≤ z.toInt ∧ z.toInt ≤ 16)) ?_ ?_
                    · refine ok_if (fun c8 => ?_) (fun c8 => ?_)
                      · have dc8 := tl_eq i3 tn_0 c8
                        exfalso
                        omega
                      · have dc8 := tl_ne i3 tn_0 c8
                        exact ok_some (ti_bd ix75 (by omega) (by omega))
                    · intro y88 hyy88
                      have ly88 := hyy88
                      have iy88 : TI y88 (16) := ti_c ly88
                      refine ok_bnd (Q := fun (z : Int32) => (1 ≤ z.toInt ∧ z.toInt ≤ 1)) ?_ ?_
                      · refine ok_if (fun c9 => ?_) (fun c9 => ?_)
                        · have dc9 := tl_eq i3 tn_0 c9
                          exfalso
                          omega
                        · have dc9 := tl_ne i3 tn_0 c9
                          exact ok_some (ti_bd tn_1 (by omega) (by omega))
                      · intro y89 hyy89
                        have ly89 := hyy89
                        have iy89 : TI y89 (1) := ti_c ly89
                        have ky3 : y3.toInt = _ := iy3
                        refine ok_bnd (Q := fun (z : Int32 × DD) => (0 ≤ z.1.toInt ∧ z.1.toInt ≤ y3.toInt) ∧ TT G z.2 p 1 L ∧ Fr p [15, 18] M z.2) (ok_itr (fun (z : Int32 × DD) => (0 ≤ z.1.toInt ∧ z.1.toInt ≤ y3.toInt) ∧ TT G z.2 p 1 L ∧ Fr p [15, 18] M z.2) (fun z => (y3.toInt - z.1.toInt).toNat) ?_ _ _ ?_ ?_) ?_
                        · intro s91 hys91
                          obtain ⟨ls91_1, ts91_2, fs91_2⟩ := hys91
                          have is91_1 : TI s91.1 s91.1.toInt := rfl
                          refine ok_if (fun c10 => ?_) (fun c10 => ?_)
                          · have dc10 := tl_le iy3 is91_1 c10
                            exact ok_some ⟨(ti_bd is91_1 (by omega) (by omega)), ts91_2, fs91_2⟩
                          · have dc10 := tl_nle iy3 is91_1 c10
                            refine ok_bnd (Q := fun (z : Int32) => (0 ≤ z.toInt ∧ z.toInt ≤ 15)) ?_ ?_
                            · refine ok_if (fun c11 => ?_) (fun c11 => ?_)
                              · have dc11 := tl_eq i2 tn_0 c11
                                exact ok_some (ti_bd is91_1 (by omega) (by omega))
                              · have dc11 := tl_ne i2 tn_0 c11
                                exfalso
                                omega
                            · intro y95 hyy95
                              have ly95 := hyy95
                              have iy95 : TI y95 y95.toInt := rfl
                              refine ok_bnd (Q := fun (z : Int32) => (0 ≤ z.toInt ∧ z.toInt ≤ 0)) ?_ ?_
                              · refine ok_if (fun c12 => ?_) (fun c12 => ?_)
                                · have dc12 := tl_eq i2 tn_0 c12
                                  refine ok_ltI (av_mul tn_4 i4 (by omega) (by omega)) (fun x130 ix130 => ?_)
                                  exact ok_some (ti_bd ix130 (by omega) (by omega))
                                · have dc12 := tl_ne i2 tn_0 c12
                                  exfalso
                                  omega
                              · intro y96 hyy96
                                have ly96 := hyy96
                                have iy96 : TI y96 (0) := ti_c ly96
                                refine ok_bnd (Q := fun (z : Int32) => (0 ≤ z.toInt ∧ z.toInt ≤ 15)) ?_ ?_
                                · refine ok_if (fun c13 => ?_) (fun c13 => ?_)
                                  · have dc13 := tl_eq i3 tn_0 c13
                                    exfalso
                                    omega
                                  · have dc13 := tl_ne i3 tn_0 c13
                                    exact ok_some (ti_bd iy95 (by omega) (by omega))
                                · intro y97 hyy97
                                  have ly97 := hyy97
                                  have iy97 : TI y97 y97.toInt := rfl
                                  refine ok_bnd (Q := fun (z : Int32) => (0 ≤ z.toInt ∧ z.toInt ≤ 0)) ?_ ?_
                                  · refine ok_if (fun c14 => ?_) (fun c14 => ?_)
                                    · have dc14 := tl_eq i3 tn_0 c14
                                      exfalso
                                      omega
                                    · have dc14 := tl_ne i3 tn_0 c14
                                      exact ok_some (ti_bd iy96 (by omega) (by omega))
                                  · intro y98 hyy98
                                    have ly98 := hyy98
                                    have iy98 : TI y98 (0) := ti_c ly98
                                    refine ok_ltI (av_sar 3 iy98 (by decide)) (fun x99 ix99 => ?_)
                                    refine ok_ltI (av_mul ix99 tn_8 (by omega) (by omega)) (fun x100 ix100 => ?_)
                                    refine ok_ltI (av_sar 3 iy97 (by decide)) (fun x101 ix101 => ?_)
                                    refine ok_ltI (av_mul ix101 tn_4 (by omega) (by omega)) (fun x102 ix102 => ?_)
                                    refine ok_ltI (av_add ix100 ix102 (by omega) (by omega)) (fun x103 ix103 => ?_)
                                    refine ok_ltI (av_sar 2 iy98 (by decide)) (fun x104 ix104 => ?_)
                                    refine ok_ltI (av_and 1 ix104 (by decide) (by decide)) (fun x105 ix105 => ?_)
                                    refine ok_ltI (av_mul ix105 tn_2 (by omega) (by omega)) (fun x106 ix106 => ?_)
                                    refine ok_ltI (av_add ix103 ix106 (by omega) (by omega)) (fun x107 ix107 => ?_)
                                    refine ok_ltI (av_sar 2 iy97 (by decide)) (fun x108 ix108 => ?_)
                                    refine ok_ltI (av_and 1 ix108 (by decide) (by decide)) (fun x109 ix109 => ?_)
                                    refine ok_ltI (av_add ix107 ix109 (by omega) (by omega)) (fun x110 ix110 => ?_)
                                    refine ok_ltI (av_mul tn_16 i1 (by omega) (by omega)) (fun x111 ix111 => ?_)
                                    refine ok_ltI (av_add ix111 ix110 (by omega) (by omega)) (fun x112 ix112 => ?_)
                                    refine ok_ltI (av_mul tn_2 ix112 (by omega) (by omega)) (fun x113 ix113 => ?_)
                                    refine ok_ltI (av_add ix113 i3 (by omega) (by omega)) (fun x114 ix114 => ?_)
                                    refine ok_dr (f_r (b := 149) ts91_2 rfl (by decide)) (g_lt ts91_2 (by decide)) (g_k ts91_2 (by decide) rfl) ?_
                                    refine ok_chk (nxg (g_n (i := 149) (n := 1024) ts91_2 (by decide) rfl) ix114 (by omega) (by omega)) ?_
                                    refine ok_ltB (ib_t ts91_2 (by simp [TYL] : (149, 0, 4) ∈ TYL) _) (fun x116 lx116 => ?_)
                                    have ix116 : TI x116 x116.toInt := rfl
                                    refine ok_bnd (Q := fun (z : DD) => TT G z p 1 L ∧ Fr p [15, 18] M z) ?_ ?_
                                    · refine ok_if (fun c15 => ?_) (fun c15 => ?_)
                                      · have dc15 := tl_le ix116 tn_0 c15
                                        exact ok_some ⟨ts91_2, fs91_2⟩
                                      · have dc15 := tl_nle ix116 tn_0 c15
                                        refine ok_dr (pr_4 ts91_2 (tt_p t)) (by have q := (tt_q0b ts91_2 (tt_p t)); omega) (gk_2 ts91_2 (tt_p t)) ?_
                                        refine ok_chk (nxg (gl_2 ts91_2 (tt_p t)) i2 (by omega) (by omega)) ?_
                                        refine ok_ltI (av_mul is91_1 iy89 (by omega) (by omega)) (fun x121 ix121 => ?_)
                                        refine ok_ltI (av_add ix87 ix121 (by omega) (by omega)) (fun x122 ix122 => ?_)
                                        refine ok_bnd (Q := fun (z : Int32) => (1 ≤ z.toInt ∧ z.toInt ≤ 1)) ?_ ?_
                                        · refine ok_if (fun c16 => ?_) (fun c16 => ?_)
                                          · have dc16 := tl_eq i2 tn_0 c16
                                            exact ok_some (ti_bd tn_1 (by omega) (by omega))
                                          · have dc16 := tl_ne i2 tn_0 c16
                                            exfalso
                                            omega
                                        · intro y123 hyy123
                                          have ly123 := hyy123
                                          have iy123 : TI y123 (1) := ti_c ly123
                                          obtain ⟨j17, hj17, nj17, ej17⟩ := pp_z ts91_2 (tt_p t) i2 (by omega)
                                          refine ok_bnd (s_filterLine ts91_2 ej17 hj17 nj17 ix122 iy88 ix116 iy123 (by omega) (by omega) (by omega) (by omega) (by omega) (by omega) (by omega) (by omega)) ?_
                                          intro y124 hyy124
                                          obtain ⟨ty124, gy124⟩ := hyy124
                                          have fy124 := fr_tr fs91_2 gy124 rfl
                                          exact ok_some ⟨ty124, fy124⟩
                                    · intro y117 hyy117
                                      obtain ⟨ty117, fy117⟩ := hyy117
                                      refine ok_ltI (av_add is91_1 tn_1 (by omega) (by omega)) (fun x118 ix118 => ?_)
                                      exact ok_some ⟨⟨(ti_bd ix118 (by omega) (by omega)), ty117, fy117⟩, (mu_up ix118 (by omega) (by omega))⟩
                        · exact ⟨(ti_bd tn_0 (by omega) (by omega)), ty72, fy72⟩
                        · exact mu_0 tn_0 (by omega)
                        · intro y90 hyy90
                          obtain ⟨ly90_1, ty90_2, fy90_2⟩ := hyy90
                          have iy90_1 : TI y90.1 y90.1.toInt := rfl
                          exact ok_some ⟨ty90_2, fy90_2⟩
                · have dc6 := tl_nle tn_0 iy4 c6
                  exact ok_some ⟨t, (fr_0 p [15, 18] M)⟩
            · have dc4 := tl_ne i4 tn_0 c4
              refine ok_bnd (s_setThresholds t rfl iy4 i1 (by omega) (by omega) (by omega) (by omega)) ?_
              intro y6 hyy6
              obtain ⟨ty6, gy6⟩ := hyy6
              have fy6 := fr_tr (fr_0 p [15, 18] M) gy6 rfl
              refine ok_dr (tt_pic t) (by have q := (tt_q0b ty6 (tt_p t)); omega) (gk_0 ty6 (tt_p t)) ?_
              refine ok_ltI (tw_q ty6 (tt_p t)) (fun x8 ix8 => ?_)
              refine ok_ltI (av_mul iy3 ix8 (by omega) (by omega)) (fun x9 ix9 => ?_)
              refine ok_ltI (tw_q ty6 (tt_p t)) (fun x10 ix10 => ?_)
              refine ok_chk (nz ix10 (by omega)) ?_
              refine ok_ltI (av_div i1 ix10 (by omega) (by omega)) (fun x11 ix11 => ?_)
              refine ok_ltI (av_mul iy3 ix11 (by omega) (by omega)) (fun x12 ix12 => ?_)
              refine ok_ltI (av_mul ix12 ix9 (by omega) (by omega)) (fun x13 ix13 => ?_)
              refine ok_ltI (tw_q ty6 (tt_p t)) (fun x14 ix14 => ?_)
              refine ok_chk (nz ix14 (by omega)) ?_
              refine ok_ltI (av_mod i1 ix14 (by omega) (by omega)) (fun x15 ix15 => ?_)
              refine ok_ltI (av_mul iy3 ix15 (by omega) (by omega)) (fun x16 ix16 => ?_)
              refine ok_ltI (av_add ix13 ix16 (by omega) (by omega)) (fun x17 ix17 => ?_)
              refine ok_ltI (av_mul tn_4 i4 (by omega) (by omega)) (fun x18 ix18 => ?_)
              refine ok_bnd (Q := fun (z : Int32) => (16 ≤ z.toInt ∧ z.toInt ≤ 16)) ?_ ?_
              · refine ok_if (fun c18 => ?_) (fun c18 => ?_)
                · have dc18 := tl_eq i3 tn_0 c18
                  exfalso
                  omega
                · have dc18 := tl_ne i3 tn_0 c18
                  exact ok_some (ti_bd ix9 (by omega) (by omega))
              · intro y19 hyy19
                have ly19 := hyy19
                have iy19 : TI y19 (16) := ti_c ly19
                refine ok_ltI (av_mul ix18 iy19 (by omega) (by omega)) (fun x20 ix20 => ?_)
                refine ok_ltI (av_add ix17 ix20 (by omega) (by omega)) (fun x21 ix21 => ?_)
                refine ok_bnd (Q := fun (z : Int32) => (16 ≤ z.toInt ∧ z.toInt ≤ 16)) ?_ ?_
                · refine ok_if (fun c19 => ?_) (fun c19 => ?_)
                  · have dc19 := tl_eq i3 tn_0 c19
                    exfalso
                    omega
                  · have dc19 := tl_ne i3 tn_0 c19
                    exact ok_some (ti_bd ix9 (by omega) (by omega))
                · intro y22 hyy22
                  have ly22 := hyy22
                  have iy22 : TI y22 (16) := ti_c ly22
                  refine ok_bnd (Q := fun (z : Int32) => (1 ≤ z.toInt ∧ z.toInt ≤ 1)) ?_ ?_
                  · refine ok_if (fun c20 => ?_) (fun c20 => ?_)
                    · have dc20 := tl_eq i3 tn_0 c20
                      exfalso
                      omega
                    · have dc20 := tl_ne i3 tn_0 c20
                      exact ok_some (ti_bd tn_1 (by omega) (by omega))
                  · intro y23 hyy23
                    have ly23 := hyy23
                    have iy23 : TI y23 (1) := ti_c ly23
                    have ky3 : y3.toInt = _ := iy3
                    refine ok_bnd (Q := fun (z : Int32 × DD) => (0 ≤ z.1.toInt ∧ z.1.toInt ≤ y3.toInt) ∧ TT G z.2 p 1 L ∧ Fr p [15, 18] M z.2) (ok_itr (fun (z : Int32 × DD) => (0 ≤ z.1.toInt ∧ z.1.toInt ≤ y3.toInt) ∧ TT G z.2 p 1 L ∧ Fr p [15, 18] M z.2) (fun z => (y3.toInt - z.1.toInt).toNat) ?_ _ _ ?_ ?_) ?_
                    · intro s25 hys25
                      obtain ⟨ls25_1, ts25_2, fs25_2⟩ := hys25
                      have is25_1 : TI s25.1 s25.1.toInt := rfl
                      refine ok_if (fun c21 => ?_) (fun c21 => ?_)
                      · have dc21 := tl_le iy3 is25_1 c21
                        exact ok_some ⟨(ti_bd is25_1 (by omega) (by omega)), ts25_2, fs25_2⟩
                      · have dc21 := tl_nle iy3 is25_1 c21
                        refine ok_bnd (Q := fun (z : Int32) => (0 ≤ z.toInt ∧ z.toInt ≤ 15)) ?_ ?_
                        · refine ok_if (fun c22 => ?_) (fun c22 => ?_)
                          · have dc22 := tl_eq i2 tn_0 c22
                            exact ok_some (ti_bd is25_1 (by omega) (by omega))
                          · have dc22 := tl_ne i2 tn_0 c22
                            exfalso
                            omega
                        · intro y29 hyy29
                          have ly29 := hyy29
                          have iy29 : TI y29 y29.toInt := rfl
                          refine ok_bnd (Q := fun (z : Int32) => (4 ≤ z.toInt ∧ z.toInt ≤ 12)) ?_ ?_
                          · refine ok_if (fun c23 => ?_) (fun c23 => ?_)
                            · have dc23 := tl_eq i2 tn_0 c23
                              refine ok_ltI (av_mul tn_4 i4 (by omega) (by omega)) (fun x64 ix64 => ?_)
                              exact ok_some (ti_bd ix64 (by omega) (by omega))
                            · have dc23 := tl_ne i2 tn_0 c23
                              exfalso
                              omega
                          · intro y30 hyy30
                            have ly30 := hyy30
                            have iy30 : TI y30 y30.toInt := rfl
                            refine ok_bnd (Q := fun (z : Int32) => (0 ≤ z.toInt ∧ z.toInt ≤ 15)) ?_ ?_
                            · refine ok_if (fun c24 => ?_) (fun c24 => ?_)
                              · have dc24 := tl_eq i3 tn_0 c24
                                exfalso
                                omega
                              · have dc24 := tl_ne i3 tn_0 c24
                                exact ok_some (ti_bd iy29 (by omega) (by omega))
                            · intro y31 hyy31
                              have ly31 := hyy31
                              have iy31 : TI y31 y31.toInt := rfl
                              refine ok_bnd (Q := fun (z : Int32) => (4 ≤ z.toInt ∧ z.toInt ≤ 12)) ?_ ?_
                              · refine ok_if (fun c25 => ?_) (fun c25 => ?_)
                                · have dc25 := tl_eq i3 tn_0 c25
                                  exfalso
                                  omega
                                · have dc25 := tl_ne i3 tn_0 c25
                                  exact ok_some (ti_bd iy30 (by omega) (by omega))
                              · intro y32 hyy32
                                have ly32 := hyy32
                                have iy32 : TI y32 y32.toInt := rfl
                                refine ok_ltI (av_sar 3 iy32 (by decide)) (fun x33 ix33 => ?_)
                                refine ok_ltI (av_mul ix33 tn_8 (by omega) (by omega)) (fun x34 ix34 => ?_)
                                refine ok_ltI (av_sar 3 iy31 (by decide)) (fun x35 ix35 => ?_)
                                refine ok_ltI (av_mul ix35 tn_4 (by omega) (by omega)) (fun x36 ix36 => ?_)
                                refine ok_ltI (av_add ix34 ix36 (by omega) (by omega)) (fun x37 ix37 => ?_)
                                refine ok_ltI (av_sar 2 iy32 (by decide)) (fun x38 ix38 => ?_)
                                refine ok_ltI (av_and 1 ix38 (by decide) (by decide)) (fun x39 ix39 => ?_)
                                refine ok_ltI (av_mul ix39 tn_2 (by omega) (by omega)) (fun x40 ix40 => ?_)
                                refine ok_ltI (av_add ix37 ix40 (by omega) (by omega)) (fun x41 ix41 => ?_)
                                refine ok_ltI (av_sar 2 iy31 (by decide)) (fun x42 ix42 => ?_)
                                refine ok_ltI (av_and 1 ix42 (by decide) (by decide)) (fun x43 ix43 => ?_)
                                refine ok_ltI (av_add ix41 ix43 (by omega) (by omega)) (fun x44 ix44 => ?_)
                                refine ok_ltI (av_mul tn_16 i1 (by omega) (by omega)) (fun x45 ix45 => ?_)
                                refine ok_ltI (av_add ix45 ix44 (by omega) (by omega)) (fun x46 ix46 => ?_)
                                refine ok_ltI (av_mul tn_2 ix46 (by omega) (by omega)) (fun x47 ix47 => ?_)
                                refine ok_ltI (av_add ix47 i3 (by omega) (by omega)) (fun x48 ix48 => ?_)
                                refine ok_dr (f_r (b := 149) ts25_2 rfl (by decide)) (g_lt ts25_2 (by decide)) (g_k ts25_2 (by decide) rfl) ?_
                                refine ok_chk (nxg (g_n (i := 149) (n := 1024) ts25_2 (by decide) rfl) ix48 (by omega) (by omega)) ?_
                                refine ok_ltB (ib_t ts25_2 (by simp [TYL] : (149, 0, 4) ∈ TYL) _) (fun x50 lx50 => ?_)
                                have ix50 : TI x50 x50.toInt := rfl
                                refine ok_bnd (Q := fun (z : DD) => TT G z p 1 L ∧ Fr p [15, 18] M z) ?_ ?_
                                · refine ok_if (fun c26 => ?_) (fun c26 => ?_)
                                  · have dc26 := tl_le ix50 tn_0 c26
                                    exact ok_some ⟨ts25_2, fs25_2⟩
                                  · have dc26 := tl_nle ix50 tn_0 c26
                                    refine ok_dr (pr_4 ts25_2 (tt_p t)) (by have q := (tt_q0b ts25_2 (tt_p t)); omega) (gk_2 ts25_2 (tt_p t)) ?_
                                    refine ok_chk (nxg (gl_2 ts25_2 (tt_p t)) i2 (by omega) (by omega)) ?_
                                    refine ok_ltI (av_mul is25_1 iy23 (by omega) (by omega)) (fun x55 ix55 => ?_)
                                    refine ok_ltI (av_add ix21 ix55 (by omega) (by omega)) (fun x56 ix56 => ?_)
                                    refine ok_bnd (Q := fun (z : Int32) => (1 ≤ z.toInt ∧ z.toInt ≤ 1)) ?_ ?_
                                    · refine ok_if (fun c27 => ?_) (fun c27 => ?_)
                                      · have dc27 := tl_eq i2 tn_0 c27
                                        exact ok_some (ti_bd tn_1 (by omega) (by omega))
                                      · have dc27 := tl_ne i2 tn_0 c27
                                        exfalso
                                        omega
                                    · intro y57 hyy57
                                      have ly57 := hyy57
                                      have iy57 : TI y57 (1) := ti_c ly57
                                      obtain ⟨j28, hj28, nj28, ej28⟩ := pp_z ts25_2 (tt_p t) i2 (by omega)
                                      refine ok_bnd (s_filterLine ts25_2 ej28 hj28 nj28 ix56 iy22 ix50 iy57 (by omega) (by omega) (by omega) (by omega) (by omega) (by omega) (by omega) (by omega)) ?_
                                      intro y58 hyy58
                                      obtain ⟨ty58, gy58⟩ := hyy58
                                      have fy58 := fr_tr fs25_2 gy58 rfl
                                      exact ok_some ⟨ty58, fy58⟩
                                · intro y51 hyy51
                                  obtain ⟨ty51, fy51⟩ := hyy51
                                  refine ok_ltI (av_add is25_1 tn_1 (by omega) (by omega)) (fun x52 ix52 => ?_)
                                  exact ok_some ⟨⟨(ti_bd ix52 (by omega) (by omega)), ty51, fy51⟩, (mu_up ix52 (by omega) (by omega))⟩
                    · exact ⟨(ti_bd tn_0 (by omega) (by omega)), ty6, fy6⟩
                    · exact mu_0 tn_0 (by omega)
                    · intro y24 hyy24
                      obtain ⟨ly24_1, ty24_2, fy24_2⟩ := hyy24
                      have iy24_1 : TI y24.1 y24.1.toInt := rfl
                      exact ok_some ⟨ty24_2, fy24_2⟩
    · rcases h3 with rfl | rfl
      · refine ok_dr rfl (g_lt t (by decide)) (g_k t (by decide) rfl) ?_
        refine ok_bnd (Q := fun (z : Int32) => (8 ≤ z.toInt ∧ z.toInt ≤ 8)) ?_ ?_
        · refine ok_if (fun c1 => ?_) (fun c1 => ?_)
          · have dc1 := tl_eq i2 tn_0 c1
            exfalso
            omega
          · have dc1 := tl_ne i2 tn_0 c1
            exact ok_some (ti_bd tn_8 (by omega) (by omega))
        · intro y3 hyy3
          have ly3 := hyy3
          have iy3 : TI y3 (8) := ti_c ly3
          refine ok_bnd (Q := fun (z : Int32) => (-1 ≤ z.toInt ∧ z.toInt ≤ 3) ∧ ((a4 = 0 → (0 = 0 → z.toInt = a1 - 1) ∧ (0 = 1 → z.toInt = a1 - 1)) ∧ (1 ≤ a4 → z.toInt = a1))) ?_ ?_
          · refine ok_if (fun c2 => ?_) (fun c2 => ?_)
            · have dc2 := tl_le i4 tn_0 c2
              refine ok_bnd (Q := fun (z : Int32) => (-1 ≤ z.toInt ∧ z.toInt ≤ 2) ∧ ((0 = 0 → z.toInt = a1 - 1) ∧ (0 = 1 → z.toInt = a1 - 1))) ?_ ?_
              · refine ok_if (fun c3 => ?_) (fun c3 => ?_)
                · have dc3 := tl_eq i3 tn_0 c3
                  refine ok_ltI (av_sub i1 tn_1 (by omega) (by omega)) (fun x209 ix209 => ?_)
                  exact ok_some ⟨(ti_bd ix209 (by omega) (by omega)), (by have q : _ = _ := ix209; (try dsimp only); omega)⟩
                · have dc3 := tl_ne i3 tn_0 c3
                  exfalso
                  omega
              · intro y204 hyy204
                obtain ⟨ly204, jy204⟩ := hyy204
                have iy204 : TI y204 y204.toInt := rfl
                exact ok_some ⟨(ti_bd iy204 (by omega) (by omega)), (by have q : _ = _ := iy204; (try dsimp only); omega)⟩
            · have dc2 := tl_nle i4 tn_0 c2
              exact ok_some ⟨(ti_bd i1 (by omega) (by omega)), (by have q : _ = _ := i1; (try dsimp only); omega)⟩
          · intro y4 hyy4
            obtain ⟨ly4, jy4⟩ := hyy4
            have iy4 : TI y4 y4.toInt := rfl
            refine ok_if (fun c4 => ?_) (fun c4 => ?_)
            · have dc4 := tl_eq i4 tn_0 c4
              refine ok_if (fun c5 => ?_) (fun c5 => ?_)
              · have dc5 := tl_eq i3 tn_0 c5
                refine ok_dr (tt_pic t) (by have q := (tt_q0b t (tt_p t)); omega) (gk_0 t (tt_p t)) ?_
                refine ok_ltI (tw_q t (tt_p t)) (fun x137 ix137 => ?_)
                refine ok_chk (nz ix137 (by omega)) ?_
                refine ok_ltI (av_mod i1 ix137 (by omega) (by omega)) (fun x138 ix138 => ?_)
                refine ok_if (fun c6 => ?_) (fun c6 => ?_)
                · have dc6 := tl_eq ix138 tn_0 c6
                  exact ok_some ⟨t, (fr_0 p [15, 18] M)⟩
                · have dc6 := tl_ne ix138 tn_0 c6
                  exfalso
                  omega
              · have dc5 := tl_ne i3 tn_0 c5
                exfalso
                omega
            · have dc4 := tl_ne i4 tn_0 c4
              refine ok_bnd (s_setThresholds t rfl iy4 i1 (by omega) (by omega) (by omega) (by omega)) ?_
              intro y6 hyy6
              obtain ⟨ty6, gy6⟩ := hyy6
              have fy6 := fr_tr (fr_0 p [15, 18] M) gy6 rfl
              refine ok_dr (tt_pic t) (by have q := (tt_q0b ty6 (tt_p t)); omega) (gk_0 ty6 (tt_p t)) ?_
              refine ok_ltI (tw_q ty6 (tt_p t)) (fun x8 ix8 => ?_)
              refine ok_ltI (av_mul iy3 ix8 (by omega) (by omega)) (fun x9 ix9 => ?_)
              refine ok_ltI (tw_q ty6 (tt_p t)) (fun x10 ix10 => ?_)
              refine ok_chk (nz ix10 (by omega)) ?_
              refine ok_ltI (av_div i1 ix10 (by omega) (by omega)) (fun x11 ix11 => ?_)
              refine ok_ltI (av_mul iy3 ix11 (by omega) (by omega)) (fun x12 ix12 => ?_)
              refine ok_ltI (av_mul ix12 ix9 (by omega) (by omega)) (fun x13 ix13 => ?_)
              refine ok_ltI (tw_q ty6 (tt_p t)) (fun x14 ix14 => ?_)
              refine ok_chk (nz ix14 (by omega)) ?_
              refine ok_ltI (av_mod i1 ix14 (by omega) (by omega)) (fun x15 ix15 => ?_)
              refine ok_ltI (av_mul iy3 ix15 (by omega) (by omega)) (fun x16 ix16 => ?_)
              refine ok_ltI (av_add ix13 ix16 (by omega) (by omega)) (fun x17 ix17 => ?_)
              refine ok_ltI (av_mul tn_4 i4 (by omega) (by omega)) (fun x18 ix18 => ?_)
              refine ok_bnd (Q := fun (z : Int32) => (1 ≤ z.toInt ∧ z.toInt ≤ 1)) ?_ ?_
              · refine ok_if (fun c7 => ?_) (fun c7 => ?_)
                · have dc7 := tl_eq i3 tn_0 c7
                  exact ok_some (ti_bd tn_1 (by omega) (by omega))
                · have dc7 := tl_ne i3 tn_0 c7
                  exfalso
                  omega
              · intro y19 hyy19
                have ly19 := hyy19
                have iy19 : TI y19 (1) := ti_c ly19
                refine ok_ltI (av_mul ix18 iy19 (by omega) (by omega)) (fun x20 ix20 => ?_)
                refine ok_ltI (av_add ix17 ix20 (by omega) (by omega)) (fun x21 ix21 => ?_)
                refine ok_bnd (Q := fun (z : Int32) => (1 ≤ z.toInt ∧ z.toInt ≤ 1)) ?_ ?_
                · refine ok_if (fun c8 => ?_) (fun c8 => ?_)
                  · have dc8 := tl_eq i3 tn_0 c8
                    exact ok_some (ti_bd tn_1 (by omega) (by omega))
                  · have dc8 := tl_ne i3 tn_0 c8
                    exfalso
                    omega
                · intro y22 hyy22
                  have ly22 := hyy22
                  have iy22 : TI y22 (1) := ti_c ly22
                  refine ok_bnd (Q := fun (z : Int32) => (8 ≤ z.toInt ∧ z.toInt ≤ 8)) ?_ ?_
                  · refine ok_if (fun c9 => ?_) (fun c9 => ?_)
                    · have dc9 := tl_eq i3 tn_0 c9
                      exact ok_some (ti_bd ix9 (by omega) (by omega))
                    · have dc9 := tl_ne i3 tn_0 c9
                      exfalso
                      omega
                  · intro y23 hyy23
                    have ly23 := hyy23
                    have iy23 : TI y23 (8) := ti_c ly23
                    have ky3 : y3.toInt = _ := iy3
                    refine ok_bnd (Q := fun (z : Int32 × DD) => (0 ≤ z.1.toInt ∧ z.1.toInt ≤ y3.toInt) ∧ TT G z.2 p 1 L ∧ Fr p [15, 18] M z.2) (ok_itr (fun (z : Int32 × DD) => (0 ≤ z.1.toInt ∧ z.1.toInt ≤ y3.toInt) ∧ TT G z.2 p 1 L ∧ Fr p [15, 18] M z.2) (fun z => (y3.toInt - z.1.toInt).toNat) ?_ _ _ ?_ ?_) ?_
                    · intro s25 hys25
                      obtain ⟨ls25_1, ts25_2, fs25_2⟩ := hys25
                      have is25_1 : TI s25.1 s25.1.toInt := rfl
                      refine ok_if (fun c10 => ?_) (fun c10 => ?_)
                      · have dc10 := tl_le iy3 is25_1 c10
                        exact ok_some ⟨(ti_bd is25_1 (by omega) (by omega)), ts25_2, fs25_2⟩
                      · have dc10 := tl_nle iy3 is25_1 c10
                        refine ok_bnd (Q := fun (z : Int32) => (0 ≤ z.toInt ∧ z.toInt ≤ 14)) ?_ ?_
                        · refine ok_if (fun c11 => ?_) (fun c11 => ?_)
                          · have dc11 := tl_eq i2 tn_0 c11
                            exfalso
                            omega
                          · have dc11 := tl_ne i2 tn_0 c11
                            refine ok_ltI (av_mul tn_2 is25_1 (by omega) (by omega)) (fun x66 ix66 => ?_)
                            exact ok_some (ti_bd ix66 (by omega) (by omega))
                        · intro y29 hyy29
                          have ly29 := hyy29
                          have iy29 : TI y29 y29.toInt := rfl
                          refine ok_bnd (Q := fun (z : Int32) => (8 ≤ z.toInt ∧ z.toInt ≤ 24)) ?_ ?_
                          · refine ok_if (fun c12 => ?_) (fun c12 => ?_)
                            · have dc12 := tl_eq i2 tn_0 c12
                              exfalso
                              omega
                            · have dc12 := tl_ne i2 tn_0 c12
                              refine ok_ltI (av_mul tn_8 i4 (by omega) (by omega)) (fun x63 ix63 => ?_)
                              exact ok_some (ti_bd ix63 (by omega) (by omega))
                          · intro y30 hyy30
                            have ly30 := hyy30
                            have iy30 : TI y30 y30.toInt := rfl
                            refine ok_bnd (Q := fun (z : Int32) => (8 ≤ z.toInt ∧ z.toInt ≤ 24)) ?_ ?_
                            · refine ok_if (fun c13 => ?_) (fun c13 => ?_)
                              · have dc13 := tl_eq i3 tn_0 c13
                                exact ok_some (ti_bd iy30 (by omega) (by omega))
                              · have dc13 := tl_ne i3 tn_0 c13
                                exfalso
                                omega
                            · intro y31 hyy31
                              have ly31 := hyy31
                              have iy31 : TI y31 y31.toInt := rfl
                              refine ok_bnd (Q := fun (z : Int32) => (0 ≤ z.toInt ∧ z.toInt ≤ 14)) ?_ ?_
                              · refine ok_if (fun c14 => ?_) (fun c14 => ?_)
                                · have dc14 := tl_eq i3 tn_0 c14
                                  exact ok_some (ti_bd iy29 (by omega) (by omega))
                                · have dc14 := tl_ne i3 tn_0 c14
                                  exfalso
                                  omega
                              · intro y32 hyy32
                                have ly32 := hyy32
                                have iy32 : TI y32 y32.toInt := rfl
                                refine ok_ltI (av_sar 3 iy32 (by decide)) (fun x33 ix33 => ?_)
                                refine ok_ltI (av_mul ix33 tn_8 (by omega) (by omega)) (fun x34 ix34 => ?_)
                                refine ok_ltI (av_sar 3 iy31 (by decide)) (fun x35 ix35 => ?_)
                                refine ok_ltI (av_mul ix35 tn_4 (by omega) (by omega)) (fun x36 ix36 => ?_)
                                refine ok_ltI (av_add ix34 ix36 (by omega) (by omega)) (fun x37 ix37 => ?_)
                                refine ok_ltI (av_sar 2 iy32 (by decide)) (fun x38 ix38 => ?_)
                                refine ok_ltI (av_and 1 ix38 (by decide) (by decide)) (fun x39 ix39 => ?_)
                                refine ok_ltI (av_mul ix39 tn_2 (by omega) (by omega)) (fun x40 ix40 => ?_)
                                refine ok_ltI (av_add ix37 ix40 (by omega) (by omega)) (fun x41 ix41 => ?_)
                                refine ok_ltI (av_sar 2 iy31 (by decide)) (fun x42 ix42 => ?_)
                                refine ok_ltI (av_and 1 ix42 (by decide) (by decide)) (fun x43 ix43 => ?_)
                                refine ok_ltI (av_add ix41 ix43 (by omega) (by omega)) (fun x44 ix44 => ?_)
                                refine ok_ltI (av_mul tn_16 i1 (by omega) (by omega)) (fun x45 ix45 => ?_)
                                refine ok_ltI (av_add ix45 ix44 (by omega) (by omega)) (fun x46 ix46 => ?_)
                                refine ok_ltI (av_mul tn_2 ix46 (by omega) (by omega)) (fun x47 ix47 => ?_)
                                refine ok_ltI (av_add ix47 i3 (by omega) (by omega)) (fun x48 ix48 => ?_)
                                refine ok_dr (f_r (b := 149) ts25_2 rfl (by decide)) (g_lt ts25_2 (by decide)) (g_k ts25_2 (by decide) rfl) ?_
                                refine ok_chk (nxg (g_n (i := 149) (n := 1024) ts25_2 (by decide) rfl) ix48 (by omega) (by omega)) ?_
                                refine ok_ltB (ib_t ts25_2 (by simp [TYL] : (149, 0, 4) ∈ TYL) _) (fun x50 lx50 => ?_)
                                have ix50 : TI x50 x50.toInt := rfl
                                refine ok_bnd (Q := fun (z : DD) => TT G z p 1 L ∧ Fr p [15, 18] M z) ?_ ?_
                                · refine ok_if (fun c15 => ?_) (fun c15 => ?_)
                                  · have dc15 := tl_le ix50 tn_0 c15
                                    exact ok_some ⟨ts25_2, fs25_2⟩
                                  · have dc15 := tl_nle ix50 tn_0 c15
                                    refine ok_dr (pr_4 ts25_2 (tt_p t)) (by have q := (tt_q0b ts25_2 (tt_p t)); omega) (gk_2 ts25_2 (tt_p t)) ?_
                                    refine ok_chk (nxg (gl_2 ts25_2 (tt_p t)) i2 (by omega) (by omega)) ?_
                                    refine ok_ltI (av_mul is25_1 iy23 (by omega) (by omega)) (fun x55 ix55 => ?_)
                                    refine ok_ltI (av_add ix21 ix55 (by omega) (by omega)) (fun x56 ix56 => ?_)
                                    refine ok_bnd (Q := fun (z : Int32) => (0 ≤ z.toInt ∧ z.toInt ≤ 0)) ?_ ?_
                                    · refine ok_if (fun c16 => ?_) (fun c16 => ?_)
                                      · have dc16 := tl_eq i2 tn_0 c16
                                        exfalso
                                        omega
                                      · have dc16 := tl_ne i2 tn_0 c16
                                        exact ok_some (ti_bd tn_0 (by omega) (by omega))
                                    · intro y57 hyy57
                                      have ly57 := hyy57
                                      have iy57 : TI y57 (0) := ti_c ly57
                                      obtain ⟨j17, hj17, nj17, ej17⟩ := pp_v ts25_2 (tt_p t) i2 (by omega) (by omega)
                                      refine ok_bnd (s_filterLine ts25_2 ej17 (pl_3 hj17) nj17 ix56 iy22 ix50 iy57 (by omega) (by omega) (by omega) (by omega) (by omega) (by omega) (by omega) (by omega)) ?_
                                      intro y58 hyy58
                                      obtain ⟨ty58, gy58⟩ := hyy58
                                      have fy58 := fr_tr fs25_2 gy58 rfl
                                      exact ok_some ⟨ty58, fy58⟩
                                · intro y51 hyy51
                                  obtain ⟨ty51, fy51⟩ := hyy51
                                  refine ok_ltI (av_add is25_1 tn_1 (by omega) (by omega)) (fun x52 ix52 => ?_)
                                  exact ok_some ⟨⟨(ti_bd ix52 (by omega) (by omega)), ty51, fy51⟩, (mu_up ix52 (by omega) (by omega))⟩
                    · exact ⟨(ti_bd tn_0 (by omega) (by omega)), ty6, fy6⟩
                    · exact mu_0 tn_0 (by omega)
                    · intro y24 hyy24
                      obtain ⟨ly24_1, ty24_2, fy24_2⟩ := hyy24
                      have iy24_1 : TI y24.1 y24.1.toInt := rfl
                      exact ok_some ⟨ty24_2, fy24_2⟩
      · refine ok_dr rfl (g_lt t (by decide)) (g_k t (by decide) rfl) ?_
        refine ok_bnd (Q := fun (z : Int32) => (8 ≤ z.toInt ∧ z.toInt ≤ 8)) ?_ ?_
        · refine ok_if (fun c1 => ?_) (fun c1 => ?_)
          · have dc1 := tl_eq i2 tn_0 c1
            exfalso
            omega
          · have dc1 := tl_ne i2 tn_0 c1
            exact ok_some (ti_bd tn_8 (by omega) (by omega))
        · intro y3 hyy3
          have ly3 := hyy3
          have iy3 : TI y3 (8) := ti_c ly3
          refine ok_bnd (Q := fun (z : Int32) => (-1 ≤ z.toInt ∧ z.toInt ≤ 3) ∧ ((a4 = 0 → (1 = 0 → z.toInt = a1 - 1) ∧ (1 = 1 → z.toInt = a1 - 1)) ∧ (1 ≤ a4 → z.toInt = a1))) ?_ ?_
          · refine ok_if (fun c2 => ?_) (fun c2 => ?_)
            · have dc2 := tl_le i4 tn_0 c2
              refine ok_bnd (Q := fun (z : Int32) => (-1 ≤ z.toInt ∧ z.toInt ≤ 2) ∧ ((1 = 0 → z.toInt = a1 - 1) ∧ (1 = 1 → z.toInt = a1 - 1))) ?_ ?_
              · refine ok_if (fun c3 => ?_) (fun c3 => ?_)
                · have dc3 := tl_eq i3 tn_0 c3
                  exfalso
                  omega
                · have dc3 := tl_ne i3 tn_0 c3
                  refine ok_dr (tt_pic t) (by have q := (tt_q0b t (tt_p t)); omega) (gk_0 t (tt_p t)) ?_
                  refine ok_ltI (tw_q t (tt_p t)) (fun x207 ix207 => ?_)
                  refine ok_ltI (av_sub i1 ix207 (by omega) (by omega)) (fun x208 ix208 => ?_)
                  exact ok_some ⟨(ti_bd ix208 (by omega) (by omega)), (by have q : _ = _ := ix208; (try dsimp only); omega)⟩
              · intro y204 hyy204
                obtain ⟨ly204, jy204⟩ := hyy204
                have iy204 : TI y204 y204.toInt := rfl
                exact ok_some ⟨(ti_bd iy204 (by omega) (by omega)), (by have q : _ = _ := iy204; (try dsimp only); omega)⟩
            · have dc2 := tl_nle i4 tn_0 c2
              exact ok_some ⟨(ti_bd i1 (by omega) (by omega)), (by have q : _ = _ := i1; (try dsimp only); omega)⟩
          · intro y4 hyy4
            obtain ⟨ly4, jy4⟩ := hyy4
            have iy4 : TI y4 y4.toInt := rfl
            refine ok_if (fun c4 => ?_) (fun c4 => ?_)
            · have dc4 := tl_eq i4 tn_0 c4
              refine ok_if (fun c5 => ?_) (fun c5 => ?_)
              · have dc5 := tl_eq i3 tn_0 c5
                exfalso
                omega
              · have dc5 := tl_ne i3 tn_0 c5
                refine ok_if (fun c6 => ?_) (fun c6 => ?_)
                · have dc6 := tl_le tn_0 iy4 c6
                  refine ok_bnd (s_setThresholds t rfl iy4 i1 (by omega) (by omega) (by omega) (by omega)) ?_
                  intro y72 hyy72
                  obtain ⟨ty72, gy72⟩ := hyy72
                  have fy72 := fr_tr (fr_0 p [15, 18] M) gy72 rfl
                  refine ok_dr (tt_pic t) (by have q := (tt_q0b ty72 (tt_p t)); omega) (gk_0 ty72 (tt_p t)) ?_
                  refine ok_ltI (tw_q ty72 (tt_p t)) (fun x74 ix74 => ?_)
                  refine ok_ltI (av_mul iy3 ix74 (by omega) (by omega)) (fun x75 ix75 => ?_)
                  refine ok_ltI (tw_q ty72 (tt_p t)) (fun x76 ix76 => ?_)
                  refine ok_chk (nz ix76 (by omega)) ?_
                  refine ok_ltI (av_div i1 ix76 (by omega) (by omega)) (fun x77 ix77 => ?_)
                  refine ok_ltI (av_mul iy3 ix77 (by omega) (by omega)) (fun x78 ix78 => ?_)
                  refine ok_ltI (av_mul ix78 ix75 (by omega) (by omega)) (fun x79 ix79 => ?_)
                  refine ok_ltI (tw_q ty72 (tt_p t)) (fun x80 ix80 => ?_)
                  refine ok_chk (nz ix80 (by omega)) ?_
                  refine ok_ltI (av_mod i1 ix80 (by omega) (by omega)) (fun x81 ix81 => ?_)
                  refine ok_ltI (av_mul iy3 ix81 (by omega) (by omega)) (fun x82 ix82 => ?_)
                  refine ok_ltI (av_add ix79 ix82 (by omega) (by omega)) (fun x83 ix83 => ?_)
                  refine ok_ltI (av_mul tn_4 i4 (by omega) (by omega)) (fun x84 ix84 => ?_)
                  refine ok_bnd (Q := fun (z : Int32) => (8 ≤ z.toInt ∧ z.toInt ≤ 8)) ?_ ?_
                  · refine ok_if (fun c7 => ?_) (fun c7 => ?_)
                    · have dc7 := tl_eq i3 tn_0 c7
                      exfalso
                      omega
                    · have dc7 := tl_ne i3 tn_0 c7
                      exact ok_some (ti_bd ix75 (by omega) (by omega))
                  · intro y85 hyy85
                    have ly85 := hyy85
                    have iy85 : TI y85 (8) := ti_c ly85
                    refine ok_ltI (av_mul ix84 iy85 (by omega) (by omega)) (fun x86 ix86 => ?_)
                    refine ok_ltI (av_add ix83 ix86 (by omega) (by omega)) (fun x87 ix87 => ?_)
                    refine ok_bnd (Q := fun (z : Int32) => (8 ≤ z.toInt ∧ z.toInt ≤ 8)) ?_ ?_
                    · refine ok_if (fun c8 => ?_) (fun c8 => ?_)
                      · have dc8 := tl_eq i3 tn_0 c8
                        exfalso
                        omega
                      · have dc8 := tl_ne i3 tn_0 c8
                        exact ok_some (ti_bd ix75 (by omega) (by omega))
                    · intro y88 hyy88
                      have ly88 := hyy88
                      have iy88 : TI y88 (8) := ti_c ly88
                      refine ok_bnd (Q := fun (z : Int32) => (1 ≤ z.toInt ∧ z.toInt ≤ 1)) ?_ ?_
                      · refine ok_if (fun c9 => ?_) (fun c9 => ?_)
                        · have dc9 := tl_eq i3 tn_0 c9
                          exfalso
                          omega
                        · have dc9 := tl_ne i3 tn_0 c9
                          exact ok_some (ti_bd tn_1 (by omega) (by omega))
                      · intro y89 hyy89
                        have ly89 := hyy89
                        have iy89 : TI y89 (1) := ti_c ly89
                        have ky3 : y3.toInt = _ := iy3
                        refine ok_bnd (Q := fun (z : Int32 × DD) => (0 ≤ z.1.toInt ∧ z.1.toInt ≤ y3.toInt) ∧ TT G z.2 p 1 L ∧ Fr p [15, 18] M z.2) (ok_itr (fun (z : Int32 × DD) => (0 ≤ z.1.toInt ∧ z.1.toInt ≤ y3.toInt) ∧ TT G z.2 p 1 L ∧ Fr p [15, 18] M z.2) (fun z => (y3.toInt - z.1.toInt).toNat) ?_ _ _ ?_ ?_) ?_
                        · intro s91 hys91
                          obtain ⟨ls91_1, ts91_2, fs91_2⟩ := hys91
                          have is91_1 : TI s91.1 s91.1.toInt := rfl
                          refine ok_if (fun c10 => ?_) (fun c10 => ?_)
                          · have dc10 := tl_le iy3 is91_1 c10
                            exact ok_some ⟨(ti_bd is91_1 (by omega) (by omega)), ts91_2, fs91_2⟩
                          · have dc10 := tl_nle iy3 is91_1 c10
                            refine ok_bnd (Q := fun (z : Int32) => (0 ≤ z.toInt ∧ z.toInt ≤ 14)) ?_ ?_
                            · refine ok_if (fun c11 => ?_) (fun c11 => ?_)
                              · have dc11 := tl_eq i2 tn_0 c11
                                exfalso
                                omega
                              · have dc11 := tl_ne i2 tn_0 c11
                                refine ok_ltI (av_mul tn_2 is91_1 (by omega) (by omega)) (fun x132 ix132 => ?_)
                                exact ok_some (ti_bd ix132 (by omega) (by omega))
                            · intro y95 hyy95
                              have ly95 := hyy95
                              have iy95 : TI y95 y95.toInt := rfl
                              refine ok_bnd (Q := fun (z : Int32) => (0 ≤ z.toInt ∧ z.toInt ≤ 0)) ?_ ?_
                              · refine ok_if (fun c12 => ?_) (fun c12 => ?_)
                                · have dc12 := tl_eq i2 tn_0 c12
                                  exfalso
                                  omega
                                · have dc12 := tl_ne i2 tn_0 c12
                                  refine ok_ltI (av_mul tn_8 i4 (by omega) (by omega)) (fun x129 ix129 => ?_)
                                  exact ok_some (ti_bd ix129 (by omega) (by omega))
                              · intro y96 hyy96
                                have ly96 := hyy96
                                have iy96 : TI y96 (0) := ti_c ly96
                                refine ok_bnd (Q := fun (z : Int32) => (0 ≤ z.toInt ∧ z.toInt ≤ 14)) ?_ ?_
                                · refine ok_if (fun c13 => ?_) (fun c13 => ?_)
                                  · have dc13 := tl_eq i3 tn_0 c13
                                    exfalso
                                    omega
                                  · have dc13 := tl_ne i3 tn_0 c13
                                    exact ok_some (ti_bd iy95 (by omega) (by omega))
                                · intro y97 hyy97
                                  have ly97 := hyy97
                                  have iy97 : TI y97 y97.toInt := rfl
                                  refine ok_bnd (Q := fun (z : Int32) => (0 ≤ z.toInt ∧ z.toInt ≤ 0)) ?_ ?_
                                  · refine ok_if (fun c14 => ?_) (fun c14 => ?_)
                                    · have dc14 := tl_eq i3 tn_0 c14
                                      exfalso
                                      omega
                                    · have dc14 := tl_ne i3 tn_0 c14
                                      exact ok_some (ti_bd iy96 (by omega) (by omega))
                                  · intro y98 hyy98
                                    have ly98 := hyy98
                                    have iy98 : TI y98 (0) := ti_c ly98
                                    refine ok_ltI (av_sar 3 iy98 (by decide)) (fun x99 ix99 => ?_)
                                    refine ok_ltI (av_mul ix99 tn_8 (by omega) (by omega)) (fun x100 ix100 => ?_)
                                    refine ok_ltI (av_sar 3 iy97 (by decide)) (fun x101 ix101 => ?_)
                                    refine ok_ltI (av_mul ix101 tn_4 (by omega) (by omega)) (fun x102 ix102 => ?_)
                                    refine ok_ltI (av_add ix100 ix102 (by omega) (by omega)) (fun x103 ix103 => ?_)
                                    refine ok_ltI (av_sar 2 iy98 (by decide)) (fun x104 ix104 => ?_)
                                    refine ok_ltI (av_and 1 ix104 (by decide) (by decide)) (fun x105 ix105 => ?_)
                                    refine ok_ltI (av_mul ix105 tn_2 (by omega) (by omega)) (fun x106 ix106 => ?_)
                                    refine ok_ltI (av_add ix103 ix106 (by omega) (by omega)) (fun x107 ix107 => ?_)
                                    refine ok_ltI (av_sar 2 iy97 (by decide)) (fun x108 ix108 => ?_)
                                    refine ok_ltI (av_and 1 ix108 (by decide) (by decide)) (fun x109 ix109 => ?_)
                                    refine ok_ltI (av_add ix107 ix109 (by omega) (by omega)) (fun x110 ix110 => ?_)
                                    refine ok_ltI (av_mul tn_16 i1 (by omega) (by omega)) (fun x111 ix111 => ?_)
                                    refine ok_ltI (av_add ix111 ix110 (by omega) (by omega)) (fun x112 ix112 => ?_)
                                    refine ok_ltI (av_mul tn_2 ix112 (by omega) (by omega)) (fun x113 ix113 => ?_)
                                    refine ok_ltI (av_add ix113 i3 (by omega) (by omega)) (fun x114 ix114 => ?_)
                                    refine ok_dr (f_r (b := 149) ts91_2 rfl (by decide)) (g_lt ts91_2 (by decide)) (g_k ts91_2 (by decide) rfl) ?_
                                    refine ok_chk (nxg (g_n (i := 149) (n := 1024) ts91_2 (by decide) rfl) ix114 (by omega) (by omega)) ?_
                                    refine ok_ltB (ib_t ts91_2 (by simp [TYL] : (149, 0, 4) ∈ TYL) _) (fun x116 lx116 => ?_)
                                    have ix116 : TI x116 x116.toInt := rfl
                                    refine ok_bnd (Q := fun (z : DD) => TT G z p 1 L ∧ Fr p [15, 18] M z) ?_ ?_
                                    · refine ok_if (fun c15 => ?_) (fun c15 => ?_)
                                      · have dc15 := tl_le ix116 tn_0 c15
                                        exact ok_some ⟨ts91_2, fs91_2⟩
                                      · have dc15 := tl_nle ix116 tn_0 c15
                                        refine ok_dr (pr_4 ts91_2 (tt_p t)) (by have q := (tt_q0b ts91_2 (tt_p t)); omega) (gk_2 ts91_2 (tt_p t)) ?_
                                        refine ok_chk (nxg (gl_2 ts91_2 (tt_p t)) i2 (by omega) (by omega)) ?_
                                        refine ok_ltI (av_mul is91_1 iy89 (by omega) (by omega)) (fun x121 ix121 => ?_)
                                        refine ok_ltI (av_add ix87 ix121 (by omega) (by omega)) (fun x122 ix122 => ?_)
                                        refine ok_bnd (Q := fun (z : Int32) => (0 ≤ z.toInt ∧ z.toInt ≤ 0)) ?_ ?_
                                        · refine ok_if (fun c16 => ?_) (fun c16 => ?_)
                                          · have dc16 := tl_eq i2 tn_0 c16
                                            exfalso
                                            omega
                                          · have dc16 := tl_ne i2 tn_0 c16
                                            exact ok_some (ti_bd tn_0 (by omega) (by omega))
                                        · intro y123 hyy123
                                          have ly123 := hyy123
                                          have iy123 : TI y123 (0) := ti_c ly123
                                          obtain ⟨j17, hj17, nj17, ej17⟩ := pp_v ts91_2 (tt_p t) i2 (by omega) (by omega)
                                          refine ok_bnd (s_filterLine ts91_2 ej17 (pl_3 hj17) nj17 ix122 iy88 ix116 iy123 (by omega) (by omega) (by omega) (by omega) (by omega) (by omega) (by omega) (by omega)) ?_
                                          intro y124 hyy124
                                          obtain ⟨ty124, gy124⟩ := hyy124
                                          have fy124 := fr_tr fs91_2 gy124 rfl
                                          exact ok_some ⟨ty124, fy124⟩
                                    · intro y117 hyy117
                                      obtain ⟨ty117, fy117⟩ := hyy117
                                      refine ok_ltI (av_add is91_1 tn_1 (by omega) (by omega)) (fun x118 ix118 => ?_)
                                      exact ok_some ⟨⟨(ti_bd ix118 (by omega) (by omega)), ty117, fy117⟩, (mu_up ix118 (by omega) (by omega))⟩
                        · exact ⟨(ti_bd tn_0 (by omega) (by omega)), ty72, fy72⟩
                        · exact mu_0 tn_0 (by omega)
                        · intro y90 hyy90
                          obtain ⟨ly90_1, ty90_2, fy90_2⟩ := hyy90
                          have iy90_1 : TI y90.1 y90.1.toInt := rfl
                          exact ok_some ⟨ty90_2, fy90_2⟩
                · have dc6 := tl_nle tn_0 iy4 c6
                  exact ok_some ⟨t, (fr_0 p [15, 18] M)⟩
            · have dc4 := tl_ne i4 tn_0 c4
              refine ok_bnd (s_setThresholds t rfl iy4 i1 (by omega) (by omega) (by omega) (by omega)) ?_
              intro y6 hyy6
              obtain ⟨ty6, gy6⟩ := hyy6
              have fy6 := fr_tr (fr_0 p [15, 18] M) gy6 rfl
              refine ok_dr (tt_pic t) (by have q := (tt_q0b ty6 (tt_p t)); omega) (gk_0 ty6 (tt_p t)) ?_
              refine ok_ltI (tw_q ty6 (tt_p t)) (fun x8 ix8 => ?_)
              refine ok_ltI (av_mul iy3 ix8 (by omega) (by omega)) (fun x9 ix9 => ?_)
              refine ok_ltI (tw_q ty6 (tt_p t)) (fun x10 ix10 => ?_)
              refine ok_chk (nz ix10 (by omega)) ?_
              refine ok_ltI (av_div i1 ix10 (by omega) (by omega)) (fun x11 ix11 => ?_)
              refine ok_ltI (av_mul iy3 ix11 (by omega) (by omega)) (fun x12 ix12 => ?_)
              refine ok_ltI (av_mul ix12 ix9 (by omega) (by omega)) (fun x13 ix13 => ?_)
              refine ok_ltI (tw_q ty6 (tt_p t)) (fun x14 ix14 => ?_)
              refine ok_chk (nz ix14 (by omega)) ?_
              refine ok_ltI (av_mod i1 ix14 (by omega) (by omega)) (fun x15 ix15 => ?_)
              refine ok_ltI (av_mul iy3 ix15 (by omega) (by omega)) (fun x16 ix16 => ?_)
              refine ok_ltI (av_add ix13 ix16 (by omega) (by omega)) (fun x17 ix17 => ?_)
              refine ok_ltI (av_mul tn_4 i4 (by omega) (by omega)) (fun x18 ix18 => ?_)
              refine ok_bnd (Q := fun (z : Int32) => (8 ≤ z.toInt ∧ z.toInt ≤ 8)) ?_ ?_
              · refine ok_if (fun c18 => ?_) (fun c18 => ?_)
                · have dc18 := tl_eq i3 tn_0 c18
                  exfalso
                  omega
                · have dc18 := tl_ne i3 tn_0 c18
                  exact ok_some (ti_bd ix9 (by omega) (by omega))
              · intro y19 hyy19
                have ly19 := hyy19
                have iy19 : TI y19 (8) := ti_c ly19
                refine ok_ltI (av_mul ix18 iy19 (by omega) (by omega)) (fun x20 ix20 => ?_)
                refine ok_ltI (av_add ix17 ix20 (by omega) (by omega)) (fun x21 ix21 => ?_)
                refine ok_bnd (Q := fun (z : Int32) => (8 ≤ z.toInt ∧ z.toInt ≤ 8)) ?_ ?_
                · refine ok_if (fun c19 => ?_) (fun c19 => ?_)
                  · have dc19 := tl_eq i3 tn_0 c19
                    exfalso
                    omega
                  · have dc19 := tl_ne i3 tn_0 c19
                    exact ok_some (ti_bd ix9 (by omega) (by omega))
                · intro y22 hyy22
                  have ly22 := hyy22
                  have iy22 : TI y22 (8) := ti_c ly22
                  refine ok_bnd (Q := fun (z : Int32) => (1 ≤ z.toInt ∧ z.toInt ≤ 1)) ?_ ?_
                  · refine ok_if (fun c20 => ?_) (fun c20 => ?_)
                    · have dc20 := tl_eq i3 tn_0 c20
                      exfalso
                      omega
                    · have dc20 := tl_ne i3 tn_0 c20
                      exact ok_some (ti_bd tn_1 (by omega) (by omega))
                  · intro y23 hyy23
                    have ly23 := hyy23
                    have iy23 : TI y23 (1) := ti_c ly23
                    have ky3 : y3.toInt = _ := iy3
                    refine ok_bnd (Q := fun (z : Int32 × DD) => (0 ≤ z.1.toInt ∧ z.1.toInt ≤ y3.toInt) ∧ TT G z.2 p 1 L ∧ Fr p [15, 18] M z.2) (ok_itr (fun (z : Int32 × DD) => (0 ≤ z.1.toInt ∧ z.1.toInt ≤ y3.toInt) ∧ TT G z.2 p 1 L ∧ Fr p [15, 18] M z.2) (fun z => (y3.toInt - z.1.toInt).toNat) ?_ _ _ ?_ ?_) ?_
                    · intro s25 hys25
                      obtain ⟨ls25_1, ts25_2, fs25_2⟩ := hys25
                      have is25_1 : TI s25.1 s25.1.toInt := rfl
                      refine ok_if (fun c21 => ?_) (fun c21 => ?_)
                      · have dc21 := tl_le iy3 is25_1 c21
                        exact ok_some ⟨(ti_bd is25_1 (by omega) (by omega)), ts25_2, fs25_2⟩
                      · have dc21 := tl_nle iy3 is25_1 c21
                        refine ok_bnd (Q := fun (z : Int32) => (0 ≤ z.toInt ∧ z.toInt ≤ 14)) ?_ ?_
                        · refine ok_if (fun c22 => ?_) (fun c22 => ?_)
                          · have dc22 := tl_eq i2 tn_0 c22
                            exfalso
                            omega
                          · have dc22 := tl_ne i2 tn_0 c22
                            refine ok_ltI (av_mul tn_2 is25_1 (by omega) (by omega)) (fun x66 ix66 => ?_)
                            exact ok_some (ti_bd ix66 (by omega) (by omega))
                        · intro y29 hyy29
                          have ly29 := hyy29
                          have iy29 : TI y29 y29.toInt := rfl
                          refine ok_bnd (Q := fun (z : Int32) => (8 ≤ z.toInt ∧ z.toInt ≤ 24)) ?_ ?_
                          · refine ok_if (fun c23 => ?_) (fun c23 => ?_)
                            · have dc23 := tl_eq i2 tn_0 c23
                              exfalso
                              omega
                            · have dc23 := tl_ne i2 tn_0 c23
                              refine ok_ltI (av_mul tn_8 i4 (by omega) (by omega)) (fun x63 ix63 => ?_)
                              exact ok_some (ti_bd ix63 (by omega) (by omega))
                          · intro y30 hyy30
                            have ly30 := hyy30
                            have iy30 : TI y30 y30.toInt := rfl
                            refine ok_bnd (Q := fun (z : Int32) => (0 ≤ z.toInt ∧ z.toInt ≤ 14)) ?_ ?_
                            · refine ok_if (fun c24 => ?_) (fun c24 => ?_)
                              · have dc24 := tl_eq i3 tn_0 c24
                                exfalso
                                omega
                              · have dc24 := tl_ne i3 tn_0 c24
                                exact ok_some (ti_bd iy29 (by omega) (by omega))
                            · intro y31 hyy31
                              have ly31 := hyy31
                              have iy31 : TI y31 y31.toInt := rfl
                              refine ok_bnd (Q := fun (z : Int32) => (8 ≤ z.toInt ∧ z.toInt ≤ 24)) ?_ ?_
                              · refine ok_if (fun c25 => ?_) (fun c25 => ?_)
                                · have dc25 := tl_eq i3 tn_0 c25
                                  exfalso
                                  omega
                                · have dc25 := tl_ne i3 tn_0 c25
                                  exact ok_some (ti_bd iy30 (by omega) (by omega))
                              · intro y32 hyy32
                                have ly32 := hyy32
                                have iy32 : TI y32 y32.toInt := rfl
                                refine ok_ltI (av_sar 3 iy32 (by decide)) (fun x33 ix33 => ?_)
                                refine ok_ltI (av_mul ix33 tn_8 (by omega) (by omega)) (fun x34 ix34 => ?_)
                                refine ok_ltI (av_sar 3 iy31 (by decide)) (fun x35 ix35 => ?_)
                                refine ok_ltI (av_mul ix35 tn_4 (by omega) (by omega)) (fun x36 ix36 => ?_)
                                refine ok_ltI (av_add ix34 ix36 (by omega) (by omega)) (fun x37 ix37 => ?_)
                                refine ok_ltI (av_sar 2 iy32 (by decide)) (fun x38 ix38 => ?_)
                                refine ok_ltI (av_and 1 ix38 (by decide) (by decide)) (fun x39 ix39 => ?_)
                                refine ok_ltI (av_mul ix39 tn_2 (by omega) (by omega)) (fun x40 ix40 => ?_)
                                refine ok_ltI (av_add ix37 ix40 (by omega) (by omega)) (fun x41 ix41 => ?_)
                                refine ok_ltI (av_sar 2 iy31 (by decide)) (fun x42 ix42 => ?_)
                                refine ok_ltI (av_and 1 ix42 (by decide) (by decide)) (fun x43 ix43 => ?_)
                                refine ok_ltI (av_add ix41 ix43 (by omega) (by omega)) (fun x44 ix44 => ?_)
                                refine ok_ltI (av_mul tn_16 i1 (by omega) (by omega)) (fun x45 ix45 => ?_)
                                refine ok_ltI (av_add ix45 ix44 (by omega) (by omega)) (fun x46 ix46 => ?_)
                                refine ok_ltI (av_mul tn_2 ix46 (by omega) (by omega)) (fun x47 ix47 => ?_)
                                refine ok_ltI (av_add ix47 i3 (by omega) (by omega)) (fun x48 ix48 => ?_)
                                refine ok_dr (f_r (b := 149) ts25_2 rfl (by decide)) (g_lt ts25_2 (by decide)) (g_k ts25_2 (by decide) rfl) ?_
                                refine ok_chk (nxg (g_n (i := 149) (n := 1024) ts25_2 (by decide) rfl) ix48 (by omega) (by omega)) ?_
                                refine ok_ltB (ib_t ts25_2 (by simp [TYL] : (149, 0, 4) ∈ TYL) _) (fun x50 lx50 => ?_)
                                have ix50 : TI x50 x50.toInt := rfl
                                refine ok_bnd (Q := fun (z : DD) => TT G z p 1 L ∧ Fr p [15, 18] M z) ?_ ?_
                                · refine ok_if (fun c26 => ?_) (fun c26 => ?_)
                                  · have dc26 := tl_le ix50 tn_0 c26
                                    exact ok_some ⟨ts25_2, fs25_2⟩
                                  · have dc26 := tl_nle ix50 tn_0 c26
                                    refine ok_dr (pr_4 ts25_2 (tt_p t)) (by have q := (tt_q0b ts25_2 (tt_p t)); omega) (gk_2 ts25_2 (tt_p t)) ?_
                                    refine ok_chk (nxg (gl_2 ts25_2 (tt_p t)) i2 (by omega) (by omega)) ?_
                                    refine ok_ltI (av_mul is25_1 iy23 (by omega) (by omega)) (fun x55 ix55 => ?_)
                                    refine ok_ltI (av_add ix21 ix55 (by omega) (by omega)) (fun x56 ix56 => ?_)
                                    refine ok_bnd (Q := fun (z : Int32) => (0 ≤ z.toInt ∧ z.toInt ≤ 0)) ?_ ?_
                                    · refine ok_if (fun c27 => ?_) (fun c27 => ?_)
                                      · have dc27 := tl_eq i2 tn_0 c27
                                        exfalso
                                        omega
                                      · have dc27 := tl_ne i2 tn_0 c27
                                        exact ok_some (ti_bd tn_0 (by omega) (by omega))
                                    · intro y57 hyy57
                                      have ly57 := hyy57
                                      have iy57 : TI y57 (0) := ti_c ly57
                                      obtain ⟨j28, hj28, nj28, ej28⟩ := pp_v ts25_2 (tt_p t) i2 (by omega) (by omega)
                                      refine ok_bnd (s_filterLine ts25_2 ej28 (pl_3 hj28) nj28 ix56 iy22 ix50 iy57 (by omega) (by omega) (by omega) (by omega) (by omega) (by omega) (by omega) (by omega)) ?_
                                      intro y58 hyy58
                                      obtain ⟨ty58, gy58⟩ := hyy58
                                      have fy58 := fr_tr fs25_2 gy58 rfl
                                      exact ok_some ⟨ty58, fy58⟩
                                · intro y51 hyy51
                                  obtain ⟨ty51, fy51⟩ := hyy51
                                  refine ok_ltI (av_add is25_1 tn_1 (by omega) (by omega)) (fun x52 ix52 => ?_)
                                  exact ok_some ⟨⟨(ti_bd ix52 (by omega) (by omega)), ty51, fy51⟩, (mu_up ix52 (by omega) (by omega))⟩
                    · exact ⟨(ti_bd tn_0 (by omega) (by omega)), ty6, fy6⟩
                    · exact mu_0 tn_0 (by omega)
                    · intro y24 hyy24
                      obtain ⟨ly24_1, ty24_2, fy24_2⟩ := hyy24
                      have iy24_1 : TI y24.1 y24.1.toInt := rfl
                      exact ok_some ⟨ty24_2, fy24_2⟩
    · rcases h3 with rfl | rfl
      · refine ok_dr rfl (g_lt t (by decide)) (g_k t (by decide) rfl) ?_
        refine ok_bnd (Q := fun (z : Int32) => (8 ≤ z.toInt ∧ z.toInt ≤ 8)) ?_ ?_
        · refine ok_if (fun c1 => ?_) (fun c1 => ?_)
          · have dc1 := tl_eq i2 tn_0 c1
            exfalso
            omega
          · have dc1 := tl_ne i2 tn_0 c1
            exact ok_some (ti_bd tn_8 (by omega) (by omega))
        · intro y3 hyy3
          have ly3 := hyy3
          have iy3 : TI y3 (8) := ti_c ly3
          refine ok_bnd (Q := fun (z : Int32) => (-1 ≤ z.toInt ∧ z.toInt ≤ 3) ∧ ((a4 = 0 → (0 = 0 → z.toInt = a1 - 1) ∧ (0 = 1 → z.toInt = a1 - 1)) ∧ (1 ≤ a4 → z.toInt = a1))) ?_ ?_
          · refine ok_if (fun c2 => ?_) (fun c2 => ?_)
            · have dc2 := tl_le i4 tn_0 c2
              refine ok_bnd (Q := fun (z : Int32) => (-1 ≤ z.toInt ∧ z.toInt ≤ 2) ∧ ((0 = 0 → z.toInt = a1 - 1) ∧ (0 = 1 → z.toInt = a1 - 1))) ?_ ?_
              · refine ok_if (fun c3 => ?_) (fun c3 => ?_)
                · have dc3 := tl_eq i3 tn_0 c3
                  refine ok_ltI (av_sub i1 tn_1 (by omega) (by omega)) (fun x209 ix209 => ?_)
                  exact ok_some ⟨(ti_bd ix209 (by omega) (by omega)), (by have q : _ = _ := ix209; (try dsimp only); omega)⟩
                · have dc3 := tl_ne i3 tn_0 c3
                  exfalso
                  omega
              · intro y204 hyy204
                obtain ⟨ly204, jy204⟩ := hyy204
                have iy204 : TI y204 y204.toInt := rfl
                exact ok_some ⟨(ti_bd iy204 (by omega) (by omega)), (by have q : _ = _ := iy204; (try dsimp only); omega)⟩
            · have dc2 := tl_nle i4 tn_0 c2
              exact ok_some ⟨(ti_bd i1 (by omega) (by omega)), (by have q : _ = _ := i1; (try dsimp only); omega)⟩
          · intro y4 hyy4
            obtain ⟨ly4, jy4⟩ := hyy4
            have iy4 : TI y4 y4.toInt := rfl
            refine ok_if (fun c4 => ?_) (fun c4 => ?_)
            · have dc4 := tl_eq i4 tn_0 c4
              refine ok_if (fun c5 => ?_) (fun c5 => ?_)
              · have dc5 := tl_eq i3 tn_0 c5
                refine ok_dr (tt_pic t) (by have q := (tt_q0b t (tt_p t)); omega) (gk_0 t (tt_p t)) ?_
                refine ok_ltI (tw_q t (tt_p t)) (fun x137 ix137 => ?_)
                refine ok_chk (nz ix137 (by omega)) ?_
                refine ok_ltI (av_mod i1 ix137 (by omega) (by omega)) (fun x138 ix138 => ?_)
                refine ok_if (fun c6 => ?_) (fun c6 => ?_)
                · have dc6 := tl_eq ix138 tn_0 c6
                  exact ok_some ⟨t, (fr_0 p [15, 18] M)⟩
                · have dc6 := tl_ne ix138 tn_0 c6
                  exfalso
                  omega
              · have dc5 := tl_ne i3 tn_0 c5
                exfalso
                omega
            · have dc4 := tl_ne i4 tn_0 c4
              refine ok_bnd (s_setThresholds t rfl iy4 i1 (by omega) (by omega) (by omega) (by omega)) ?_
              intro y6 hyy6
              obtain ⟨ty6, gy6⟩ := hyy6
              have fy6 := fr_tr (fr_0 p [15, 18] M) gy6 rfl
              refine ok_dr (tt_pic t) (by have q := (tt_q0b ty6 (tt_p t)); omega) (gk_0 ty6 (tt_p t)) ?_
              refine ok_ltI (tw_q ty6 (tt_p t)) (fun x8 ix8 => ?_)
              refine ok_ltI (av_mul iy3 ix8 (by omega) (by omega)) (fun x9 ix9 => ?_)
              refine ok_ltI (tw_q ty6 (tt_p t)) (fun x10 ix10 => ?_)
              refine ok_chk (nz ix10 (by omega)) ?_
              refine ok_ltI (av_div i1 ix10 (by omega) (by omega)) (fun x11 ix11 => ?_)
              refine ok_ltI (av_mul iy3 ix11 (by omega) (by omega)) (fun x12 ix12 => ?_)
              refine ok_ltI (av_mul ix12 ix9 (by omega) (by omega)) (fun x13 ix13 => ?_)
              refine ok_ltI (tw_q ty6 (tt_p t)) (fun x14 ix14 => ?_)
              refine ok_chk (nz ix14 (by omega)) ?_
              refine ok_ltI (av_mod i1 ix14 (by omega) (by omega)) (fun x15 ix15 => ?_)
              refine ok_ltI (av_mul iy3 ix15 (by omega) (by omega)) (fun x16 ix16 => ?_)
              refine ok_ltI (av_add ix13 ix16 (by omega) (by omega)) (fun x17 ix17 => ?_)
              refine ok_ltI (av_mul tn_4 i4 (by omega) (by omega)) (fun x18 ix18 => ?_)
              refine ok_bnd (Q := fun (z : Int32) => (1 ≤ z.toInt ∧ z.toInt ≤ 1)) ?_ ?_
              · refine ok_if (fun c7 => ?_) (fun c7 => ?_)
                · have dc7 := tl_eq i3 tn_0 c7
                  exact ok_some (ti_bd tn_1 (by omega) (by omega))
                · have dc7 := tl_ne i3 tn_0 c7
                  exfalso
                  omega
              · intro y19 hyy19
                have ly19 := hyy19
                have iy19 : TI y19 (1) := ti_c ly19
                refine ok_ltI (av_mul ix18 iy19 (by omega) (by omega)) (fun x20 ix20 => ?_)
                refine ok_ltI (av_add ix17 ix20 (by omega) (by omega)) (fun x21 ix21 => ?_)
                refine ok_bnd (Q := fun (z : Int32) => (1 ≤ z.toInt ∧ z.toInt ≤ 1)) ?_ ?_
                · refine ok_if (fun c8 => ?_) (fun c8 => ?_)
                  · have dc8 := tl_eq i3 tn_0 c8
                    exact ok_some (ti_bd tn_1 (by omega) (by omega))
                  · have dc8 := tl_ne i3 tn_0 c8
                    exfalso
                    omega
                · intro y22 hyy22
                  have ly22 := hyy22
                  have iy22 : TI y22 (1) := ti_c ly22
                  refine ok_bnd (Q := fun (z : Int32) => (8 ≤ z.toInt ∧ z.toInt ≤ 8)) ?_ ?_
                  · refine ok_if (fun c9 => ?_) (fun c9 => ?_)
                    · have dc9 := tl_eq i3 tn_0 c9
                      exact ok_some (ti_bd ix9 (by omega) (by omega))
                    · have dc9 := tl_ne i3 tn_0 c9
                      exfalso
                      omega
                  · intro y23 hyy23
                    have ly23 := hyy23
                    have iy23 : TI y23 (8) := ti_c ly23
                    have ky3 : y3.toInt = _ := iy3
                    refine ok_bnd (Q := fun (z : Int32 × DD) => (0 ≤ z.1.toInt ∧ z.1.toInt ≤ y3.toInt) ∧ TT G z.2 p 1 L ∧ Fr p [15, 18] M z.2) (ok_itr (fun (z : Int32 × DD) => (0 ≤ z.1.toInt ∧ z.1.toInt ≤ y3.toInt) ∧ TT G z.2 p 1 L ∧ Fr p [15, 18] M z.2) (fun z => (y3.toInt - z.1.toInt).toNat) ?_ _ _ ?_ ?_) ?_
                    · intro s25 hys25
                      obtain ⟨ls25_1, ts25_2, fs25_2⟩ := hys25
                      have is25_1 : TI s25.1 s25.1.toInt := rfl
                      refine ok_if (fun c10 => ?_) (fun c10 => ?_)
                      · have dc10 := tl_le iy3 is25_1 c10
                        exact ok_some ⟨(ti_bd is25_1 (by omega) (by omega)), ts25_2, fs25_2⟩
                      · have dc10 := tl_nle iy3 is25_1 c10
                        refine ok_bnd (Q := fun (z : Int32) => (0 ≤ z.toInt ∧ z.toInt ≤ 14)) ?_ ?_
                        · refine ok_if (fun c11 => ?_) (fun c11 => ?_)
                          · have dc11 := tl_eq i2 tn_0 c11
                            exfalso
                            omega
                          · have dc11 := tl_ne i2 tn_0 c11
                            refine ok_ltI (av_mul tn_2 is25_1 (by omega) (by omega)) (fun x66 ix66 => ?_)
                            exact ok_some (ti_bd ix66 (by omega) (by omega))
                        · intro y29 hyy29
                          have ly29 := hyy29
                          have iy29 : TI y29 y29.toInt := rfl
                          refine ok_bnd (Q := fun (z : Int32) => (8 ≤ z.toInt ∧ z.toInt ≤ 24)) ?_ ?_
                          · refine ok_if (fun c12 => ?_) (fun c12 => ?_)
                            · have dc12 := tl_eq i2 tn_0 c12
                              exfalso
                              omega
                            · have dc12 := tl_ne i2 tn_0 c12
                              refine ok_ltI (av_mul tn_8 i4 (by omega) (by omega)) (fun x63 ix63 => ?_)
                              exact ok_some (ti_bd ix63 (by omega) (by omega))
                          · intro y30 hyy30
                            have ly30 := hyy30
                            have iy30 : TI y30 y30.toInt := rfl
                            refine ok_bnd (Q := fun (z : Int32) => (8 ≤ z.toInt ∧ z.toInt ≤ 24)) ?_ ?_
                            · refine ok_if (fun c13 => ?_) (fun c13 => ?_)
                              · have dc13 := tl_eq i3 tn_0 c13
                                exact ok_some (ti_bd iy30 (by omega) (by omega))
                              · have dc13 := tl_ne i3 tn_0 c13
                                exfalso
                                omega
                            · intro y31 hyy31
                              have ly31 := hyy31
                              have iy31 : TI y31 y31.toInt := rfl
                              refine ok_bnd (Q := fun (z : Int32) => (0 ≤ z.toInt ∧ z.toInt ≤ 14)) ?_ ?_
                              · refine ok_if (fun c14 => ?_) (fun c14 => ?_)
                                · have dc14 := tl_eq i3 tn_0 c14
                                  exact ok_some (ti_bd iy29 (by omega) (by omega))
                                · have dc14 := tl_ne i3 tn_0 c14
                                  exfalso
                                  omega
                              · intro y32 hyy32
                                have ly32 := hyy32
                                have iy32 : TI y32 y32.toInt := rfl
                                refine ok_ltI (av_sar 3 iy32 (by decide)) (fun x33 ix33 => ?_)
                                refine ok_ltI (av_mul ix33 tn_8 (by omega) (by omega)) (fun x34 ix34 => ?_)
                                refine ok_ltI (av_sar 3 iy31 (by decide)) (fun x35 ix35 => ?_)
                                refine ok_ltI (av_mul ix35 tn_4 (by omega) (by omega)) (fun x36 ix36 => ?_)
                                refine ok_ltI (av_add ix34 ix36 (by omega) (by omega)) (fun x37 ix37 => ?_)
                                refine ok_ltI (av_sar 2 iy32 (by decide)) (fun x38 ix38 => ?_)
                                refine ok_ltI (av_and 1 ix38 (by decide) (by decide)) (fun x39 ix39 => ?_)
                                refine ok_ltI (av_mul ix39 tn_2 (by omega) (by omega)) (fun x40 ix40 => ?_)
                                refine ok_ltI (av_add ix37 ix40 (by omega) (by omega)) (fun x41 ix41 => ?_)
                                refine ok_ltI (av_sar 2 iy31 (by decide)) (fun x42 ix42 => ?_)
                                refine ok_ltI (av_and 1 ix42 (by decide) (by decide)) (fun x43 ix43 => ?_)
                                refine ok_ltI (av_add ix41 ix43 (by omega) (by omega)) (fun x44 ix44 => ?_)
                                refine ok_ltI (av_mul tn_16 i1 (by omega) (by omega)) (fun x45 ix45 => ?_)
                                refine ok_ltI (av_add ix45 ix44 (by omega) (by omega)) (fun x46 ix46 => ?_)
                                refine ok_ltI (av_mul tn_2 ix46 (by omega) (by omega)) (fun x47 ix47 => ?_)
                                refine ok_ltI (av_add ix47 i3 (by omega) (by omega)) (fun x48 ix48 => ?_)
                                refine ok_dr (f_r (b := 149) ts25_2 rfl (by decide)) (g_lt ts25_2 (by decide)) (g_k ts25_2 (by decide) rfl) ?_
                                refine ok_chk (nxg (g_n (i := 149) (n := 1024) ts25_2 (by decide) rfl) ix48 (by omega) (by omega)) ?_
                                refine ok_ltB (ib_t ts25_2 (by simp [TYL] : (149, 0, 4) ∈ TYL) _) (fun x50 lx50 => ?_)
                                have ix50 : TI x50 x50.toInt := rfl
                                refine ok_bnd (Q := fun (z : DD) => TT G z p 1 L ∧ Fr p [15, 18] M z) ?_ ?_
                                · refine ok_if (fun c15 => ?_) (fun c15 => ?_)
                                  · have dc15 := tl_le ix50 tn_0 c15
                                    exact ok_some ⟨ts25_2, fs25_2⟩
                                  · have dc15 := tl_nle ix50 tn_0 c15
                                    refine ok_dr (pr_4 ts25_2 (tt_p t)) (by have q := (tt_q0b ts25_2 (tt_p t)); omega) (gk_2 ts25_2 (tt_p t)) ?_
                                    refine ok_chk (nxg (gl_2 ts25_2 (tt_p t)) i2 (by omega) (by omega)) ?_
                                    refine ok_ltI (av_mul is25_1 iy23 (by omega) (by omega)) (fun x55 ix55 => ?_)
                                    refine ok_ltI (av_add ix21 ix55 (by omega) (by omega)) (fun x56 ix56 => ?_)
                                    refine ok_bnd (Q := fun (z : Int32) => (0 ≤ z.toInt ∧ z.toInt ≤ 0)) ?_ ?_
                                    · refine ok_if (fun c16 => ?_) (fun c16 => ?_)
                                      · have dc16 := tl_eq i2 tn_0 c16
                                        exfalso
                                        omega
                                      · have dc16 := tl_ne i2 tn_0 c16
                                        exact ok_some (ti_bd tn_0 (by omega) (by omega))
                                    · intro y57 hyy57
                                      have ly57 := hyy57
                                      have iy57 : TI y57 (0) := ti_c ly57
                                      obtain ⟨j17, hj17, nj17, ej17⟩ := pp_v ts25_2 (tt_p t) i2 (by omega) (by omega)
                                      refine ok_bnd (s_filterLine ts25_2 ej17 (pl_3 hj17) nj17 ix56 iy22 ix50 iy57 (by omega) (by omega) (by omega) (by omega) (by omega) (by omega) (by omega) (by omega)) ?_
                                      intro y58 hyy58
                                      obtain ⟨ty58, gy58⟩ := hyy58
                                      have fy58 := fr_tr fs25_2 gy58 rfl
                                      exact ok_some ⟨ty58, fy58⟩
                                · intro y51 hyy51
                                  obtain ⟨ty51, fy51⟩ := hyy51
                                  refine ok_ltI (av_add is25_1 tn_1 (by omega) (by omega)) (fun x52 ix52 => ?_)
                                  exact ok_some ⟨⟨(ti_bd ix52 (by omega) (by omega)), ty51, fy51⟩, (mu_up ix52 (by omega) (by omega))⟩
                    · exact ⟨(ti_bd tn_0 (by omega) (by omega)), ty6, fy6⟩
                    · exact mu_0 tn_0 (by omega)
                    · intro y24 hyy24
                      obtain ⟨ly24_1, ty24_2, fy24_2⟩ := hyy24
                      have iy24_1 : TI y24.1 y24.1.toInt := rfl
                      exact ok_some ⟨ty24_2, fy24_2⟩
      · refine ok_dr rfl (g_lt t (by decide)) (g_k t (by decide) rfl) ?_
        refine ok_bnd (Q := fun (z : Int32) => (8 ≤ z.toInt ∧ z.toInt ≤ 8)) ?_ ?_
        · refine ok_if (fun c1 => ?_) (fun c1 => ?_)
          · have dc1 := tl_eq i2 tn_0 c1
            exfalso
            omega
          · have dc1 := tl_ne i2 tn_0 c1
            exact ok_some (ti_bd tn_8 (by omega) (by omega))
        · intro y3 hyy3
          have ly3 := hyy3
          have iy3 : TI y3 (8) := ti_c ly3
          refine ok_bnd (Q := fun (z : Int32) => (-1 ≤ z.toInt ∧ z.toInt ≤ 3) ∧ ((a4 = 0 → (1 = 0 → z.toInt = a1 - 1) ∧ (1 = 1 → z.toInt = a1 - 1)) ∧ (1 ≤ a4 → z.toInt = a1))) ?_ ?_
          · refine ok_if (fun c2 => ?_) (fun c2 => ?_)
            · have dc2 := tl_le i4 tn_0 c2
              refine ok_bnd (Q := fun (z : Int32) => (-1 ≤ z.toInt ∧ z.toInt ≤ 2) ∧ ((1 = 0 → z.toInt = a1 - 1) ∧ (1 = 1 → z.toInt = a1 - 1))) ?_ ?_
              · refine ok_if (fun c3 => ?_) (fun c3 => ?_)
                · have dc3 := tl_eq i3 tn_0 c3
                  exfalso
                  omega
                · have dc3 := tl_ne i3 tn_0 c3
                  refine ok_dr (tt_pic t) (by have q := (tt_q0b t (tt_p t)); omega) (gk_0 t (tt_p t)) ?_
                  refine ok_ltI (tw_q t (tt_p t)) (fun x207 ix207 => ?_)
                  refine ok_ltI (av_sub i1 ix207 (by omega) (by omega)) (fun x208 ix208 => ?_)
                  exact ok_some ⟨(ti_bd ix208 (by omega) (by omega)), (by have q : _ = _ := ix208; (try dsimp only); omega)⟩
              · intro y204 hyy204
                obtain ⟨ly204, jy204⟩ := hyy204
                have iy204 : TI y204 y204.toInt := rfl
                exact ok_some ⟨(ti_bd iy204 (by omega) (by omega)), (by have q : _ = _ := iy204; (try dsimp only); omega)⟩
            · have dc2 := tl_nle i4 tn_0 c2
              exact ok_some ⟨(ti_bd i1 (by omega) (by omega)), (by have q : _ = _ := i1; (try dsimp only); omega)⟩
          · intro y4 hyy4
            obtain ⟨ly4, jy4⟩ := hyy4
            have iy4 : TI y4 y4.toInt := rfl
            refine ok_if (fun c4 => ?_) (fun c4 => ?_)
            · have dc4 := tl_eq i4 tn_0 c4
              refine ok_if (fun c5 => ?_) (fun c5 => ?_)
              · have dc5 := tl_eq i3 tn_0 c5
                exfalso
                omega
              · have dc5 := tl_ne i3 tn_0 c5
                refine ok_if (fun c6 => ?_) (fun c6 => ?_)
                · have dc6 := tl_le tn_0 iy4 c6
                  refine ok_bnd (s_setThresholds t rfl iy4 i1 (by omega) (by omega) (by omega) (by omega)) ?_
                  intro y72 hyy72
                  obtain ⟨ty72, gy72⟩ := hyy72
                  have fy72 := fr_tr (fr_0 p [15, 18] M) gy72 rfl
                  refine ok_dr (tt_pic t) (by have q := (tt_q0b ty72 (tt_p t)); omega) (gk_0 ty72 (tt_p t)) ?_
                  refine ok_ltI (tw_q ty72 (tt_p t)) (fun x74 ix74 => ?_)
                  refine ok_ltI (av_mul iy3 ix74 (by omega) (by omega)) (fun x75 ix75 => ?_)
                  refine ok_ltI (tw_q ty72 (tt_p t)) (fun x76 ix76 => ?_)
                  refine ok_chk (nz ix76 (by omega)) ?_
                  refine ok_ltI (av_div i1 ix76 (by omega) (by omega)) (fun x77 ix77 => ?_)
                  refine ok_ltI (av_mul iy3 ix77 (by omega) (by omega)) (fun x78 ix78 => ?_)
                  refine ok_ltI (av_mul ix78 ix75 (by omega) (by omega)) (fun x79 ix79 => ?_)
                  refine ok_ltI (tw_q ty72 (tt_p t)) (fun x80 ix80 => ?_)
                  refine ok_chk (nz ix80 (by omega)) ?_
                  refine ok_ltI (av_mod i1 ix80 (by omega) (by omega)) (fun x81 ix81 => ?_)
                  refine ok_ltI (av_mul iy3 ix81 (by omega) (by omega)) (fun x82 ix82 => ?_)
                  refine ok_ltI (av_add ix79 ix82 (by omega) (by omega)) (fun x83 ix83 => ?_)
                  refine ok_ltI (av_mul tn_4 i4 (by omega) (by omega)) (fun x84 ix84 => ?_)
                  refine ok_bnd (Q := fun (z : Int32) => (8 ≤ z.toInt ∧ z.toInt ≤ 8)) ?_ ?_
                  · refine ok_if (fun c7 => ?_) (fun c7 => ?_)
                    · have dc7 := tl_eq i3 tn_0 c7
                      exfalso
                      omega
                    · have dc7 := tl_ne i3 tn_0 c7
                      exact ok_some (ti_bd ix75 (by omega) (by omega))
                  · intro y85 hyy85
                    have ly85 := hyy85
                    have iy85 : TI y85 (8) := ti_c ly85
                    refine ok_ltI (av_mul ix84 iy85 (by omega) (by omega)) (fun x86 ix86 => ?_)
                    refine ok_ltI (av_add ix83 ix86 (by omega) (by omega)) (fun x87 ix87 => ?_)
                    refine ok_bnd (Q := fun (z : Int32) => (8 ≤ z.toInt ∧ z.toInt ≤ 8)) ?_ ?_
                    · refine ok_if (fun c8 => ?_) (fun c8 => ?_)
                      · have dc8 := tl_eq i3 tn_0 c8
                        exfalso
                        omega
                      · have dc8 := tl_ne i3 tn_0 c8
                        exact ok_some (ti_bd ix75 (by omega) (by omega))
                    · intro y88 hyy88
                      have ly88 := hyy88
                      have iy88 : TI y88 (8) := ti_c ly88
                      refine ok_bnd (Q := fun (z : Int32) => (1 ≤ z.toInt ∧ z.toInt ≤ 1)) ?_ ?_
                      · refine ok_if (fun c9 => ?_) (fun c9 => ?_)
                        · have dc9 := tl_eq i3 tn_0 c9
                          exfalso
                          omega
                        · have dc9 := tl_ne i3 tn_0 c9
                          exact ok_some (ti_bd tn_1 (by omega) (by omega))
                      · intro y89 hyy89
                        have ly89 := hyy89
                        have iy89 : TI y89 (1) := ti_c ly89
                        have ky3 : y3.toInt = _ := iy3
                        refine ok_bnd (Q := fun (z : Int32 × DD) => (0 ≤ z.1.toInt ∧ z.1.toInt ≤ y3.toInt) ∧ TT G z.2 p 1 L ∧ Fr p [15, 18] M z.2) (ok_itr (fun (z : Int32 × DD) => (0 ≤ z.1.toInt ∧ z.1.toInt ≤ y3.toInt) ∧ TT G z.2 p 1 L ∧ Fr p [15, 18] M z.2) (fun z => (y3.toInt - z.1.toInt).toNat) ?_ _ _ ?_ ?_) ?_
                        · intro s91 hys91
                          obtain ⟨ls91_1, ts91_2, fs91_2⟩ := hys91
                          have is91_1 : TI s91.1 s91.1.toInt := rfl
                          refine ok_if (fun c10 => ?_) (fun c10 => ?_)
                          · have dc10 := tl_le iy3 is91_1 c10
                            exact ok_some ⟨(ti_bd is91_1 (by omega) (by omega)), ts91_2, fs91_2⟩
                          · have dc10 := tl_nle iy3 is91_1 c10
                            refine ok_bnd (Q := fun (z : Int32) => (0 ≤ z.toInt ∧ z.toInt ≤ 14)) ?_ ?_
                            · refine ok_if (fun c11 => ?_) (fun c11 => ?_)
                              · have dc11 := tl_eq i2 tn_0 c11
                                exfalso
                                omega
                              · have dc11 := tl_ne i2 tn_0 c11
                                refine ok_ltI (av_mul tn_2 is91_1 (by omega) (by omega)) (fun x132 ix132 => ?_)
                                exact ok_some (ti_bd ix132 (by omega) (by omega))
                            · intro y95 hyy95
                              have ly95 := hyy95
                              have iy95 : TI y95 y95.toInt := rfl
                              refine ok_bnd (Q := fun (z : Int32) => (0 ≤ z.toInt ∧ z.toInt ≤ 0)) ?_ ?_
                              · refine ok_if (fun c12 => ?_) (fun c12 => ?_)
                                · have dc12 := tl_eq i2 tn_0 c12
                                  exfalso
                                  omega
                                · have dc12 := tl_ne i2 tn_0 c12
                                  refine ok_ltI (av_mul tn_8 i4 (by omega) (by omega)) (fun x129 ix129 => ?_)
                                  exact ok_some (ti_bd ix129 (by omega) (by omega))
                              · intro y96 hyy96
                                have ly96 := hyy96
                                have iy96 : TI y96 (0) := ti_c ly96
                                refine ok_bnd (Q := fun (z : Int32) => (0 ≤ z.toInt ∧ z.toInt ≤ 14)) ?_ ?_
                                · refine ok_if (fun c13 => ?_) (fun c13 => ?_)
                                  · have dc13 := tl_eq i3 tn_0 c13
                                    exfalso
                                    omega
                                  · have dc13 := tl_ne i3 tn_0 c13
                                    exact ok_some (ti_bd iy95 (by omega) (by omega))
                                · intro y97 hyy97
                                  have ly97 := hyy97
                                  have iy97 : TI y97 y97.toInt := rfl
                                  refine ok_bnd (Q := fun (z : Int32) => (0 ≤ z.toInt ∧ z.toInt ≤ 0)) ?_ ?_
                                  · refine ok_if (fun c14 => ?_) (fun c14 => ?_)
                                    · have dc14 := tl_eq i3 tn_0 c14
                                      exfalso
                                      omega
                                    · have dc14 := tl_ne i3 tn_0 c14
                                      exact ok_some (ti_bd iy96 (by omega) (by omega))
                                  · intro y98 hyy98
                                    have ly98 := hyy98
                                    have iy98 : TI y98 (0) := ti_c ly98
                                    refine ok_ltI (av_sar 3 iy98 (by decide)) (fun x99 ix99 => ?_)
                                    refine ok_ltI (av_mul ix99 tn_8 (by omega) (by omega)) (fun x100 ix100 => ?_)
                                    refine ok_ltI (av_sar 3 iy97 (by decide)) (fun x101 ix101 => ?_)
                                    refine ok_ltI (av_mul ix101 tn_4 (by omega) (by omega)) (fun x102 ix102 => ?_)
                                    refine ok_ltI (av_add ix100 ix102 (by omega) (by omega)) (fun x103 ix103 => ?_)
                                    refine ok_ltI (av_sar 2 iy98 (by decide)) (fun x104 ix104 => ?_)
                                    refine ok_ltI (av_and 1 ix104 (by decide) (by decide)) (fun x105 ix105 => ?_)
                                    refine ok_ltI (av_mul ix105 tn_2 (by omega) (by omega)) (fun x106 ix106 => ?_)
                                    refine ok_ltI (av_add ix103 ix106 (by omega) (by omega)) (fun x107 ix107 => ?_)
                                    refine ok_ltI (av_sar 2 iy97 (by decide)) (fun x108 ix108 => ?_)
                                    refine ok_ltI (av_and 1 ix108 (by decide) (by decide)) (fun x109 ix109 => ?_)
                                    refine ok_ltI (av_add ix107 ix109 (by omega) (by omega)) (fun x110 ix110 => ?_)
                                    refine ok_ltI (av_mul tn_16 i1 (by omega) (by omega)) (fun x111 ix111 => ?_)
                                    refine ok_ltI (av_add ix111 ix110 (by omega) (by omega)) (fun x112 ix112 => ?_)
                                    refine ok_ltI (av_mul tn_2 ix112 (by omega) (by omega)) (fun x113 ix113 => ?_)
                                    refine ok_ltI (av_add ix113 i3 (by omega) (by omega)) (fun x114 ix114 => ?_)
                                    refine ok_dr (f_r (b := 149) ts91_2 rfl (by decide)) (g_lt ts91_2 (by decide)) (g_k ts91_2 (by decide) rfl) ?_
                                    refine ok_chk (nxg (g_n (i := 149) (n := 1024) ts91_2 (by decide) rfl) ix114 (by omega) (by omega)) ?_
                                    refine ok_ltB (ib_t ts91_2 (by simp [TYL] : (149, 0, 4) ∈ TYL) _) (fun x116 lx116 => ?_)
                                    have ix116 : TI x116 x116.toInt := rfl
                                    refine ok_bnd (Q := fun (z : DD) => TT G z p 1 L ∧ Fr p [15, 18] M z) ?_ ?_
                                    · refine ok_if (fun c15 => ?_) (fun c15 => ?_)
                                      · have dc15 := tl_le ix116 tn_0 c15
                                        exact ok_some ⟨ts91_2, fs91_2⟩
                                      · have dc15 := tl_nle ix116 tn_0 c15
                                        refine ok_dr (pr_4 ts91_2 (tt_p t)) (by have q := (tt_q0b ts91_2 (tt_p t)); omega) (gk_2 ts91_2 (tt_p t)) ?_
                                        refine ok_chk (nxg (gl_2 ts91_2 (tt_p t)) i2 (by omega) (by omega)) ?_
                                        refine ok_ltI (av_mul is91_1 iy89 (by omega) (by omega)) (fun x121 ix121 => ?_)
                                        refine ok_ltI (av_add ix87 ix121 (by omega) (by omega)) (fun x122 ix122 => ?_)
                                        refine ok_bnd (Q := fun (z : Int32) => (0 ≤ z.toInt ∧ z.toInt ≤ 0)) ?_ ?_
                                        · refine ok_if (fun c16 => ?_) (fun c16 => ?_)
                                          · have dc16 := tl_eq i2 tn_0 c16
                                            exfalso
                                            omega
                                          · have dc16 := tl_ne i2 tn_0 c16
                                            exact ok_some (ti_bd tn_0 (by omega) (by omega))
                                        · intro y123 hyy123
                                          have ly123 := hyy123
                                          have iy123 : TI y123 (0) := ti_c ly123
                                          obtain ⟨j17, hj17, nj17, ej17⟩ := pp_v ts91_2 (tt_p t) i2 (by omega) (by omega)
                                          refine ok_bnd (s_filterLine ts91_2 ej17 (pl_3 hj17) nj17 ix122 iy88 ix116 iy123 (by omega) (by omega) (by omega) (by omega) (by omega) (by omega) (by omega) (by omega)) ?_
                                          intro y124 hyy124
                                          obtain ⟨ty124, gy124⟩ := hyy124
                                          have fy124 := fr_tr fs91_2 gy124 rfl
                                          exact ok_some ⟨ty124, fy124⟩
                                    · intro y117 hyy117
                                      obtain ⟨ty117, fy117⟩ := hyy117
                                      refine ok_ltI (av_add is91_1 tn_1 (by omega) (by omega)) (fun x118 ix118 => ?_)
                                      exact ok_some ⟨⟨(ti_bd ix118 (by omega) (by omega)), ty117, fy117⟩, (mu_up ix118 (by omega) (by omega))⟩
                        · exact ⟨(ti_bd tn_0 (by omega) (by omega)), ty72, fy72⟩
                        · exact mu_0 tn_0 (by omega)
                        · intro y90 hyy90
                          obtain ⟨ly90_1, ty90_2, fy90_2⟩ := hyy90
                          have iy90_1 : TI y90.1 y90.1.toInt := rfl
                          exact ok_some ⟨ty90_2, fy90_2⟩
                · have dc6 := tl_nle tn_0 iy4 c6
                  exact ok_some ⟨t, (fr_0 p [15, 18] M)⟩
            · have dc4 := tl_ne i4 tn_0 c4
              refine ok_bnd (s_setThresholds t rfl iy4 i1 (by omega) (by omega) (by omega) (by omega)) ?_
              intro y6 hyy6
              obtain ⟨ty6, gy6⟩ := hyy6
              have fy6 := fr_tr (fr_0 p [15, 18] M) gy6 rfl
              refine ok_dr (tt_pic t) (by have q := (tt_q0b ty6 (tt_p t)); omega) (gk_0 ty6 (tt_p t)) ?_
              refine ok_ltI (tw_q ty6 (tt_p t)) (fun x8 ix8 => ?_)
              refine ok_ltI (av_mul iy3 ix8 (by omega) (by omega)) (fun x9 ix9 => ?_)
              refine ok_ltI (tw_q ty6 (tt_p t)) (fun x10 ix10 => ?_)
              refine ok_chk (nz ix10 (by omega)) ?_
              refine ok_ltI (av_div i1 ix10 (by omega) (by omega)) (fun x11 ix11 => ?_)
              refine ok_ltI (av_mul iy3 ix11 (by omega) (by omega)) (fun x12 ix12 => ?_)
              refine ok_ltI (av_mul ix12 ix9 (by omega) (by omega)) (fun x13 ix13 => ?_)
              refine ok_ltI (tw_q ty6 (tt_p t)) (fun x14 ix14 => ?_)
              refine ok_chk (nz ix14 (by omega)) ?_
              refine ok_ltI (av_mod i1 ix14 (by omega) (by omega)) (fun x15 ix15 => ?_)
              refine ok_ltI (av_mul iy3 ix15 (by omega) (by omega)) (fun x16 ix16 => ?_)
              refine ok_ltI (av_add ix13 ix16 (by omega) (by omega)) (fun x17 ix17 => ?_)
              refine ok_ltI (av_mul tn_4 i4 (by omega) (by omega)) (fun x18 ix18 => ?_)
              refine ok_bnd (Q := fun (z : Int32) => (8 ≤ z.toInt ∧ z.toInt ≤ 8)) ?_ ?_
              · refine ok_if (fun c18 => ?_) (fun c18 => ?_)
                · have dc18 := tl_eq i3 tn_0 c18
                  exfalso
                  omega
                · have dc18 := tl_ne i3 tn_0 c18
                  exact ok_some (ti_bd ix9 (by omega) (by omega))
              · intro y19 hyy19
                have ly19 := hyy19
                have iy19 : TI y19 (8) := ti_c ly19
                refine ok_ltI (av_mul ix18 iy19 (by omega) (by omega)) (fun x20 ix20 => ?_)
                refine ok_ltI (av_add ix17 ix20 (by omega) (by omega)) (fun x21 ix21 => ?_)
                refine ok_bnd (Q := fun (z : Int32) => (8 ≤ z.toInt ∧ z.toInt ≤ 8)) ?_ ?_
                · refine ok_if (fun c19 => ?_) (fun c19 => ?_)
                  · have dc19 := tl_eq i3 tn_0 c19
                    exfalso
                    omega
                  · have dc19 := tl_ne i3 tn_0 c19
                    exact ok_some (ti_bd ix9 (by omega) (by omega))
                · intro y22 hyy22
                  have ly22 := hyy22
                  have iy22 : TI y22 (8) := ti_c ly22
                  refine ok_bnd (Q := fun (z : Int32) => (1 ≤ z.toInt ∧ z.toInt ≤ 1)) ?_ ?_
                  · refine ok_if (fun c20 => ?_) (fun c20 => ?_)
                    · have dc20 := tl_eq i3 tn_0 c20
                      exfalso
                      omega
                    · have dc20 := tl_ne i3 tn_0 c20
                      exact ok_some (ti_bd tn_1 (by omega) (by omega))
                  · intro y23 hyy23
                    have ly23 := hyy23
                    have iy23 : TI y23 (1) := ti_c ly23
                    have ky3 : y3.toInt = _ := iy3
                    refine ok_bnd (Q := fun (z : Int32 × DD) => (0 ≤ z.1.toInt ∧ z.1.toInt ≤ y3.toInt) ∧ TT G z.2 p 1 L ∧ Fr p [15, 18] M z.2) (ok_itr (fun (z : Int32 × DD) => (0 ≤ z.1.toInt ∧ z.1.toInt ≤ y3.toInt) ∧ TT G z.2 p 1 L ∧ Fr p [15, 18] M z.2) (fun z => (y3.toInt - z.1.toInt).toNat) ?_ _ _ ?_ ?_) ?_
                    · intro s25 hys25
                      obtain ⟨ls25_1, ts25_2, fs25_2⟩ := hys25
                      have is25_1 : TI s25.1 s25.1.toInt := rfl
                      refine ok_if (fun c21 => ?_) (fun c21 => ?_)
                      · have dc21 := tl_le iy3 is25_1 c21
                        exact ok_some ⟨(ti_bd is25_1 (by omega) (by omega)), ts25_2, fs25_2⟩
                      · have dc21 := tl_nle iy3 is25_1 c21
                        refine ok_bnd (Q := fun (z : Int32) => (0 ≤ z.toInt ∧ z.toInt ≤ 14)) ?_ ?_
                        · refine ok_if (fun c22 => ?_) (fun c22 => ?_)
                          · have dc22 := tl_eq i2 tn_0 c22
                            exfalso
                            omega
                          · have dc22 := tl_ne i2 tn_0 c22
                            refine ok_ltI (av_mul tn_2 is25_1 (by omega) (by omega)) (fun x66 ix66 => ?_)
                            exact ok_some (ti_bd ix66 (by omega) (by omega))
                        · intro y29 hyy29
                          have ly29 := hyy29
                          have iy29 : TI y29 y29.toInt := rfl
                          refine ok_bnd (Q := fun (z : Int32) => (8 ≤ z.toInt ∧ z.toInt ≤ 24)) ?_ ?_
                          · refine ok_if (fun c23 => ?_) (fun c23 => ?_)
                            · have dc23 := tl_eq i2 tn_0 c23
                              exfalso
                              omega
                            · have dc23 := tl_ne i2 tn_0 c23
                              refine ok_ltI (av_mul tn_8 i4 (by omega) (by omega)) (fun x63 ix63 => ?_)
                              exact ok_some (ti_bd ix63 (by omega) (by omega))
                          · intro y30 hyy30
                            have ly30 := hyy30
                            have iy30 : TI y30 y30.toInt := rfl
                            refine ok_bnd (Q := fun (z : Int32) => (0 ≤ z.toInt ∧ z.toInt ≤ 14)) ?_ ?_
                            · refine ok_if (fun c24 => ?_) (fun c24 => ?_)
                              · have dc24 := tl_eq i3 tn_0 c24
                                exfalso
                                omega
                              · have dc24 := tl_ne i3 tn_0 c24
                                exact ok_some (ti_bd iy29 (by omega) (by omega))
                            · intro y31 hyy31
                              have ly31 := hyy31
                              have iy31 : TI y31 y31.toInt := rfl
                              refine ok_bnd (Q := fun (z : Int32) => (8 ≤ z.toInt ∧ z.toInt ≤ 24)) ?_ ?_
                              · refine ok_if (fun c25 => ?_) (fun c25 => ?_)
                                · have dc25 := tl_eq i3 tn_0 c25
                                  exfalso
                                  omega
                                · have dc25 := tl_ne i3 tn_0 c25
                                  exact ok_some (ti_bd iy30 (by omega) (by omega))
                              · intro y32 hyy32
                                have ly32 := hyy32
                                have iy32 : TI y32 y32.toInt := rfl
                                refine ok_ltI (av_sar 3 iy32 (by decide)) (fun x33 ix33 => ?_)
                                refine ok_ltI (av_mul ix33 tn_8 (by omega) (by omega)) (fun x34 ix34 => ?_)
                                refine ok_ltI (av_sar 3 iy31 (by decide)) (fun x35 ix35 => ?_)
                                refine ok_ltI (av_mul ix35 tn_4 (by omega) (by omega)) (fun x36 ix36 => ?_)
                                refine ok_ltI (av_add ix34 ix36 (by omega) (by omega)) (fun x37 ix37 => ?_)
                                refine ok_ltI (av_sar 2 iy32 (by decide)) (fun x38 ix38 => ?_)
                                refine ok_ltI (av_and 1 ix38 (by decide) (by decide)) (fun x39 ix39 => ?_)
                                refine ok_ltI (av_mul ix39 tn_2 (by omega) (by omega)) (fun x40 ix40 => ?_)
                                refine ok_ltI (av_add ix37 ix40 (by omega) (by omega)) (fun x41 ix41 => ?_)
                                refine ok_ltI (av_sar 2 iy31 (by decide)) (fun x42 ix42 => ?_)
                                refine ok_ltI (av_and 1 ix42 (by decide) (by decide)) (fun x43 ix43 => ?_)
                                refine ok_ltI (av_add ix41 ix43 (by omega) (by omega)) (fun x44 ix44 => ?_)
                                refine ok_ltI (av_mul tn_16 i1 (by omega) (by omega)) (fun x45 ix45 => ?_)
                                refine ok_ltI (av_add ix45 ix44 (by omega) (by omega)) (fun x46 ix46 => ?_)
                                refine ok_ltI (av_mul tn_2 ix46 (by omega) (by omega)) (fun x47 ix47 => ?_)
                                refine ok_ltI (av_add ix47 i3 (by omega) (by omega)) (fun x48 ix48 => ?_)
                                refine ok_dr (f_r (b := 149) ts25_2 rfl (by decide)) (g_lt ts25_2 (by decide)) (g_k ts25_2 (by decide) rfl) ?_
                                refine ok_chk (nxg (g_n (i := 149) (n := 1024) ts25_2 (by decide) rfl) ix48 (by omega) (by omega)) ?_
                                refine ok_ltB (ib_t ts25_2 (by simp [TYL] : (149, 0, 4) ∈ TYL) _) (fun x50 lx50 => ?_)
                                have ix50 : TI x50 x50.toInt := rfl
                                refine ok_bnd (Q := fun (z : DD) => TT G z p 1 L ∧ Fr p [15, 18] M z) ?_ ?_
                                · refine ok_if (fun c26 => ?_) (fun c26 => ?_)
                                  · have dc26 := tl_le ix50 tn_0 c26
                                    exact ok_some ⟨ts25_2, fs25_2⟩
                                  · have dc26 := tl_nle ix50 tn_0 c26
                                    refine ok_dr (pr_4 ts25_2 (tt_p t)) (by have q := (tt_q0b ts25_2 (tt_p t)); omega) (gk_2 ts25_2 (tt_p t)) ?_
                                    refine ok_chk (nxg (gl_2 ts25_2 (tt_p t)) i2 (by omega) (by omega)) ?_
                                    refine ok_ltI (av_mul is25_1 iy23 (by omega) (by omega)) (fun x55 ix55 => ?_)
                                    refine ok_ltI (av_add ix21 ix55 (by omega) (by omega)) (fun x56 ix56 => ?_)
                                    refine ok_bnd (Q := fun (z : Int32) => (0 ≤ z.toInt ∧ z.toInt ≤ 0)) ?_ ?_
                                    · refine ok_if (fun c27 => ?_) (fun c27 => ?_)
                                      · have dc27 := tl_eq i2 tn_0 c27
                                        exfalso
                                        omega
                                      · have dc27 := tl_ne i2 tn_0 c27
                                        exact ok_some (ti_bd tn_0 (by omega) (by omega))
                                    · intro y57 hyy57
                                      have ly57 := hyy57
                                      have iy57 : TI y57 (0) := ti_c ly57
                                      obtain ⟨j28, hj28, nj28, ej28⟩ := pp_v ts25_2 (tt_p t) i2 (by omega) (by omega)
                                      refine ok_bnd (s_filterLine ts25_2 ej28 (pl_3 hj28) nj28 ix56 iy22 ix50 iy57 (by omega) (by omega) (by omega) (by omega) (by omega) (by omega) (by omega) (by omega)) ?_
                                      intro y58 hyy58
                                      obtain ⟨ty58, gy58⟩ := hyy58
                                      have fy58 := fr_tr fs25_2 gy58 rfl
                                      exact ok_some ⟨ty58, fy58⟩
                                · intro y51 hyy51
                                  obtain ⟨ty51, fy51⟩ := hyy51
                                  refine ok_ltI (av_add is25_1 tn_1 (by omega) (by omega)) (fun x52 ix52 => ?_)
                                  exact ok_some ⟨⟨(ti_bd ix52 (by omega) (by omega)), ty51, fy51⟩, (mu_up ix52 (by omega) (by omega))⟩
                    · exact ⟨(ti_bd tn_0 (by omega) (by omega)), ty6, fy6⟩
                    · exact mu_0 tn_0 (by omega)
                    · intro y24 hyy24
                      obtain ⟨ly24_1, ty24_2, fy24_2⟩ := hyy24
                      have iy24_1 : TI y24.1 y24.1.toInt := rfl
                      exact ok_some ⟨ty24_2, fy24_2⟩
  · rcases h2 with rfl | rfl | rfl
    · rcases h3 with rfl | rfl
      · refine ok_dr rfl (g_lt t (by decide)) (g_k t (by decide) rfl) ?_
        refine ok_bnd (Q := fun (z : Int32) => (16 ≤ z.toInt ∧ z.toInt ≤ 16)) ?_ ?_
        · refine ok_if (fun c1 => ?_) (fun c1 => ?_)
          · have dc1 := tl_eq i2 tn_0 c1
            exact ok_some (ti_bd tn_16 (by omega) (by omega))
          · have dc1 := tl_ne i2 tn_0 c1
            exfalso
            omega
        · intro y3 hyy3
          have ly3 := hyy3
          have iy3 : TI y3 (16) := ti_c ly3
          refine ok_bnd (Q := fun (z : Int32) => (-1 ≤ z.toInt ∧ z.toInt ≤ 3) ∧ ((a4 = 0 → (0 = 0 → z.toInt = a1 - 1) ∧ (0 = 1 → z.toInt = a1 - 2)) ∧ (1 ≤ a4 → z.toInt = a1))) ?_ ?_
          · refine ok_if (fun c2 => ?_) (fun c2 => ?_)
            · have dc2 := tl_le i4 tn_0 c2
              refine ok_bnd (Q := fun (z : Int32) => (-1 ≤ z.toInt ∧ z.toInt ≤ 2) ∧ ((0 = 0 → z.toInt = a1 - 1) ∧ (0 = 1 → z.toInt = a1 - 2))) ?_ ?_
              · refine ok_if (fun c3 => ?_) (fun c3 => ?_)
                · have dc3 := tl_eq i3 tn_0 c3
                  refine ok_ltI (av_sub i1 tn_1 (by omega) (by omega)) (fun x209 ix209 => ?_)
                  exact ok_some ⟨(ti_bd ix209 (by omega) (by omega)), (by have q : _ = _ := ix209; (try dsimp only); omega)⟩
                · have dc3 := tl_ne i3 tn_0 c3
                  exfalso
                  omega
              · intro y204 hyy204
                obtain ⟨ly204, jy204⟩ := hyy204
                have iy204 : TI y204 y204.toInt := rfl
                exact ok_some ⟨(ti_bd iy204 (by omega) (by omega)), (by have q : _ = _ := iy204; (try dsimp only); omega)⟩
            · have dc2 := tl_nle i4 tn_0 c2
              exact ok_some ⟨(ti_bd i1 (by omega) (by omega)), (by have q : _ = _ := i1; (try dsimp only); omega)⟩
          · intro y4 hyy4
            obtain ⟨ly4, jy4⟩ := hyy4
            have iy4 : TI y4 y4.toInt := rfl
            refine ok_if (fun c4 => ?_) (fun c4 => ?_)
            · have dc4 := tl_eq i4 tn_0 c4
              refine ok_if (fun c5 => ?_) (fun c5 => ?_)
              · have dc5 := tl_eq i3 tn_0 c5
                refine ok_dr (tt_pic t) (by have q := (tt_q0b t (tt_p t)); omega) (gk_0 t (tt_p t)) ?_
                refine ok_ltI (tw_q t (tt_p t)) (fun x137 ix137 => ?_)
                refine ok_chk (nz ix137 (by omega)) ?_
                refine ok_ltI (av_mod i1 ix137 (by omega) (by omega)) (fun x138 ix138 => ?_)
                refine ok_if (fun c6 => ?_) (fun c6 => ?_)
                · have dc6 := tl_eq ix138 tn_0 c6
                  exact ok_some ⟨t, (fr_0 p [15, 18] M)⟩
                · have dc6 := tl_ne ix138 tn_0 c6
                  refine ok_bnd (s_setThresholds t rfl iy4 i1 (by omega) (by omega) (by omega) (by omega)) ?_
                  intro y140 hyy140
                  obtain ⟨ty140, gy140⟩ := hyy140
                  have fy140 := fr_tr (fr_0 p [15, 18] M) gy140 rfl
                  refine ok_ltI (tw_q ty140 (tt_p t)) (fun x141 ix141 => ?_)
                  refine ok_ltI (av_mul iy3 ix141 (by omega) (by omega)) (fun x142 ix142 => ?_)
                  refine ok_ltI (tw_q ty140 (tt_p t)) (fun x143 ix143 => ?_)
                  refine ok_chk (nz ix143 (by omega)) ?_
                  refine ok_ltI (av_div i1 ix143 (by omega) (by omega)) (fun x144 ix144 => ?_)
                  refine ok_ltI (av_mul iy3 ix144 (by omega) (by omega)) (fun x145 ix145 => ?_)
                  refine ok_ltI (av_mul ix145 ix142 (by omega) (by omega)) (fun x146 ix146 => ?_)
                  refine ok_ltI (tw_q ty140 (tt_p t)) (fun x147 ix147 => ?_)
                  refine ok_chk (nz ix147 (by omega)) ?_
                  refine ok_ltI (av_mod i1 ix147 (by omega) (by omega)) (fun x148 ix148 => ?_)
                  refine ok_ltI (av_mul iy3 ix148 (by omega) (by omega)) (fun x149 ix149 => ?_)
                  refine ok_ltI (av_add ix146 ix149 (by omega) (by omega)) (fun x150 ix150 => ?_)
                  refine ok_ltI (av_mul tn_4 i4 (by omega) (by omega)) (fun x151 ix151 => ?_)
                  refine ok_bnd (Q := fun (z : Int32) => (1 ≤ z.toInt ∧ z.toInt ≤ 1)) ?_ ?_
                  · refine ok_if (fun c7 => ?_) (fun c7 => ?_)
                    · have dc7 := tl_eq i3 tn_0 c7
                      exact ok_some (ti_bd tn_1 (by omega) (by omega))
                    · have dc7 := tl_ne i3 tn_0 c7
                      exfalso
                      omega
                  · intro y152 hyy152
                    have ly152 := hyy152
                    have iy152 : TI y152 (1) := ti_c ly152
                    refine ok_ltI (av_mul ix151 iy152 (by omega) (by omega)) (fun x153 ix153 => ?_)
                    refine ok_ltI (av_add ix150 ix153 (by omega) (by omega)) (fun x154 ix154 => ?_)
                    refine ok_bnd (Q := fun (z : Int32) => (1 ≤ z.toInt ∧ z.toInt ≤ 1)) ?_ ?_
                    · refine ok_if (fun c8 => ?_) (fun c8 => ?_)
                      · have dc8 := tl_eq i3 tn_0 c8
                        exact ok_some (ti_bd tn_1 (by omega) (by omega))
                      · have dc8 := tl_ne i3 tn_0 c8
                        exfalso
                        omega
                    · intro y155 hyy155
                      have ly155 := hyy155
                      have iy155 : TI y155 (1) := ti_c ly155
                      refine ok_bnd (Q := fun (z : Int32) => (32 ≤ z.toInt ∧ z.toInt ≤ 32)) ?_ ?_
                      · refine ok_if (fun c9 => ?_) (fun c9 => ?_)
                        · have dc9 := tl_eq i3 tn_0 c9
                          exact ok_some (ti_bd ix142 (by omega) (by omega))
                        · have dc9 := tl_ne i3 tn_0 c9
                          exfalso
                          omega
                      · intro y156 hyy156
                        have ly156 := hyy156
                        have iy156 : TI y156 (32) := ti_c ly156
                        have ky3 : y3.toInt = _ := iy3
                        refine ok_bnd (Q := fun (z : Int32 × DD) => (0 ≤ z.1.toInt ∧ z.1.toInt ≤ y3.toInt) ∧ TT G z.2 p 2 L ∧ Fr p [15, 18] M z.2) (ok_itr (fun (z : Int32 × DD) => (0 ≤ z.1.toInt ∧ z.1.toInt ≤ y3.toInt) ∧ TT G z.2 p 2 L ∧ Fr p [15, 18] M z.2) (fun z => (y3.toInt - z.1.toInt).toNat) ?_ _ _ ?_ ?_) ?_
                        · intro s158 hys158
                          obtain ⟨ls158_1, ts158_2, fs158_2⟩ := hys158
                          have is158_1 : TI s158.1 s158.1.toInt := rfl
                          refine ok_if (fun c10 => ?_) (fun c10 => ?_)
                          · have dc10 := tl_le iy3 is158_1 c10
                            exact ok_some ⟨(ti_bd is158_1 (by omega) (by omega)), ts158_2, fs158_2⟩
                          · have dc10 := tl_nle iy3 is158_1 c10
                            refine ok_bnd (Q := fun (z : Int32) => (0 ≤ z.toInt ∧ z.toInt ≤ 15)) ?_ ?_
                            · refine ok_if (fun c11 => ?_) (fun c11 => ?_)
                              · have dc11 := tl_eq i2 tn_0 c11
                                exact ok_some (ti_bd is158_1 (by omega) (by omega))
                              · have dc11 := tl_ne i2 tn_0 c11
                                exfalso
                                omega
                            · intro y162 hyy162
                              have ly162 := hyy162
                              have iy162 : TI y162 y162.toInt := rfl
                              refine ok_bnd (Q := fun (z : Int32) => (0 ≤ z.toInt ∧ z.toInt ≤ 0)) ?_ ?_
                              · refine ok_if (fun c12 => ?_) (fun c12 => ?_)
                                · have dc12 := tl_eq i2 tn_0 c12
                                  refine ok_ltI (av_mul tn_4 i4 (by omega) (by omega)) (fun x197 ix197 => ?_)
                                  exact ok_some (ti_bd ix197 (by omega) (by omega))
                                · have dc12 := tl_ne i2 tn_0 c12
                                  exfalso
                                  omega
                              · intro y163 hyy163
                                have ly163 := hyy163
                                have iy163 : TI y163 (0) := ti_c ly163
                                refine ok_bnd (Q := fun (z : Int32) => (0 ≤ z.toInt ∧ z.toInt ≤ 0)) ?_ ?_
                                · refine ok_if (fun c13 => ?_) (fun c13 => ?_)
                                  · have dc13 := tl_eq i3 tn_0 c13
                                    exact ok_some (ti_bd iy163 (by omega) (by omega))
                                  · have dc13 := tl_ne i3 tn_0 c13
                                    exfalso
                                    omega
                                · intro y164 hyy164
                                  have ly164 := hyy164
                                  have iy164 : TI y164 (0) := ti_c ly164
                                  refine ok_bnd (Q := fun (z : Int32) => (0 ≤ z.toInt ∧ z.toInt ≤ 15)) ?_ ?_
                                  · refine ok_if (fun c14 => ?_) (fun c14 => ?_)
                                    · have dc14 := tl_eq i3 tn_0 c14
                                      exact ok_some (ti_bd iy162 (by omega) (by omega))
                                    · have dc14 := tl_ne i3 tn_0 c14
                                      exfalso
                                      omega
                                  · intro y165 hyy165
                                    have ly165 := hyy165
                                    have iy165 : TI y165 y165.toInt := rfl
                                    refine ok_ltI (av_sar 3 iy165 (by decide)) (fun x166 ix166 => ?_)
                                    refine ok_ltI (av_mul ix166 tn_8 (by omega) (by omega)) (fun x167 ix167 => ?_)
                                    refine ok_ltI (av_sar 3 iy164 (by decide)) (fun x168 ix168 => ?_)
                                    refine ok_ltI (av_mul ix168 tn_4 (by omega) (by omega)) (fun x169 ix169 => ?_)
                                    refine ok_ltI (av_add ix167 ix169 (by omega) (by omega)) (fun x170 ix170 => ?_)
                                    refine ok_ltI (av_sar 2 iy165 (by decide)) (fun x171 ix171 => ?_)
                                    refine ok_ltI (av_and 1 ix171 (by decide) (by decide)) (fun x172 ix172 => ?_)
                                    refine ok_ltI (av_mul ix172 tn_2 (by omega) (by omega)) (fun x173 ix173 => ?_)
                                    refine ok_ltI (av_add ix170 ix173 (by omega) (by omega)) (fun x174 ix174 => ?_)
                                    refine ok_ltI (av_sar 2 iy164 (by decide)) (fun x175 ix175 => ?_)
                                    refine ok_ltI (av_and 1 ix175 (by decide) (by decide)) (fun x176 ix176 => ?_)
                                    refine ok_ltI (av_add ix174 ix176 (by omega) (by omega)) (fun x177 ix177 => ?_)
                                    refine ok_ltI (av_mul tn_16 i1 (by omega) (by omega)) (fun x178 ix178 => ?_)
                                    refine ok_ltI (av_add ix178 ix177 (by omega) (by omega)) (fun x179 ix179 => ?_)
                                    refine ok_ltI (av_mul tn_2 ix179 (by omega) (by omega)) (fun x180 ix180 => ?_)
                                    refine ok_ltI (av_add ix180 i3 (by omega) (by omega)) (fun x181 ix181 => ?_)
                                    refine ok_dr (f_r (b := 149) ts158_2 rfl (by decide)) (g_lt ts158_2 (by decide)) (g_k ts158_2 (by decide) rfl) ?_
                                    refine ok_chk (nxg (g_n (i := 149) (n := 1024) ts158_2 (by decide) rfl) ix181 (by omega) (by omega)) ?_
                                    refine ok_ltB (ib_t ts158_2 (by simp [TYL] : (149, 0, 4) ∈ TYL) _) (fun x183 lx183 => ?_)
                                    have ix183 : TI x183 x183.toInt := rfl
                                    refine ok_bnd (Q := fun (z : DD) => TT G z p 2 L ∧ Fr p [15, 18] M z) ?_ ?_
                                    · refine ok_if (fun c15 => ?_) (fun c15 => ?_)
                                      · have dc15 := tl_le ix183 tn_0 c15
                                        exact ok_some ⟨ts158_2, fs158_2⟩
                                      · have dc15 := tl_nle ix183 tn_0 c15
                                        refine ok_dr (pr_4 ts158_2 (tt_p t)) (by have q := (tt_q0b ts158_2 (tt_p t)); omega) (gk_2 ts158_2 (tt_p t)) ?_
                                        refine ok_chk (nxg (gl_2 ts158_2 (tt_p t)) i2 (by omega) (by omega)) ?_
                                        refine ok_ltI (av_mul is158_1 iy156 (by omega) (by omega)) (fun x188 ix188 => ?_)
                                        refine ok_ltI (av_add ix154 ix188 (by omega) (by omega)) (fun x189 ix189 => ?_)
                                        refine ok_bnd (Q := fun (z : Int32) => (1 ≤ z.toInt ∧ z.toInt ≤ 1)) ?_ ?_
                                        · refine ok_if (fun c16 => ?_) (fun c16 => ?_)
                                          · have dc16 := tl_eq i2 tn_0 c16
                                            exact ok_some (ti_bd tn_1 (by omega) (by omega))
                                          · have dc16 := tl_ne i2 tn_0 c16
                                            exfalso
                                            omega
                                        · intro y190 hyy190
                                          have ly190 := hyy190
                                          have iy190 : TI y190 (1) := ti_c ly190
                                          obtain ⟨j17, hj17, nj17, ej17⟩ := pp_z ts158_2 (tt_p t) i2 (by omega)
                                          refine ok_bnd (s_filterLine ts158_2 ej17 hj17 nj17 ix189 iy155 ix183 iy190 (by omega) (by omega) (by omega) (by omega) (by omega) (by omega) (by omega) (by omega)) ?_
                                          intro y191 hyy191
                                          obtain ⟨ty191, gy191⟩ := hyy191
                                          have fy191 := fr_tr fs158_2 gy191 rfl
                                          exact ok_some ⟨ty191, fy191⟩
                                    · intro y184 hyy184
                                      obtain ⟨ty184, fy184⟩ := hyy184
                                      refine ok_ltI (av_add is158_1 tn_1 (by omega) (by omega)) (fun x185 ix185 => ?_)
                                      exact ok_some ⟨⟨(ti_bd ix185 (by omega) (by omega)), ty184, fy184⟩, (mu_up ix185 (by omega) (by omega))⟩
                        · exact ⟨(ti_bd tn_0 (by omega) (by omega)), ty140, fy140⟩
                        · exact mu_0 tn_0 (by omega)
                        · intro y157 hyy157
                          obtain ⟨ly157_1, ty157_2, fy157_2⟩ := hyy157
                          have iy157_1 : TI y157.1 y157.1.toInt := rfl
                          exact ok_some ⟨ty157_2, fy157_2⟩
              · have dc5 := tl_ne i3 tn_0 c5
                exfalso
                omega
            · have dc4 := tl_ne i4 tn_0 c4
              refine ok_bnd (s_setThresholds t rfl iy4 i1 (by omega) (by omega) (by omega) (by omega)) ?_
              intro y6 hyy6
              obtain ⟨ty6, gy6⟩ := hyy6
              have fy6 := fr_tr (fr_0 p [15, 18] M) gy6 rfl
              refine ok_dr (tt_pic t) (by have q := (tt_q0b ty6 (tt_p t)); omega) (gk_0 ty6 (tt_p t)) ?_
              refine ok_ltI (tw_q ty6 (tt_p t)) (fun x8 ix8 => ?_)
              refine ok_ltI (av_mul iy3 ix8 (by omega) (by omega)) (fun x9 ix9 => ?_)
              refine ok_ltI (tw_q ty6 (tt_p t)) (fun x10 ix10 => ?_)
              refine ok_chk (nz ix10 (by omega)) ?_
              refine ok_ltI (av_div i1 ix10 (by omega) (by omega)) (fun x11 ix11 => ?_)
              refine ok_ltI (av_mul iy3 ix11 (by omega) (by omega)) (fun x12 ix12 => ?_)
              refine ok_ltI (av_mul ix12 ix9 (by omega) (by omega)) (fun x13 ix13 => ?_)
              refine ok_ltI (tw_q ty6 (tt_p t)) (fun x14 ix14 => ?_)
              refine ok_chk (nz ix14 (by omega)) ?_
              refine ok_ltI (av_mod i1 ix14 (by omega) (by omega)) (fun x15 ix15 => ?_)
              refine ok_ltI (av_mul iy3 ix15 (by omega) (by omega)) (fun x16 ix16 => ?_)
              refine ok_ltI (av_add ix13 ix16 (by omega) (by omega)) (fun x17 ix17 => ?_)
              refine ok_ltI (av_mul tn_4 i4 (by omega) (by omega)) (fun x18 ix18 => ?_)
              refine ok_bnd (Q := fun (z : Int32) => (1 ≤ z.toInt ∧ z.toInt ≤ 1)) ?_ ?_
              · refine ok_if (fun c18 => ?_) (fun c18 => ?_)
                · have dc18 := tl_eq i3 tn_0 c18
                  exact ok_some (ti_bd tn_1 (by omega) (by omega))
                · have dc18 := tl_ne i3 tn_0 c18
                  exfalso
                  omega
              · intro y19 hyy19
                have ly19 := hyy19
                have iy19 : TI y19 (1) := ti_c ly19
                refine ok_ltI (av_mul ix18 iy19 (by omega) (by omega)) (fun x20 ix20 => ?_)
                refine ok_ltI (av_add ix17 ix20 (by omega) (by omega)) (fun x21 ix21 => ?_)
                refine ok_bnd (Q := fun (z : Int32) => (1 ≤ z.toInt ∧ z.toInt ≤ 1)) ?_ ?_
                · refine ok_if (fun c19 => ?_) (fun c19 => ?_)
                  · have dc19 := tl_eq i3 tn_0 c19
                    exact ok_some (ti_bd tn_1 (by omega) (by omega))
                  · have dc19 := tl_ne i3 tn_0 c19
                    exfalso
                    omega
                · intro y22 hyy22
                  have ly22 := hyy22
                  have iy22 : TI y22 (1) := ti_c ly22
                  refine ok_bnd (Q := fun (z : Int32) => (32 ≤ z.toInt ∧ z.toInt ≤ 32)) ?_ ?_
                  · refine ok_if (fun c20 => ?_) (fun c20 => ?_)
                    · have dc20 := tl_eq i3 tn_0 c20
                      exact ok_some (ti_bd ix9 (by omega) (by omega))
                    · have dc20 := tl_ne i3 tn_0 c20
                      exfalso
                      omega
                  · intro y23 hyy23
                    have ly23 := hyy23
                    have iy23 : TI y23 (32) := ti_c ly23
                    have ky3 : y3.toInt = _ := iy3
                    refine ok_bnd (Q := fun (z : Int32 × DD) => (0 ≤ z.1.toInt ∧ z.1.toInt ≤ y3.toInt) ∧ TT G z.2 p 2 L ∧ Fr p [15, 18] M z.2) (ok_itr (fun (z : Int32 × DD) => (0 ≤ z.1.toInt ∧ z.1.toInt ≤ y3.toInt) ∧ TT G z.2 p 2 L ∧ Fr p [15, 18] M z.2) (fun z => (y3.toInt - z.1.toInt).toNat) ?_ _ _ ?_ ?_) ?_
                    · intro s25 hys25
                      obtain ⟨ls25_1, ts25_2, fs25_2⟩ := hys25
                      have is25_1 : TI s25.1 s25.1.toInt := rfl
                      refine ok_if (fun c21 => ?_) (fun c21 => ?_)
                      · have dc21 := tl_le iy3 is25_1 c21
                        exact ok_some ⟨(ti_bd is25_1 (by omega) (by omega)), ts25_2, fs25_2⟩
                      · have dc21 := tl_nle iy3 is25_1 c21
                        refine ok_bnd (Q := fun (z : Int32) => (0 ≤ z.toInt ∧ z.toInt ≤ 15)) ?_ ?_
                        · refine ok_if (fun c22 => ?_) (fun c22 => ?_)
                          · have dc22 := tl_eq i2 tn_0 c22
                            exact ok_some (ti_bd is25_1 (by omega) (by omega))
                          · have dc22 := tl_ne i2 tn_0 c22
                            exfalso
                            omega
                        · intro y29 hyy29
                          have ly29 := hyy29
                          have iy29 : TI y29 y29.toInt := rfl
                          refine ok_bnd (Q := fun (z : Int32) => (4 ≤ z.toInt ∧ z.toInt ≤ 12)) ?_ ?_
                          · refine ok_if (fun c23 => ?_) (fun c23 => ?_)
                            · have dc23 := tl_eq i2 tn_0 c23
                              refine ok_ltI (av_mul tn_4 i4 (by omega) (by omega)) (fun x64 ix64 => ?_)
                              exact ok_some (ti_bd ix64 (by omega) (by omega))
                            · have dc23 := tl_ne i2 tn_0 c23
                              exfalso
                              omega
                          · intro y30 hyy30
                            have ly30 := hyy30
                            have iy30 : TI y30 y30.toInt := rfl
                            refine ok_bnd (Q := fun (z : Int32) => (4 ≤ z.toInt ∧ z.toInt ≤ 12)) ?_ ?_
                            · refine ok_if (fun c24 => ?_) (fun c24 => ?_)
                              · have dc24 := tl_eq i3 tn_0 c24
                                exact ok_some (ti_bd iy30 (by omega) (by omega))
                              · have dc24 := tl_ne i3 tn_0 c24
                                exfalso
                                omega
                            · intro y31 hyy31
                              have ly31 := hyy31
                              have iy31 : TI y31 y31.toInt := rfl
                              refine ok_bnd (Q := fun (z : Int32) => (0 ≤ z.toInt ∧ z.toInt ≤ 15)) ?_ ?_
                              · refine ok_if (fun c25 => ?_) (fun c25 => ?_)
                                · have dc25 := tl_eq i3 tn_0 c25
                                  exact ok_some (ti_bd iy29 (by omega) (by omega))
                                · have dc25 := tl_ne i3 tn_0 c25
                                  exfalso
                                  omega
                              · intro y32 hyy32
                                have ly32 := hyy32
                                have iy32 : TI y32 y32.toInt := rfl
                                refine ok_ltI (av_sar 3 iy32 (by decide)) (fun x33 ix33 => ?_)
                                refine ok_ltI (av_mul ix33 tn_8 (by omega) (by omega)) (fun x34 ix34 => ?_)
                                refine ok_ltI (av_sar 3 iy31 (by decide)) (fun x35 ix35 => ?_)
                                refine ok_ltI (av_mul ix35 tn_4 (by omega) (by omega)) (fun x36 ix36 => ?_)
                                refine ok_ltI (av_add ix34 ix36 (by omega) (by omega)) (fun x37 ix37 => ?_)
                                refine ok_ltI (av_sar 2 iy32 (by decide)) (fun x38 ix38 => ?_)
                                refine ok_ltI (av_and 1 ix38 (by decide) (by decide)) (fun x39 ix39 => ?_)
                                refine ok_ltI (av_mul ix39 tn_2 (by omega) (by omega)) (fun x40 ix40 => ?_)
                                refine ok_ltI (av_add ix37 ix40 (by omega) (by omega)) (fun x41 ix41 => ?_)
                                refine ok_ltI (av_sar 2 iy31 (by decide)) (fun x42 ix42 => ?_)
                                refine ok_ltI (av_and 1 ix42 (by decide) (by decide)) (fun x43 ix43 => ?_)
                                refine ok_ltI (av_add ix41 ix43 (by omega) (by omega)) (fun x44 ix44 => ?_)
                                refine ok_ltI (av_mul tn_16 i1 (by omega) (by omega)) (fun x45 ix45 => ?_)
                                refine ok_ltI (av_add ix45 ix44 (by omega) (by omega)) (fun x46 ix46 => ?_)
                                refine ok_ltI (av_mul tn_2 ix46 (by omega) (by omega)) (fun x47 ix47 => ?_)
                                refine ok_ltI (av_add ix47 i3 (by omega) (by omega)) (fun x48 ix48 => ?_)
                                refine ok_dr (f_r (b := 149) ts25_2 rfl (by decide)) (g_lt ts25_2 (by decide)) (g_k ts25_2 (by decide) rfl) ?_
                                refine ok_chk (nxg (g_n (i := 149) (n := 1024) ts25_2 (by decide) rfl) ix48 (by omega) (by omega)) ?_
                                refine ok_ltB (ib_t ts25_2 (by simp [TYL] : (149, 0, 4) ∈ TYL) _) (fun x50 lx50 => ?_)
                                have ix50 : TI x50 x50.toInt := rfl
                                refine ok_bnd (Q := fun (z : DD) => TT G z p 2 L ∧ Fr p [15, 18] M z) ?_ ?_
                                · refine ok_if (fun c26 => ?_) (fun c26 => ?_)
                                  · have dc26 := tl_le ix50 tn_0 c26
                                    exact ok_some ⟨ts25_2, fs25_2⟩
                                  · have dc26 := tl_nle ix50 tn_0 c26
                                    refine ok_dr (pr_4 ts25_2 (tt_p t)) (by have q := (tt_q0b ts25_2 (tt_p t)); omega) (gk_2 ts25_2 (tt_p t)) ?_
                                    refine ok_chk (nxg (gl_2 ts25_2 (tt_p t)) i2 (by omega) (by omega)) ?_
                                    refine ok_ltI (av_mul is25_1 iy23 (by omega) (by omega)) (fun x55 ix55 => ?_)
                                    refine ok_ltI (av_add ix21 ix55 (by omega) (by omega)) (fun x56 ix56 => ?_)
                                    refine ok_bnd (Q := fun (z : Int32) => (1 ≤ z.toInt ∧ z.toInt ≤ 1)) ?_ ?_
                                    · refine ok_if (fun c27 => ?_) (fun c27 => ?_)
                                      · have dc27 := tl_eq i2 tn_0 c27
                                        exact ok_some (ti_bd tn_1 (by omega) (by omega))
                                      · have dc27 := tl_ne i2 tn_0 c27
                                        exfalso
                                        omega
                                    · intro y57 hyy57
                                      have ly57 := hyy57
                                      have iy57 : TI y57 (1) := ti_c ly57
                                      obtain ⟨j28, hj28, nj28, ej28⟩ := pp_z ts25_2 (tt_p t) i2 (by omega)
                                      refine ok_bnd (s_filterLine ts25_2 ej28 hj28 nj28 ix56 iy22 ix50 iy57 (by omega) (by omega) (by omega) (by omega) (by omega) (by omega) (by omega) (by omega)) ?_
                                      intro y58 hyy58
                                      obtain ⟨ty58, gy58⟩ := hyy58
                                      have fy58 := fr_tr fs25_2 gy58 rfl
                                      exact ok_some ⟨ty58, fy58⟩
                                · intro y51 hyy51
                                  obtain ⟨ty51, fy51⟩ := hyy51
                                  refine ok_ltI (av_add is25_1 tn_1 (by omega) (by omega)) (fun x52 ix52 => ?_)
                                  exact ok_some ⟨⟨(ti_bd ix52 (by omega) (by omega)), ty51, fy51⟩, (mu_up ix52 (by omega) (by omega))⟩
                    · exact ⟨(ti_bd tn_0 (by omega) (by omega)), ty6, fy6⟩
                    · exact mu_0 tn_0 (by omega)
                    · intro y24 hyy24
                      obtain ⟨ly24_1, ty24_2, fy24_2⟩ := hyy24
                      have iy24_1 : TI y24.1 y24.1.toInt := rfl
                      exact ok_some ⟨ty24_2, fy24_2⟩
      · refine ok_dr rfl (g_lt t (by decide)) (g_k t (by decide) rfl) ?_
        refine ok_bnd (Q := fun (z : Int32) => (16 ≤ z.toInt ∧ z.toInt ≤ 16)) ?_ ?_
        · refine ok_if (fun c1 => ?_) (fun c1 => ?_)
          · have dc1 := tl_eq i2 tn_0 c1
            exact ok_some (ti_bd tn_16 (by omega) (by omega))
          · have dc1 := tl_ne i2 tn_0 c1
            exfalso
            omega
        · intro y3 hyy3
          have ly3 := hyy3
          have iy3 : TI y3 (16) := ti_c ly3
          refine ok_bnd (Q := fun (z : Int32) => (-2 ≤ z.toInt ∧ z.toInt ≤ 3) ∧ ((a4 = 0 → (1 = 0 → z.toInt = a1 - 1) ∧ (1 = 1 → z.toInt = a1 - 2)) ∧ (1 ≤ a4 → z.toInt = a1))) ?_ ?_
          · refine ok_if (fun c2 => ?_) (fun c2 => ?_)
            · have dc2 := tl_le i4 tn_0 c2
              refine ok_bnd (Q := fun (z : Int32) => (-2 ≤ z.toInt ∧ z.toInt ≤ 1) ∧ ((1 = 0 → z.toInt = a1 - 1) ∧ (1 = 1 → z.toInt = a1 - 2))) ?_ ?_
              · refine ok_if (fun c3 => ?_) (fun c3 => ?_)
                · have dc3 := tl_eq i3 tn_0 c3
                  exfalso
                  omega
                · have dc3 := tl_ne i3 tn_0 c3
                  refine ok_dr (tt_pic t) (by have q := (tt_q0b t (tt_p t)); omega) (gk_0 t (tt_p t)) ?_
                  refine ok_ltI (tw_q t (tt_p t)) (fun x207 ix207 => ?_)
                  refine ok_ltI (av_sub i1 ix207 (by omega) (by omega)) (fun x208 ix208 => ?_)
                  exact ok_some ⟨(ti_bd ix208 (by omega) (by omega)), (by have q : _ = _ := ix208; (try dsimp only); omega)⟩
              · intro y204 hyy204
                obtain ⟨ly204, jy204⟩ := hyy204
                have iy204 : TI y204 y204.toInt := rfl
                exact ok_some ⟨(ti_bd iy204 (by omega) (by omega)), (by have q : _ = _ := iy204; (try dsimp only); omega)⟩
            · have dc2 := tl_nle i4 tn_0 c2
              exact ok_some ⟨(ti_bd i1 (by omega) (by omega)), (by have q : _ = _ := i1; (try dsimp only); omega)⟩
          · intro y4 hyy4
            obtain ⟨ly4, jy4⟩ := hyy4
            have iy4 : TI y4 y4.toInt := rfl
            refine ok_if (fun c4 => ?_) (fun c4 => ?_)
            · have dc4 := tl_eq i4 tn_0 c4
              refine ok_if (fun c5 => ?_) (fun c5 => ?_)
              · have dc5 := tl_eq i3 tn_0 c5
                exfalso
                omega
              · have dc5 := tl_ne i3 tn_0 c5
                refine ok_if (fun c6 => ?_) (fun c6 => ?_)
                · have dc6 := tl_le tn_0 iy4 c6
                  refine ok_bnd (s_setThresholds t rfl iy4 i1 (by omega) (by omega) (by omega) (by omega)) ?_
                  intro y72 hyy72
                  obtain ⟨ty72, gy72⟩ := hyy72
                  have fy72 := fr_tr (fr_0 p [15, 18] M) gy72 rfl
                  refine ok_dr (tt_pic t) (by have q := (tt_q0b ty72 (tt_p t)); omega) (gk_0 ty72 (tt_p t)) ?_
                  refine ok_ltI (tw_q ty72 (tt_p t)) (fun x74 ix74 => ?_)
                  refine ok_ltI (av_mul iy3 ix74 (by omega) (by omega)) (fun x75 ix75 => ?_)
                  refine ok_ltI (tw_q ty72 (tt_p t)) (fun x76 ix76 => ?_)
                  refine ok_chk (nz ix76 (by omega)) ?_
                  refine ok_ltI (av_div i1 ix76 (by omega) (by omega)) (fun x77 ix77 => ?_)
                  refine ok_ltI (av_mul iy3 ix77 (by omega) (by omega)) (fun x78 ix78 => ?_)
                  refine ok_ltI (av_mul ix78 ix75 (by omega) (by omega)) (fun x79 ix79 => ?_)
                  refine ok_ltI (tw_q ty72 (tt_p t)) (fun x80 ix80 => ?_)
                  refine ok_chk (nz ix80 (by omega)) ?_
                  refine ok_ltI (av_mod i1 ix80 (by omega) (by omega)) (fun x81 ix81 => ?_)
                  refine ok_ltI (av_mul iy3 ix81 (by omega) (by omega)) (fun x82 ix82 => ?_)
                  refine ok_ltI (av_add ix79 ix82 (by omega) (by omega)) (fun x83 ix83 => ?_)
                  refine ok_ltI (av_mul tn_4 i4 (by omega) (by omega)) (fun x84 ix84 => ?_)
                  refine ok_bnd (Q := fun (z : Int32) => (32 ≤ z.toInt ∧ z.toInt ≤ 32)) ?_ ?_
                  · refine ok_if (fun c7 => ?_) (fun c7 => ?_)
                    · have dc7 := tl_eq i3 tn_0 c7
                      exfalso
                      omega
                    · have dc7 := tl_ne i3 tn_0 c7
                      exact ok_some (ti_bd ix75 (by omega) (by omega))
                  · intro y85 hyy85
                    have ly85 := hyy85
                    have iy85 : TI y85 (32) := ti_c ly85
                    refine ok_ltI (av_mul ix84 iy85 (by omega) (by omega)) (fun x86 ix86 => ?_)
                    refine ok_ltI (av_add ix83 ix86 (by omega) (by omega)) (fun x87 ix87 => ?_)
                    refine ok_bnd (Q := fun (z : Int32) => (32 ≤ z.toInt ∧ z.toInt ≤ 32)) ?_ ?_
                    · refine ok_if (fun c8 => ?_) (fun c8 => ?_)
                      · have dc8 := tl_eq i3 tn_0 c8
                        exfalso
                        omega
                      · have dc8 := tl_ne i3 tn_0 c8
                        exact ok_some (ti_bd ix75 (by omega) (by omega))
                    · intro y88 hyy88
                      have ly88 := hyy88
                      have iy88 : TI y88 (32) := ti_c ly88
                      refine ok_bnd (Q := fun (z : Int32) => (1 ≤ z.toInt ∧ z.toInt ≤ 1)) ?_ ?_
                      · refine ok_if (fun c9 => ?_) (fun c9 => ?_)
                        · have dc9 := tl_eq i3 tn_0 c9
                          exfalso
                          omega
                        · have dc9 := tl_ne i3 tn_0 c9
                          exact ok_some (ti_bd tn_1 (by omega) (by omega))
                      · intro y89 hyy89
                        have ly89 := hyy89
                        have iy89 : TI y89 (1) := ti_c ly89
                        have ky3 : y3.toInt = _ := iy3
                        refine ok_bnd (Q := fun (z : Int32 × DD) => (0 ≤ z.1.toInt ∧ z.1.toInt ≤ y3.toInt) ∧ TT G z.2 p 2 L ∧ Fr p [15, 18] M z.2) (ok_itr (fun (z : Int32 × DD) => (0 ≤ z.1.toInt ∧ z.1.toInt ≤ y3.toInt) ∧ TT G z.2 p 2 L ∧ Fr p [15, 18] M z.2) (fun z => (y3.toInt - z.1.toInt).toNat) ?_ _ _ ?_ ?_) ?_
                        · intro s91 hys91
                          obtain ⟨ls91_1, ts91_2, fs91_2⟩ := hys91
                          have is91_1 : TI s91.1 s91.1.toInt := rfl
                          refine ok_if (fun c10 => ?_) (fun c10 => ?_)
                          · have dc10 := tl_le iy3 is91_1 c10
                            exact ok_some ⟨(ti_bd is91_1 (by omega) (by omega)), ts91_2, fs91_2⟩
                          · have dc10 := tl_nle iy3 is91_1 c10
                            refine ok_bnd (Q := fun (z : Int32) => (0 ≤ z.toInt ∧ z.toInt ≤ 15)) ?_ ?_
                            · refine ok_if (fun c11 => ?_) (fun c11 => ?_)
                              · have dc11 := tl_eq i2 tn_0 c11
                                exact ok_some (ti_bd is91_1 (by omega) (by omega))
                              · have dc11 := tl_ne i2 tn_0 c11
                                exfalso
                                omega
                            · intro y95 hyy95
                              have ly95 := hyy95
                              have iy95 : TI y95 y95.toInt := rfl
                              refine ok_bnd (Q := fun (z : Int32) => (0 ≤ z.toInt ∧ z.toInt ≤ 0)) ?_ ?_
                              · refine ok_if (fun c12 => ?_) (fun c12 => ?_)
                                · have dc12 := tl_eq i2 tn_0 c12
                                  refine ok_ltI (av_mul tn_4 i4 (by omega) (by omega)) (fun x130 ix130 => ?_)
                                  exact ok_some (ti_bd ix130 (by omega) (by omega))
                                · have dc12 := tl_ne i2 tn_0 c12
                                  exfalso
                                  omega
                              · intro y96 hyy96
                                have ly96 := hyy96
                                have iy96 : TI y96 (0) := ti_c ly96
                                refine ok_bnd (Q := fun (z : Int32) => (0 ≤ z.toInt ∧ z.toInt ≤ 15)) ?_ ?_
                                · refine ok_if (fun c13 => ?_) (fun c13 => ?_)
                                  · have dc13 := tl_eq i3 tn_0 c13
                                    exfalso
                                    omega
                                  · have dc13 := tl_ne i3 tn_0 c13
                                    exact ok_some (ti_bd iy95 (by omega) (by omega))
                                · intro y97 hyy97
                                  have ly97 := hyy97
                                  have iy97 : TI y97 y97.toInt := rfl
                                  refine ok_bnd (Q := fun (z : Int32) => (0 ≤ z.toInt ∧ z.toInt ≤ 0)) ?_ ?_
                                  · refine ok_if (fun c14 => ?_) (fun c14 => ?_)
                                    · have dc14 := tl_eq i3 tn_0 c14
                                      exfalso
                                      omega
                                    · have dc14 := tl_ne i3 tn_0 c14
                                      exact ok_some (ti_bd iy96 (by omega) (by omega))
                                  · intro y98 hyy98
                                    have ly98 := hyy98
                                    have iy98 : TI y98 (0) := ti_c ly98
                                    refine ok_ltI (av_sar 3 iy98 (by decide)) (fun x99 ix99 => ?_)
                                    refine ok_ltI (av_mul ix99 tn_8 (by omega) (by omega)) (fun x100 ix100 => ?_)
                                    refine ok_ltI (av_sar 3 iy97 (by decide)) (fun x101 ix101 => ?_)
                                    refine ok_ltI (av_mul ix101 tn_4 (by omega) (by omega)) (fun x102 ix102 => ?_)
                                    refine ok_ltI (av_add ix100 ix102 (by omega) (by omega)) (fun x103 ix103 => ?_)
                                    refine ok_ltI (av_sar 2 iy98 (by decide)) (fun x104 ix104 => ?_)
                                    refine ok_ltI (av_and 1 ix104 (by decide) (by decide)) (fun x105 ix105 => ?_)
                                    refine ok_ltI (av_mul ix105 tn_2 (by omega) (by omega)) (fun x106 ix106 => ?_)
                                    refine ok_ltI (av_add ix103 ix106 (by omega) (by omega)) (fun x107 ix107 => ?_)
                                    refine ok_ltI (av_sar 2 iy97 (by decide)) (fun x108 ix108 => ?_)
                                    refine ok_ltI (av_and 1 ix108 (by decide) (by decide)) (fun x109 ix109 => ?_)
                                    refine ok_ltI (av_add ix107 ix109 (by omega) (by omega)) (fun x110 ix110 => ?_)
                                    refine ok_ltI (av_mul tn_16 i1 (by omega) (by omega)) (fun x111 ix111 => ?_)
                                    refine ok_ltI (av_add ix111 ix110 (by omega) (by omega)) (fun x112 ix112 => ?_)
                                    refine ok_ltI (av_mul tn_2 ix112 (by omega) (by omega)) (fun x113 ix113 => ?_)
                                    refine ok_ltI (av_add ix113 i3 (by omega) (by omega)) (fun x114 ix114 => ?_)
                                    refine ok_dr (f_r (b := 149) ts91_2 rfl (by decide)) (g_lt ts91_2 (by decide)) (g_k ts91_2 (by decide) rfl) ?_
                                    refine ok_chk (nxg (g_n (i := 149) (n := 1024) ts91_2 (by decide) rfl) ix114 (by omega) (by omega)) ?_
                                    refine ok_ltB (ib_t ts91_2 (by simp [TYL] : (149, 0, 4) ∈ TYL) _) (fun x116 lx116 => ?_)
                                    have ix116 : TI x116 x116.toInt := rfl
                                    refine ok_bnd (Q := fun (z : DD) => TT G z p 2 L ∧ Fr p [15, 18] M z) ?_ ?_
                                    · refine ok_if (fun c15 => ?_) (fun c15 => ?_)
                                      · have dc15 := tl_le ix116 tn_0 c15
                                        exact ok_some ⟨ts91_2, fs91_2⟩
                                      · have dc15 := tl_nle ix116 tn_0 c15
                                        refine ok_dr (pr_4 ts91_2 (tt_p t)) (by have q := (tt_q0b ts91_2 (tt_p t)); omega) (gk_2 ts91_2 (tt_p t)) ?_
                                        refine ok_chk (nxg (gl_2 ts91_2 (tt_p t)) i2 (by omega) (by omega)) ?_
                                        refine ok_ltI (av_mul is91_1 iy89 (by omega) (by omega)) (fun x121 ix121 => ?_)
                                        refine ok_ltI (av_add ix87 ix121 (by omega) (by omega)) (fun x122 ix122 => ?_)
                                        refine ok_bnd (Q := fun (z : Int32) => (1 ≤ z.toInt ∧ z.toInt ≤ 1)) ?_ ?_
                                        · refine ok_if (fun c16 => ?_) (fun c16 => ?_)
                                          · have dc16 := tl_eq i2 tn_0 c16
                                            exact ok_some (ti_bd tn_1 (by omega) (by omega))
                                          · have dc16 := tl_ne i2 tn_0 c16
                                            exfalso
                                            omega
                                        · intro y123 hyy123
                                          have ly123 := hyy123
                                          have iy123 : TI y123 (1) := ti_c ly123
                                          obtain ⟨j17, hj17, nj17, ej17⟩ := pp_z ts91_2 (tt_p t) i2 (by omega)
                                          refine ok_bnd (s_filterLine ts91_2 ej17 hj17 nj17 ix122 iy88 ix116 iy123 (by omega) (by omega) (by omega) (by omega) (by omega) (by omega) (by omega) (by omega)) ?_
                                          intro y124 hyy124
                                          obtain ⟨ty124, gy124⟩ := hyy124
                                          have fy124 := fr_tr fs91_2 gy124 rfl
                                          exact ok_some ⟨ty124, fy124⟩
                                    · intro y117 hyy117
                                      obtain ⟨ty117, fy117⟩ := hyy117
                                      refine ok_ltI (av_add is91_1 tn_1 (by omega) (by omega)) (fun x118 ix118 => ?_)
                                      exact ok_some ⟨⟨(ti_bd ix118 (by omega) (by omega)), ty117, fy117⟩, (mu_up ix118 (by omega) (by omega))⟩
                        · exact ⟨(ti_bd tn_0 (by omega) (by omega)), ty72, fy72⟩
                        · exact mu_0 tn_0 (by omega)
                        · intro y90 hyy90
                          obtain ⟨ly90_1, ty90_2, fy90_2⟩ := hyy90
                          have iy90_1 : TI y90.1 y90.1.toInt := rfl
                          exact ok_some ⟨ty90_2, fy90_2⟩
                · have dc6 := tl_nle tn_0 iy4 c6
                  exact ok_some ⟨t, (fr_0 p [15, 18] M)⟩
            · have dc4 := tl_ne i4 tn_0 c4
              refine ok_bnd (s_setThresholds t rfl iy4 i1 (by omega) (by omega) (by omega) (by omega)) ?_
              intro y6 hyy6
              obtain ⟨ty6, gy6⟩ := hyy6
              have fy6 := fr_tr (fr_0 p [15, 18] M) gy6 rfl
              refine ok_dr (tt_pic t) (by have q := (tt_q0b ty6 (tt_p t)); omega) (gk_0 ty6 (tt_p t)) ?_
              refine ok_ltI (tw_q ty6 (tt_p t)) (fun x8 ix8 => ?_)
              refine ok_ltI (av_mul iy3 ix8 (by omega) (by omega)) (fun x9 ix9 => ?_)
              refine ok_ltI (tw_q ty6 (tt_p t)) (fun x10 ix10 => ?_)
              refine ok_chk (nz ix10 (by omega)) ?_
              refine ok_ltI (av_div i1 ix10 (by omega) (by omega)) (fun x11 ix11 => ?_)
              refine ok_ltI (av_mul iy3 ix11 (by omega) (by omega)) (fun x12 ix12 => ?_)
              refine ok_ltI (av_mul ix12 ix9 (by omega) (by omega)) (fun x13 ix13 => ?_)
              refine ok_ltI (tw_q ty6 (tt_p t)) (fun x14 ix14 => ?_)
              refine ok_chk (nz ix14 (by omega)) ?_
              refine ok_ltI (av_mod i1 ix14 (by omega) (by omega)) (fun x15 ix15 => ?_)
              refine ok_ltI (av_mul iy3 ix15 (by omega) (by omega)) (fun x16 ix16 => ?_)
              refine ok_ltI (av_add ix13 ix16 (by omega) (by omega)) (fun x17 ix17 => ?_)
              refine ok_ltI (av_mul tn_4 i4 (by omega) (by omega)) (fun x18 ix18 => ?_)
              refine ok_bnd (Q := fun (z : Int32) => (32 ≤ z.toInt ∧ z.toInt ≤ 32)) ?_ ?_
              · refine ok_if (fun c18 => ?_) (fun c18 => ?_)
                · have dc18 := tl_eq i3 tn_0 c18
                  exfalso
                  omega
                · have dc18 := tl_ne i3 tn_0 c18
                  exact ok_some (ti_bd ix9 (by omega) (by omega))
              · intro y19 hyy19
                have ly19 := hyy19
                have iy19 : TI y19 (32) := ti_c ly19
                refine ok_ltI (av_mul ix18 iy19 (by omega) (by omega)) (fun x20 ix20 => ?_)
                refine ok_ltI (av_add ix17 ix20 (by omega) (by omega)) (fun x21 ix21 => ?_)
                refine ok_bnd (Q := fun (z : Int32) => (32 ≤ z.toInt ∧ z.toInt ≤ 32)) ?_ ?_
                · refine ok_if (fun c19 => ?_) (fun c19 => ?_)
                  · have dc19 := tl_eq i3 tn_0 c19
                    exfalso
                    omega
                  · have dc19 := tl_ne i3 tn_0 c19
                    exact ok_some (ti_bd ix9 (by omega) (by omega))
                · intro y22 hyy22
                  have ly22 := hyy22
                  have iy22 : TI y22 (32) := ti_c ly22
                  refine ok_bnd (Q := fun (z : Int32) => (1 ≤ z.toInt ∧ z.toInt ≤ 1)) ?_ ?_
                  · refine ok_if (fun c20 => ?_) (fun c20 => ?_)
                    · have dc20 := tl_eq i3 tn_0 c20
                      exfalso
                      omega
                    · have dc20 := tl_ne i3 tn_0 c20
                      exact ok_some (ti_bd tn_1 (by omega) (by omega))
                  · intro y23 hyy23
                    have ly23 := hyy23
                    have iy23 : TI y23 (1) := ti_c ly23
                    have ky3 : y3.toInt = _ := iy3
                    refine ok_bnd (Q := fun (z : Int32 × DD) => (0 ≤ z.1.toInt ∧ z.1.toInt ≤ y3.toInt) ∧ TT G z.2 p 2 L ∧ Fr p [15, 18] M z.2) (ok_itr (fun (z : Int32 × DD) => (0 ≤ z.1.toInt ∧ z.1.toInt ≤ y3.toInt) ∧ TT G z.2 p 2 L ∧ Fr p [15, 18] M z.2) (fun z => (y3.toInt - z.1.toInt).toNat) ?_ _ _ ?_ ?_) ?_
                    · intro s25 hys25
                      obtain ⟨ls25_1, ts25_2, fs25_2⟩ := hys25
                      have is25_1 : TI s25.1 s25.1.toInt := rfl
                      refine ok_if (fun c21 => ?_) (fun c21 => ?_)
                      · have dc21 := tl_le iy3 is25_1 c21
                        exact ok_some ⟨(ti_bd is25_1 (by omega) (by omega)), ts25_2, fs25_2⟩
                      · have dc21 := tl_nle iy3 is25_1 c21
                        refine ok_bnd (Q := fun (z : Int32) => (0 ≤ z.toInt ∧ z.toInt ≤ 15)) ?_ ?_
                        · refine ok_if (fun c22 => ?_) (fun c22 => ?_)
                          · have dc22 := tl_eq i2 tn_0 c22
                            exact ok_some (ti_bd is25_1 (by omega) (by omega))
                          · have dc22 := tl_ne i2 tn_0 c22
                            exfalso
                            omega
                        · intro y29 hyy29
                          have ly29 := hyy29
                          have iy29 : TI y29 y29.toInt := rfl
                          refine ok_bnd (Q := fun (z : Int32) => (4 ≤ z.toInt ∧ z.toInt ≤ 12)) ?_ ?_
                          · refine ok_if (fun c23 => ?_) (fun c23 => ?_)
                            · have dc23 := tl_eq i2 tn_0 c23
                              refine ok_ltI (av_mul tn_4 i4 (by omega) (by omega)) (fun x64 ix64 => ?_)
                              exact ok_some (ti_bd ix64 (by omega) (by omega))
                            · have dc23 := tl_ne i2 tn_0 c23
                              exfalso
                              omega
                          · intro y30 hyy30
                            have ly30 := hyy30
                            have iy30 : TI y30 y30.toInt := rfl
                            refine ok_bnd (Q := fun (z : Int32) => (0 ≤ z.toInt ∧ z.toInt ≤ 15)) ?_ ?_
                            · refine ok_if (fun c24 => ?_) (fun c24 => ?_)
                              · have dc24 := tl_eq i3 tn_0 c24
                                exfalso
                                omega
                              · have dc24 := tl_ne i3 tn_0 c24
                                exact ok_some (ti_bd iy29 (by omega) (by omega))
                            · intro y31 hyy31
                              have ly31 := hyy31
                              have iy31 : TI y31 y31.toInt := rfl
                              refine ok_bnd (Q := fun (z : Int32) => (4 ≤ z.toInt ∧ z.toInt ≤ 12)) ?_ ?_
                              · refine ok_if (fun c25 => ?_) (fun c25 => ?_)
                                · have dc25 := tl_eq i3 tn_0 c25
                                  exfalso
                                  omega
                                · have dc25 := tl_ne i3 tn_0 c25
                                  exact ok_some (ti_bd iy30 (by omega) (by omega))
                              · intro y32 hyy32
                                have ly32 := hyy32
                                have iy32 : TI y32 y32.toInt := rfl
                                refine ok_ltI (av_sar 3 iy32 (by decide)) (fun x33 ix33 => ?_)
                                refine ok_ltI (av_mul ix33 tn_8 (by omega) (by omega)) (fun x34 ix34 => ?_)
                                refine ok_ltI (av_sar 3 iy31 (by decide)) (fun x35 ix35 => ?_)
                                refine ok_ltI (av_mul ix35 tn_4 (by omega) (by omega)) (fun x36 ix36 => ?_)
                                refine ok_ltI (av_add ix34 ix36 (by omega) (by omega)) (fun x37 ix37 => ?_)
                                refine ok_ltI (av_sar 2 iy32 (by decide)) (fun x38 ix38 => ?_)
                                refine ok_ltI (av_and 1 ix38 (by decide) (by decide)) (fun x39 ix39 => ?_)
                                refine ok_ltI (av_mul ix39 tn_2 (by omega) (by omega)) (fun x40 ix40 => ?_)
                                refine ok_ltI (av_add ix37 ix40 (by omega) (by omega)) (fun x41 ix41 => ?_)
                                refine ok_ltI (av_sar 2 iy31 (by decide)) (fun x42 ix42 => ?_)
                                refine ok_ltI (av_and 1 ix42 (by decide) (by decide)) (fun x43 ix43 => ?_)
                                refine ok_ltI (av_add ix41 ix43 (by omega) (by omega)) (fun x44 ix44 => ?_)
                                refine ok_ltI (av_mul tn_16 i1 (by omega) (by omega)) (fun x45 ix45 => ?_)
                                refine ok_ltI (av_add ix45 ix44 (by omega) (by omega)) (fun x46 ix46 => ?_)
                                refine ok_ltI (av_mul tn_2 ix46 (by omega) (by omega)) (fun x47 ix47 => ?_)
                                refine ok_ltI (av_add ix47 i3 (by omega) (by omega)) (fun x48 ix48 => ?_)
                                refine ok_dr (f_r (b := 149) ts25_2 rfl (by decide)) (g_lt ts25_2 (by decide)) (g_k ts25_2 (by decide) rfl) ?_
                                refine ok_chk (nxg (g_n (i := 149) (n := 1024) ts25_2 (by decide) rfl) ix48 (by omega) (by omega)) ?_
                                refine ok_ltB (ib_t ts25_2 (by simp [TYL] : (149, 0, 4) ∈ TYL) _) (fun x50 lx50 => ?_)
                                have ix50 : TI x50 x50.toInt := rfl
                                refine ok_bnd (Q := fun (z : DD) => TT G z p 2 L ∧ Fr p [15, 18] M z) ?_ ?_
                                · refine ok_if (fun c26 => ?_) (fun c26 => ?_)
                                  · have dc26 := tl_le ix50 tn_0 c26
                                    exact ok_some ⟨ts25_2, fs25_2⟩
                                  · have dc26 := tl_nle ix50 tn_0 c26
                                    refine ok_dr (pr_4 ts25_2 (tt_p t)) (by have q := (tt_q0b ts25_2 (tt_p t)); omega) (gk_2 ts25_2 (tt_p t)) ?_
                                    refine ok_chk (nxg (gl_2 ts25_2 (tt_p t)) i2 (by omega) (by omega)) ?_
                                    refine ok_ltI (av_mul is25_1 iy23 (by omega) (by omega)) (fun x55 ix55 => ?_)
                                    refine ok_ltI (av_add ix21 ix55 (by omega) (by omega)) (fun x56 ix56 => ?_)
                                    refine ok_bnd (Q := fun (z : Int32) => (1 ≤ z.toInt ∧ z.toInt ≤ 1)) ?_ ?_
                                    · refine ok_if (fun c27 => ?_) (fun c27 => ?_)
                                      · have dc27 := tl_eq i2 tn_0 c27
                                        exact ok_some (ti_bd tn_1 (by omega) (by omega))
                                      · have dc27 := tl_ne i2 tn_0 c27
                                        exfalso
                                        omega
                                    · intro y57 hyy57
                                      have ly57 := hyy57
                                      have iy57 : TI y57 (1) := ti_c ly57
                                      obtain ⟨j28, hj28, nj28, ej28⟩ := pp_z ts25_2 (tt_p t) i2 (by omega)
                                      refine ok_bnd (s_filterLine ts25_2 ej28 hj28 nj28 ix56 iy22 ix50 iy57 (by omega) (by omega) (by omega) (by omega) (by omega) (by omega) (by omega) (by omega)) ?_
                                      intro y58 hyy58
                                      obtain ⟨ty58, gy58⟩ := hyy58
                                      have fy58 := fr_tr fs25_2 gy58 rfl
                                      exact ok_some ⟨ty58, fy58⟩
                                · intro y51 hyy51
                                  obtain ⟨ty51, fy51⟩ := hyy51
                                  refine ok_ltI (av_add is25_1 tn_1 (by omega) (by omega)) (fun x52 ix52 => ?_)
                                  exact ok_some ⟨⟨(ti_bd ix52 (by omega) (by omega)), ty51, fy51⟩, (mu_up ix52 (by omega) (by omega))⟩
                    · exact ⟨(ti_bd tn_0 (by omega) (by omega)), ty6, fy6⟩
                    · exact mu_0 tn_0 (by omega)
                    · intro y24 hyy24
                      obtain ⟨ly24_1, ty24_2, fy24_2⟩ := hyy24
                      have iy24_1 : TI y24.1 y24.1.toInt := rfl
                      exact ok_some ⟨ty24_2, fy24_2⟩
    · rcases h3 with rfl | rfl
      · refine ok_dr rfl (g_lt t (by decide)) (g_k t (by decide) rfl) ?_
        refine ok_bnd (Q := fun (z : Int32) => (8 ≤ z.toInt ∧ z.toInt ≤ 8)) ?_ ?_
        · refine ok_if (fun c1 => ?_) (fun c1 => ?_)
          · have dc1 := tl_eq i2 tn_0 c1
            exfalso
            omega
          · have dc1 := tl_ne i2 tn_0 c1
            exact ok_some (ti_bd tn_8 (by omega) (by omega))
        · intro y3 hyy3
          have ly3 := hyy3
          have iy3 : TI y3 (8) := ti_c ly3
          refine ok_bnd (Q := fun (z : Int32) => (-1 ≤ z.toInt ∧ z.toInt ≤ 3) ∧ ((a4 = 0 → (0 = 0 → z.toInt = a1 - 1) ∧ (0 = 1 → z.toInt = a1 - 2)) ∧ (1 ≤ a4 → z.toInt = a1))) ?_ ?_
          · refine ok_if (fun c2 => ?_) (fun c2 => ?_)
            · have dc2 := tl_le i4 tn_0 c2
              refine ok_bnd (Q := fun (z : Int32) => (-1 ≤ z.toInt ∧ z.toInt ≤ 2) ∧ ((0 = 0 → z.toInt = a1 - 1) ∧ (0 = 1 → z.toInt = a1 - 2))) ?_ ?_
              · refine ok_if (fun c3 => ?_) (fun c3 => ?_)
                · have dc3 := tl_eq i3 tn_0 c3
                  refine ok_ltI (av_sub i1 tn_1 (by omega) (by omega)) (fun x209 ix209 => ?_)
                  exact ok_some ⟨(ti_bd ix209 (by omega) (by omega)), (by have q : _ = _ := ix209; (try dsimp only); omega)⟩
                · have dc3 := tl_ne i3 tn_0 c3
                  exfalso
                  omega
              · intro y204 hyy204
                obtain ⟨ly204, jy204⟩ := hyy204
                have iy204 : TI y204 y204.toInt := rfl
                exact ok_some ⟨(ti_bd iy204 (by omega) (by omega)), (by have q : _ = _ := iy204; (try dsimp only); omega)⟩
            · have dc2 := tl_nle i4 tn_0 c2
              exact ok_some ⟨(ti_bd i1 (by omega) (by omega)), (by have q : _ = _ := i1; (try dsimp only); omega)⟩
          · intro y4 hyy4
            obtain ⟨ly4, jy4⟩ := hyy4
            have iy4 : TI y4 y4.toInt := rfl
            refine ok_if (fun c4 => ?_) (fun c4 => ?_)
            · have dc4 := tl_eq i4 tn_0 c4
              refine ok_if (fun c5 => ?_) (fun c5 => ?_)
              · have dc5 := tl_eq i3 tn_0 c5
                refine ok_dr (tt_pic t) (by have q := (tt_q0b t (tt_p t)); omega) (gk_0 t (tt_p t)) ?_
                refine ok_ltI (tw_q t (tt_p t)) (fun x137 ix137 => ?_)
                refine ok_chk (nz ix137 (by omega)) ?_
                refine ok_ltI (av_mod i1 ix137 (by omega) (by omega)) (fun x138 ix138 => ?_)
                refine ok_if (fun c6 => ?_) (fun c6 => ?_)
                · have dc6 := tl_eq ix138 tn_0 c6
                  exact ok_some ⟨t, (fr_0 p [15, 18] M)⟩
                · have dc6 := tl_ne ix138 tn_0 c6
                  refine ok_bnd (s_setThresholds t rfl iy4 i1 (by omega) (by omega) (by omega) (by omega)) ?_
                  intro y140 hyy140
                  obtain ⟨ty140, gy140⟩ := hyy140
                  have fy140 := fr_tr (fr_0 p [15, 18] M) gy140 rfl
                  refine ok_ltI (tw_q ty140 (tt_p t)) (fun x141 ix141 => ?_)
                  refine ok_ltI (av_mul iy3 ix141 (by omega) (by omega)) (fun x142 ix142 => ?_)
                  refine ok_ltI (tw_q ty140 (tt_p t)) (fun x143 ix143 => ?_)
                  refine ok_chk (nz ix143 (by omega)) ?_
                  refine ok_ltI (av_div i1 ix143 (by omega) (by omega)) (fun x144 ix144 => ?_)
                  refine ok_ltI (av_mul iy3 ix144 (by omega) (by omega)) (fun x145 ix145 => ?_)
                  refine ok_ltI (av_mul ix145 ix142 (by omega) (by omega)) (fun x146 ix146 => ?_)
                  refine ok_ltI (tw_q ty140 (tt_p t)) (fun x147 ix147 => ?_)
                  refine ok_chk (nz ix147 (by omega)) ?_
                  refine ok_ltI (av_mod i1 ix147 (by omega) (by omega)) (fun x148 ix148 => ?_)
                  refine ok_ltI (av_mul iy3 ix148 (by omega) (by omega)) (fun x149 ix149 => ?_)
                  refine ok_ltI (av_add ix146 ix149 (by omega) (by omega)) (fun x150 ix150 => ?_)
                  refine ok_ltI (av_mul tn_4 i4 (by omega) (by omega)) (fun x151 ix151 => ?_)
                  refine ok_bnd (Q := fun (z : Int32) => (1 ≤ z.toInt ∧ z.toInt ≤ 1)) ?_ ?_
                  · refine ok_if (fun c7 => ?_) (fun c7 => ?_)
                    · have dc7 := tl_eq i3 tn_0 c7
                      exact ok_some (ti_bd tn_1 (by omega) (by omega))
                    · have dc7 := tl_ne i3 tn_0 c7
                      exfalso
                      omega
                  · intro y152 hyy152
                    have ly152 := hyy152
                    have iy152 : TI y152 (1) := ti_c ly152
                    refine ok_ltI (av_mul ix151 iy152 (by omega) (by omega)) (fun x153 ix153 => ?_)
                    refine ok_ltI (av_add ix150 ix153 (by omega) (by omega)) (fun x154 ix154 => ?_)
                    refine ok_bnd (Q := fun (z : Int32) => (1 ≤ z.toInt ∧ z.toInt ≤ 1)) ?_ ?_
                    · refine ok_if (fun c8 => ?_) (fun c8 => ?_)
                      · have dc8 := tl_eq i3 tn_0 c8
                        exact ok_some (ti_bd tn_1 (by omega) (by omega))
                      · have dc8 := tl_ne i3 tn_0 c8
                        exfalso
                        omega
                    · intro y155 hyy155
                      have ly155 := hyy155
                      have iy155 : TI y155 (1) := ti_c ly155
                      refine ok_bnd (Q := fun (z : Int32) => (16 ≤ z.toInt ∧ z.toInt ≤ 16)) ?_ ?_
                      · refine ok_if (fun c9 => ?_) (fun c9 => ?_)
                        · have dc9 := tl_eq i3 tn_0 c9
                          exact ok_some (ti_bd ix142 (by omega) (by omega))
                        · have dc9 := tl_ne i3 tn_0 c9
                          exfalso
                          omega
                      · intro y156 hyy156
                        have ly156 := hyy156
                        have iy156 : TI y156 (16) := ti_c ly156
                        have ky3 : y3.toInt = _ := iy3
                        refine ok_bnd (Q := fun (z : Int32 × DD) => (0 ≤ z.1.toInt ∧ z.1.toInt ≤ y3.toInt) ∧ TT G z.2 p 2 L ∧ Fr p [15, 18] M z.2) (ok_itr (fun (z : Int32 × DD) => (0 ≤ z.1.toInt ∧ z.1.toInt ≤ y3.toInt) ∧ TT G z.2 p 2 L ∧ Fr p [15, 18] M z.2) (fun z => (y3.toInt - z.1.toInt).toNat) ?_ _ _ ?_ ?_) ?_
                        · intro s158 hys158
                          obtain ⟨ls158_1, ts158_2, fs158_2⟩ := hys158
                          have is158_1 : TI s158.1 s158.1.toInt := rfl
                          refine ok_if (fun c10 => ?_) (fun c10 => ?_)
                          · have dc10 := tl_le iy3 is158_1 c10
                            exact ok_some ⟨(ti_bd is158_1 (by omega) (by omega)), ts158_2, fs158_2⟩
                          · have dc10 := tl_nle iy3 is158_1 c10
                            refine ok_bnd (Q := fun (z : Int32) => (0 ≤ z.toInt ∧ z.toInt ≤ 14)) ?_ ?_
                            · refine ok_if (fun c11 => ?_) (fun c11 => ?_)
                              · have dc11 := tl_eq i2 tn_0 c11
                                exfalso
                                omega
                              · have dc11 := tl_ne i2 tn_0 c11
                                refine ok_ltI (av_mul tn_2 is158_1 (by omega) (by omega)) (fun x199 ix199 => ?_)
                                exact ok_some (ti_bd ix199 (by omega) (by omega))
                            · intro y162 hyy162
                              have ly162 := hyy162
                              have iy162 : TI y162 y162.toInt := rfl
                              refine ok_bnd (Q := fun (z : Int32) => (0 ≤ z.toInt ∧ z.toInt ≤ 0)) ?_ ?_
                              · refine ok_if (fun c12 => ?_) (fun c12 => ?_)
                                · have dc12 := tl_eq i2 tn_0 c12
                                  exfalso
                                  omega
                                · have dc12 := tl_ne i2 tn_0 c12
                                  refine ok_ltI (av_mul tn_8 i4 (by omega) (by omega)) (fun x196 ix196 => ?_)
                                  exact ok_some (ti_bd ix196 (by omega) (by omega))
                              · intro y163 hyy163
                                have ly163 := hyy163
                                have iy163 : TI y163 (0) := ti_c ly163
                                refine ok_bnd (Q := fun (z : Int32) => (0 ≤ z.toInt ∧ z.toInt ≤ 0)) ?_ ?_
                                · refine ok_if (fun c13 => ?_) (fun c13 => ?_)
                                  · have dc13 := tl_eq i3 tn_0 c13
                                    exact ok_some (ti_bd iy163 (by omega) (by omega))
                                  · have dc13 := tl_ne i3 tn_0 c13
                                    exfalso
                                    omega
                                · intro y164 hyy164
                                  have ly164 := hyy164
                                  have iy164 : TI y164 (0) := ti_c ly164
                                  refine ok_bnd (Q := fun (z : Int32) => (0 ≤ z.toInt ∧ z.toInt ≤ 14)) ?_ ?_
                                  · refine ok_if (fun c14 => ?_) (fun c14 => ?_)
                                    · have dc14 := tl_eq i3 tn_0 c14
                                      exact ok_some (ti_bd iy162 (by omega) (by omega))
                                    · have dc14 := tl_ne i3 tn_0 c14
                                      exfalso
                                      omega
                                  · intro y165 hyy165
                                    have ly165 := hyy165
                                    have iy165 : TI y165 y165.toInt := rfl
                                    refine ok_ltI (av_sar 3 iy165 (by decide)) (fun x166 ix166 => ?_)
                                    refine ok_ltI (av_mul ix166 tn_8 (by omega) (by omega)) (fun x167 ix167 => ?_)
                                    refine ok_ltI (av_sar 3 iy164 (by decide)) (fun x168 ix168 => ?_)
                                    refine ok_ltI (av_mul ix168 tn_4 (by omega) (by omega)) (fun x169 ix169 => ?_)
                                    refine ok_ltI (av_add ix167 ix169 (by omega) (by omega)) (fun x170 ix170 => ?_)
                                    refine ok_ltI (av_sar 2 iy165 (by decide)) (fun x171 ix171 => ?_)
                                    refine ok_ltI (av_and 1 ix171 (by decide) (by decide)) (fun x172 ix172 => ?_)
                                    refine ok_ltI (av_mul ix172 tn_2 (by omega) (by omega)) (fun x173 ix173 => ?_)
                                    refine ok_ltI (av_add ix170 ix173 (by omega) (by omega)) (fun x174 ix174 => ?_)
                                    refine ok_ltI (av_sar 2 iy164 (by decide)) (fun x175 ix175 => ?_)
                                    refine ok_ltI (av_and 1 ix175 (by decide) (by decide)) (fun x176 ix176 => ?_)
                                    refine ok_ltI (av_add ix174 ix176 (by omega) (by omega)) (fun x177 ix177 => ?_)
                                    refine ok_ltI (av_mul tn_16 i1 (by omega) (by omega)) (fun x178 ix178 => ?_)
                                    refine ok_ltI (av_add ix178 ix177 (by omega) (by omega)) (fun x179 ix179 => ?_)
                                    refine ok_ltI (av_mul tn_2 ix179 (by omega) (by omega)) (fun x180 ix180 => ?_)
                                    refine ok_ltI (av_add ix180 i3 (by omega) (by omega)) (fun x181 ix181 => ?_)
                                    refine ok_dr (f_r (b := 149) ts158_2 rfl (by decide)) (g_lt ts158_2 (by decide)) (g_k ts158_2 (by decide) rfl) ?_
                                    refine ok_chk (nxg (g_n (i := 149) (n := 1024) ts158_2 (by decide) rfl) ix181 (by omega) (by omega)) ?_
                                    refine ok_ltB (ib_t ts158_2 (by simp [TYL] : (149, 0, 4) ∈ TYL) _) (fun x183 lx183 => ?_)
                                    have ix183 : TI x183 x183.toInt := rfl
                                    refine ok_bnd (Q := fun (z : DD) => TT G z p 2 L ∧ Fr p [15, 18] M z) ?_ ?_
                                    · refine ok_if (fun c15 => ?_) (fun c15 => ?_)
                                      · have dc15 := tl_le ix183 tn_0 c15
                                        exact ok_some ⟨ts158_2, fs158_2⟩
                                      · have dc15 := tl_nle ix183 tn_0 c15
                                        refine ok_dr (pr_4 ts158_2 (tt_p t)) (by have q := (tt_q0b ts158_2 (tt_p t)); omega) (gk_2 ts158_2 (tt_p t)) ?_
                                        refine ok_chk (nxg (gl_2 ts158_2 (tt_p t)) i2 (by omega) (by omega)) ?_
                                        refine ok_ltI (av_mul is158_1 iy156 (by omega) (by omega)) (fun x188 ix188 => ?_)
                                        refine ok_ltI (av_add ix154 ix188 (by omega) (by omega)) (fun x189 ix189 => ?_)
                                        refine ok_bnd (Q := fun (z : Int32) => (0 ≤ z.toInt ∧ z.toInt ≤ 0)) ?_ ?_
                                        · refine ok_if (fun c16 => ?_) (fun c16 => ?_)
                                          · have dc16 := tl_eq i2 tn_0 c16
                                            exfalso
                                            omega
                                          · have dc16 := tl_ne i2 tn_0 c16
                                            exact ok_some (ti_bd tn_0 (by omega) (by omega))
                                        · intro y190 hyy190
                                          have ly190 := hyy190
                                          have iy190 : TI y190 (0) := ti_c ly190
                                          obtain ⟨j17, hj17, nj17, ej17⟩ := pp_v ts158_2 (tt_p t) i2 (by omega) (by omega)
                                          refine ok_bnd (s_filterLine ts158_2 ej17 (pl_3 hj17) nj17 ix189 iy155 ix183 iy190 (by omega) (by omega) (by omega) (by omega) (by omega) (by omega) (by omega) (by omega)) ?_
                                          intro y191 hyy191
                                          obtain ⟨ty191, gy191⟩ := hyy191
                                          have fy191 := fr_tr fs158_2 gy191 rfl
                                          exact ok_some ⟨ty191, fy191⟩
                                    · intro y184 hyy184
                                      obtain ⟨ty184, fy184⟩ := hyy184
                                      refine ok_ltI (av_add is158_1 tn_1 (by omega) (by omega)) (fun x185 ix185 => ?_)
                                      exact ok_some ⟨⟨(ti_bd ix185 (by omega) (by omega)), ty184, fy184⟩, (mu_up ix185 (by omega) (by omega))⟩
                        · exact ⟨(ti_bd tn_0 (by omega) (by omega)), ty140, fy140⟩
                        · exact mu_0 tn_0 (by omega)
                        · intro y157 hyy157
                          obtain ⟨ly157_1, ty157_2, fy157_2⟩ := hyy157
                          have iy157_1 : TI y157.1 y157.1.toInt := rfl
                          exact ok_some ⟨ty157_2, fy157_2⟩
              · have dc5 := tl_ne i3 tn_0 c5
                exfalso
                omega
            · have dc4 := tl_ne i4 tn_0 c4
              refine ok_bnd (s_setThresholds t rfl iy4 i1 (by omega) (by omega) (by omega) (by omega)) ?_
              intro y6 hyy6
              obtain ⟨ty6, gy6⟩ := hyy6
              have fy6 := fr_tr (fr_0 p [15, 18] M) gy6 rfl
              refine ok_dr (tt_pic t) (by have q := (tt_q0b ty6 (tt_p t)); omega) (gk_0 ty6 (tt_p t)) ?_
              refine ok_ltI (tw_q ty6 (tt_p t)) (fun x8 ix8 => ?_)
              refine ok_ltI (av_mul iy3 ix8 (by omega) (by omega)) (fun x9 ix9 => ?_)
              refine ok_ltI (tw_q ty6 (tt_p t)) (fun x10 ix10 => ?_)
              refine ok_chk (nz ix10 (by omega)) ?_
              refine ok_ltI (av_div i1 ix10 (by omega) (by omega)) (fun x11 ix11 => ?_)
              refine ok_ltI (av_mul iy3 ix11 (by omega) (by omega)) (fun x12 ix12 => ?_)
              refine ok_ltI (av_mul ix12 ix9 (by omega) (by omega)) (fun x13 ix13 => ?_)
              refine ok_ltI (tw_q ty6 (tt_p t)) (fun x14 ix14 => ?_)
              refine ok_chk (nz ix14 (by omega)) ?_
              refine ok_ltI (av_mod i1 ix14 (by omega) (by omega)) (fun x15 ix15 => ?_)
              refine ok_ltI (av_mul iy3 ix15 (by omega) (by omega)) (fun x16 ix16 => ?_)
              refine ok_ltI (av_add ix13 ix16 (by omega) (by omega)) (fun x17 ix17 => ?_)
              refine ok_ltI (av_mul tn_4 i4 (by omega) (by omega)) (fun x18 ix18 => ?_)
              refine ok_bnd (Q := fun (z : Int32) => (1 ≤ z.toInt ∧ z.toInt ≤ 1)) ?_ ?_
              · refine ok_if (fun c18 => ?_) (fun c18 => ?_)
                · have dc18 := tl_eq i3 tn_0 c18
                  exact ok_some (ti_bd tn_1 (by omega) (by omega))
                · have dc18 := tl_ne i3 tn_0 c18
                  exfalso
                  omega
              · intro y19 hyy19
                have ly19 := hyy19
                have iy19 : TI y19 (1) := ti_c ly19
                refine ok_ltI (av_mul ix18 iy19 (by omega) (by omega)) (fun x20 ix20 => ?_)
                refine ok_ltI (av_add ix17 ix20 (by omega) (by omega)) (fun x21 ix21 => ?_)
                refine ok_bnd (Q := fun (z : Int32) => (1 ≤ z.toInt ∧ z.toInt ≤ 1)) ?_ ?_
                · refine ok_if (fun c19 => ?_) (fun c19 => ?_)
                  · have dc19 := tl_eq i3 tn_0 c19
                    exact ok_some (ti_bd tn_1 (by omega) (by omega))
                  · have dc19 := tl_ne i3 tn_0 c19
                    exfalso
                    omega
                · intro y22 hyy22
                  have ly22 := hyy22
                  have iy22 : TI y22 (1) := ti_c ly22
                  refine ok_bnd (Q := fun (z : Int32) => (16 ≤ z.toInt ∧ z.toInt ≤ 16)) ?_ ?_
                  · refine ok_if (fun c20 => ?_) (fun c20 => ?_)
                    · have dc20 := tl_eq i3 tn_0 c20
                      exact ok_some (ti_bd ix9 (by omega) (by omega))
                    · have dc20 := tl_ne i3 tn_0 c20
                      exfalso
                      omega
                  · intro y23 hyy23
                    have ly23 := hyy23
                    have iy23 : TI y23 (16) := ti_c ly23
                    have ky3 : y3.toInt = _ := iy3
                    refine ok_bnd (Q := fun (z : Int32 × DD) => (0 ≤ z.1.toInt ∧ z.1.toInt ≤ y3.toInt) ∧ TT G z.2 p 2 L ∧ Fr p [15, 18] M z.2) (ok_itr (fun (z : Int32 × DD) => (0 ≤ z.1.toInt ∧ z.1.toInt ≤ y3.toInt) ∧ TT G z.2 p 2 L ∧ Fr p [15, 18] M z.2) (fun z => (y3.toInt - z.1.toInt).toNat) ?_ _ _ ?_ ?_) ?_
                    · intro s25 hys25
                      obtain ⟨ls25_1, ts25_2, fs25_2⟩ := hys25
                      have is25_1 : TI s25.1 s25.1.toInt := rfl
                      refine ok_if (fun c21 => ?_) (fun c21 => ?_)
                      · have dc21 := tl_le iy3 is25_1 c21
                        exact ok_some ⟨(ti_bd is25_1 (by omega) (by omega)), ts25_2, fs25_2⟩
                      · have dc21 := tl_nle iy3 is25_1 c21
                        refine ok_bnd (Q := fun (z : Int32) => (0 ≤ z.toInt ∧ z.toInt ≤ 14)) ?_ ?_
                        · refine ok_if (fun c22 => ?_) (fun c22 => ?_)
                          · have dc22 := tl_eq i2 tn_0 c22
                            exfalso
                            omega
                          · have dc22 := tl_ne i2 tn_0 c22
                            refine ok_ltI (av_mul tn_2 is25_1 (by omega) (by omega)) (fun x66 ix66 => ?_)
                            exact ok_some (ti_bd ix66 (by omega) (by omega))
                        · intro y29 hyy29
                          have ly29 := hyy29
                          have iy29 : TI y29 y29.toInt := rfl
                          refine ok_bnd (Q := fun (z : Int32) => (8 ≤ z.toInt ∧ z.toInt ≤ 24)) ?_ ?_
                          · refine ok_if (fun c23 => ?_) (fun c23 => ?_)
                            · have dc23 := tl_eq i2 tn_0 c23
                              exfalso
                              omega
                            · have dc23 := tl_ne i2 tn_0 c23
                              refine ok_ltI (av_mul tn_8 i4 (by omega) (by omega)) (fun x63 ix63 => ?_)
                              exact ok_some (ti_bd ix63 (by omega) (by omega))
                          · intro y30 hyy30
                            have ly30 := hyy30
                            have iy30 : TI y30 y30.toInt := rfl
                            refine ok_bnd (Q := fun (z : Int32) => (8 ≤ z.toInt ∧ z.toInt ≤ 24)) ?_ ?_
                            · refine ok_if (fun c24 => ?_) (fun c24 => ?_)
                              · have dc24 := tl_eq i3 tn_0 c24
                                exact ok_some (ti_bd iy30 (by omega) (by omega))
                              · have dc24 := tl_ne i3 tn_0 c24
                                exfalso
                                omega
                            · intro y31 hyy31
                              have ly31 := hyy31
                              have iy31 : TI y31 y31.toInt := rfl
                              refine ok_bnd (Q := fun (z : Int32) => (0 ≤ z.toInt ∧ z.toInt ≤ 14)) ?_ ?_
                              · refine ok_if (fun c25 => ?_) (fun c25 => ?_)
                                · have dc25 := tl_eq i3 tn_0 c25
                                  exact ok_some (ti_bd iy29 (by omega) (by omega))
                                · have dc25 := tl_ne i3 tn_0 c25
                                  exfalso
                                  omega
                              · intro y32 hyy32
                                have ly32 := hyy32
                                have iy32 : TI y32 y32.toInt := rfl
                                refine ok_ltI (av_sar 3 iy32 (by decide)) (fun x33 ix33 => ?_)
                                refine ok_ltI (av_mul ix33 tn_8 (by omega) (by omega)) (fun x34 ix34 => ?_)
                                refine ok_ltI (av_sar 3 iy31 (by decide)) (fun x35 ix35 => ?_)
                                refine ok_ltI (av_mul ix35 tn_4 (by omega) (by omega)) (fun x36 ix36 => ?_)
                                refine ok_ltI (av_add ix34 ix36 (by omega) (by omega)) (fun x37 ix37 => ?_)
                                refine ok_ltI (av_sar 2 iy32 (by decide)) (fun x38 ix38 => ?_)
                                refine ok_ltI (av_and 1 ix38 (by decide) (by decide)) (fun x39 ix39 => ?_)
                                refine ok_ltI (av_mul ix39 tn_2 (by omega) (by omega)) (fun x40 ix40 => ?_)
                                refine ok_ltI (av_add ix37 ix40 (by omega) (by omega)) (fun x41 ix41 => ?_)
                                refine ok_ltI (av_sar 2 iy31 (by decide)) (fun x42 ix42 => ?_)
                                refine ok_ltI (av_and 1 ix42 (by decide) (by decide)) (fun x43 ix43 => ?_)
                                refine ok_ltI (av_add ix41 ix43 (by omega) (by omega)) (fun x44 ix44 => ?_)
                                refine ok_ltI (av_mul tn_16 i1 (by omega) (by omega)) (fun x45 ix45 => ?_)
                                refine ok_ltI (av_add ix45 ix44 (by omega) (by omega)) (fun x46 ix46 => ?_)
                                refine ok_ltI (av_mul tn_2 ix46 (by omega) (by omega)) (fun x47 ix47 => ?_)
                                refine ok_ltI (av_add ix47 i3 (by omega) (by omega)) (fun x48 ix48 => ?_)
                                refine ok_dr (f_r (b := 149) ts25_2 rfl (by decide)) (g_lt ts25_2 (by decide)) (g_k ts25_2 (by decide) rfl) ?_
                                refine ok_chk (nxg (g_n (i := 149) (n := 1024) ts25_2 (by decide) rfl) ix48 (by omega) (by omega)) ?_
                                refine ok_ltB (ib_t ts25_2 (by simp [TYL] : (149, 0, 4) ∈ TYL) _) (fun x50 lx50 => ?_)
                                have ix50 : TI x50 x50.toInt := rfl
                                refine ok_bnd (Q := fun (z : DD) => TT G z p 2 L ∧ Fr p [15, 18] M z) ?_ ?_
                                · refine ok_if (fun c26 => ?_) (fun c26 => ?_)
                                  · have dc26 := tl_le ix50 tn_0 c26
                                    exact ok_some ⟨ts25_2, fs25_2⟩
                                  · have dc26 := tl_nle ix50 tn_0 c26
                                    refine ok_dr (pr_4 ts25_2 (tt_p t)) (by have q := (tt_q0b ts25_2 (tt_p t)); omega) (gk_2 ts25_2 (tt_p t)) ?_
                                    refine ok_chk (nxg (gl_2 ts25_2 (tt_p t)) i2 (by omega) (by omega)) ?_
                                    refine ok_ltI (av_mul is25_1 iy23 (by omega) (by omega)) (fun x55 ix55 => ?_)
                                    refine ok_ltI (av_add ix21 ix55 (by omega) (by omega)) (fun x56 ix56 => ?_)
                                    refine ok_bnd (Q := fun (z : Int32) => (0 ≤ z.toInt ∧ z.toInt ≤ 0)) ?_ ?_
                                    · refine ok_if (fun c27 => ?_) (fun c27 => ?_)
                                      · have dc27 := tl_eq i2 tn_0 c27
                                        exfalso
                                        omega
                                      · have dc27 := tl_ne i2 tn_0 c27
                                        exact ok_some (ti_bd tn_0 (by omega) (by omega))
                                    · intro y57 hyy57
                                      have ly57 := hyy57
                                      have iy57 : TI y57 (0) := ti_c ly57
                                      obtain ⟨j28, hj28, nj28, ej28⟩ := pp_v ts25_2 (tt_p t) i2 (by omega) (by omega)
                                      refine ok_bnd (s_filterLine ts25_2 ej28 (pl_3 hj28) nj28 ix56 iy22 ix50 iy57 (by omega) (by omega) (by omega) (by omega) (by omega) (by omega) (by omega) (by omega)) ?_
                                      intro y58 hyy58
                                      obtain ⟨ty58, gy58⟩ := hyy58
                                      have fy58 := fr_tr fs25_2 gy58 rfl
                                      exact ok_some ⟨ty58, fy58⟩
                                · intro y51 hyy51
                                  obtain ⟨ty51, fy51⟩ := hyy51
                                  refine ok_ltI (av_add is25_1 tn_1 (by omega) (by omega)) (fun x52 ix52 => ?_)
                                  exact ok_some ⟨⟨(ti_bd ix52 (by omega) (by omega)), ty51, fy51⟩, (mu_up ix52 (by omega) (by omega))⟩
                    · exact ⟨(ti_bd tn_0 (by omega) (by omega)), ty6, fy6⟩
                    · exact mu_0 tn_0 (by omega)
                    · intro y24 hyy24
                      obtain ⟨ly24_1, ty24_2, fy24_2⟩ := hyy24
                      have iy24_1 : TI y24.1 y24.1.toInt := rfl
                      exact ok_some ⟨ty24_2, fy24_2⟩
      · refine ok_dr rfl (g_lt t (by decide)) (g_k t (by decide) rfl) ?_
        refine ok_bnd (Q := fun (z : Int32) => (8 ≤ z.toInt ∧ z.toInt ≤ 8)) ?_ ?_
        · refine ok_if (fun c1 => ?_) (fun c1 => ?_)
          · have dc1 := tl_eq i2 tn_0 c1
            exfalso
            omega
          · have dc1 := tl_ne i2 tn_0 c1
            exact ok_some (ti_bd tn_8 (by omega) (by omega))
        · intro y3 hyy3
          have ly3 := hyy3
          have iy3 : TI y3 (8) := ti_c ly3
          refine ok_bnd (Q := fun (z : Int32) => (-2 ≤ z.toInt ∧ z.toInt ≤ 3) ∧ ((a4 = 0 → (1 = 0 → z.toInt = a1 - 1) ∧ (1 = 1 → z.toInt = a1 - 2)) ∧ (1 ≤ a4 → z.toInt = a1))) ?_ ?_
          · refine ok_if (fun c2 => ?_) (fun c2 => ?_)
            · have dc2 := tl_le i4 tn_0 c2
              refine ok_bnd (Q := fun (z : Int32) => (-2 ≤ z.toInt ∧ z.toInt ≤ 1) ∧ ((1 = 0 → z.toInt = a1 - 1) ∧ (1 = 1 → z.toInt = a1 - 2))) ?_ ?_
              · refine ok_if (fun c3 => ?_) (fun c3 => ?_)
                · have dc3 := tl_eq i3 tn_0 c3
                  exfalso
                  omega
                · have dc3 := tl_ne i3 tn_0 c3
                  refine ok_dr (tt_pic t) (by have q := (tt_q0b t (tt_p t)); omega) (gk_0 t (tt_p t)) ?_
                  refine ok_ltI (tw_q t (tt_p t)) (fun x207 ix207 => ?_)
                  refine ok_ltI (av_sub i1 ix207 (by omega) (by omega)) (fun x208 ix208 => ?_)
                  exact ok_some ⟨(ti_bd ix208 (by omega) (by omega)), (by have q : _ = _ := ix208; (try dsimp only); omega)⟩
              · intro y204 hyy204
                obtain ⟨ly204, jy204⟩ := hyy204
                have iy204 : TI y204 y204.toInt := rfl
                exact ok_some ⟨(ti_bd iy204 (by omega) (by omega)), (by have q : _ = _ := iy204; (try dsimp only); omega)⟩
            · have dc2 := tl_nle i4 tn_0 c2
              exact ok_some ⟨(ti_bd i1 (by omega) (by omega)), (by have q : _ = _ := i1; (try dsimp only); omega)⟩
          · intro y4 hyy4
            obtain ⟨ly4, jy4⟩ := hyy4
            have iy4 : TI y4 y4.toInt := rfl
            refine ok_if (fun c4 => ?_) (fun c4 => ?_)
            · have dc4 := tl_eq i4 tn_0 c4
              refine ok_if (fun c5 => ?_) (fun c5 => ?_)
              · have dc5 := tl_eq i3 tn_0 c5
                exfalso
                omega
              · have dc5 := tl_ne i3 tn_0 c5
                refine ok_if (fun c6 => ?_) (fun c6 => ?_)
                · have dc6 := tl_le tn_0 iy4 c6
                  refine ok_bnd (s_setThresholds t rfl iy4 i1 (by omega) (by omega) (by omega) (by omega)) ?_
                  intro y72 hyy72
                  obtain ⟨ty72, gy72⟩ := hyy72
                  have fy72 := fr_tr (fr_0 p [15, 18] M) gy72 rfl
                  refine ok_dr (tt_pic t) (by have q := (tt_q0b ty72 (tt_p t)); omega) (gk_0 ty72 (tt_p t)) ?_
                  refine ok_ltI (tw_q ty72 (tt_p t)) (fun x74 ix74 => ?_)
                  refine ok_ltI (av_mul iy3 ix74 (by omega) (by omega)) (fun x75 ix75 => ?_)
                  refine ok_ltI (tw_q ty72 (tt_p t)) (fun x76 ix76 => ?_)
                  refine ok_chk (nz ix76 (by omega)) ?_
                  refine ok_ltI (av_div i1 ix76 (by omega) (by omega)) (fun x77 ix77 => ?_)
                  refine ok_ltI (av_mul iy3 ix77 (by omega) (by omega)) (fun x78 ix78 => ?_)
                  refine ok_ltI (av_mul ix78 ix75 (by omega) (by omega)) (fun x79 ix79 => ?_)
                  refine ok_ltI (tw_q ty72 (tt_p t)) (fun x80 ix80 => ?_)
                  refine ok_chk (nz ix80 (by omega)) ?_
                  refine ok_ltI (av_mod i1 ix80 (by omega) (by omega)) (fun x81 ix81 => ?_)
                  refine ok_ltI (av_mul iy3 ix81 (by omega) (by omega)) (fun x82 ix82 => ?_)
                  refine ok_ltI (av_add ix79 ix82 (by omega) (by omega)) (fun x83 ix83 => ?_)
                  refine ok_ltI (av_mul tn_4 i4 (by omega) (by omega)) (fun x84 ix84 => ?_)
                  refine ok_bnd (Q := fun (z : Int32) => (16 ≤ z.toInt ∧ z.toInt ≤ 16)) ?_ ?_
                  · refine ok_if (fun c7 => ?_) (fun c7 => ?_)
                    · have dc7 := tl_eq i3 tn_0 c7
                      exfalso
                      omega
                    · have dc7 := tl_ne i3 tn_0 c7
                      exact ok_some (ti_bd ix75 (by omega) (by omega))
                  · intro y85 hyy85
                    have ly85 := hyy85
                    have iy85 : TI y85 (16) := ti_c ly85
                    refine ok_ltI (av_mul ix84 iy85 (by omega) (by omega)) (fun x86 ix86 => ?_)
                    refine ok_ltI (av_add ix83 ix86 (by omega) (by omega)) (fun x87 ix87 => ?_)
                    refine ok_bnd (Q := fun (z : Int32) => (16 ≤ z.toInt ∧ z.toInt ≤ 16)) ?_ ?_
                    · refine ok_if (fun c8 => ?_) (fun c8 => ?_)
                      · have dc8 := tl_eq i3 tn_0 c8
                        exfalso
                        omega
                      · have dc8 := tl_ne i3 tn_0 c8
                        exact ok_some (ti_bd ix75 (by omega) (by omega))
                    · intro y88 hyy88
                      have ly88 := hyy88
                      have iy88 : TI y88 (16) := ti_c ly88
                      refine ok_bnd (Q := fun (z : Int32) => (1 ≤ z.toInt ∧ z.toInt ≤ 1)) ?_ ?_
                      · refine ok_if (fun c9 => ?_) (fun c9 => ?_)
                        · have dc9 := tl_eq i3 tn_0 c9
                          exfalso
                          omega
                        · have dc9 := tl_ne i3 tn_0 c9
                          exact ok_some (ti_bd tn_1 (by omega) (by omega))
                      · intro y89 hyy89
                        have ly89 := hyy89
                        have iy89 : TI y89 (1) := ti_c ly89
                        have ky3 : y3.toInt = _ := iy3
                        refine ok_bnd (Q := fun (z : Int32 × DD) => (0 ≤ z.1.toInt ∧ z.1.toInt ≤ y3.toInt) ∧ TT G z.2 p 2 L ∧ Fr p [15, 18] M z.2) (ok_itr (fun (z : Int32 × DD) => (0 ≤ z.1.toInt ∧ z.1.toInt ≤ y3.toInt) ∧ TT G z.2 p 2 L ∧ Fr p [15, 18] M z.2) (fun z => (y3.toInt - z.1.toInt).toNat) ?_ _ _ ?_ ?_) ?_
                        · intro s91 hys91
                          obtain ⟨ls91_1, ts91_2, fs91_2⟩ := hys91
                          have is91_1 : TI s91.1 s91.1.toInt := rfl
                          refine ok_if (fun c10 => ?_) (fun c10 => ?_)
                          · have dc10 := tl_le iy3 is91_1 c10
                            exact ok_some ⟨(ti_bd is91_1 (by omega) (by omega)), ts91_2, fs91_2⟩
                          · have dc10 := tl_nle iy3 is91_1 c10
                            refine ok_bnd (Q := fun (z : Int32) => (0 ≤ z.toInt ∧ z.toInt ≤ 14)) ?_ ?_
                            · refine ok_if (fun c11 => ?_) (fun c11 => ?_)
                              · have dc11 := tl_eq i2 tn_0 c11
                                exfalso
                                omega
                              · have dc11 := tl_ne i2 tn_0 c11
                                refine ok_ltI (av_mul tn_2 is91_1 (by omega) (by omega)) (fun x132 ix132 => ?_)
                                exact ok_some (ti_bd ix132 (by omega) (by omega))
                            · intro y95 hyy95
                              have ly95 := hyy95
                              have iy95 : TI y95 y95.toInt := rfl
                              refine ok_bnd (Q := fun (z : Int32) => (0 ≤ z.toInt ∧ z.toInt ≤ 0)) ?_ ?_
                              · refine ok_if (fun c12 => ?_) (fun c12 => ?_)
                                · have dc12 := tl_eq i2 tn_0 c12
                                  exfalso
                                  omega
                                · have dc12 := tl_ne i2 tn_0 c12
                                  refine ok_ltI (av_mul tn_8 i4 (by omega) (by omega)) (fun x129 ix129 => ?_)
                                  exact ok_some (ti_bd ix129 (by omega) (by omega))
                              · intro y96 hyy96
                                have ly96 := hyy96
                                have iy96 : TI y96 (0) := ti_c ly96
                                refine ok_bnd (Q := fun (z : Int32) => (0 ≤ z.toInt ∧ z.toInt ≤ 14)) ?_ ?_
                                · refine ok_if (fun c13 => ?_) (fun c13 => ?_)
                                  · have dc13 := tl_eq i3 tn_0 c13
                                    exfalso
                                    omega
                                  · have dc13 := tl_ne i3 tn_0 c13
                                    exact ok_some (ti_bd iy95 (by omega) (by omega))
                                · intro y97 hyy97
                                  have ly97 := hyy97
                                  have iy97 : TI y97 y97.toInt := rfl
                                  refine ok_bnd (Q := fun (z : Int32) => (0 ≤ z.toInt ∧ z.toInt ≤ 0)) ?_ ?_
                                  · refine ok_if (fun c14 => ?_) (fun c14 => ?_)
                                    · have dc14 := tl_eq i3 tn_0 c14
                                      exfalso
                                      omega
                                    · have dc14 := tl_ne i3 tn_0 c14
                                      exact ok_some (ti_bd iy96 (by omega) (by omega))
                                  · intro y98 hyy98
                                    have ly98 := hyy98
                                    have iy98 : TI y98 (0) := ti_c ly98
                                    refine ok_ltI (av_sar 3 iy98 (by decide)) (fun x99 ix99 => ?_)
                                    refine ok_ltI (av_mul ix99 tn_8 (by omega) (by omega)) (fun x100 ix100 => ?_)
                                    refine ok_ltI (av_sar 3 iy97 (by decide)) (fun x101 ix101 => ?_)
                                    refine ok_ltI (av_mul ix101 tn_4 (by omega) (by omega)) (fun x102 ix102 => ?_)
                                    refine ok_ltI (av_add ix100 ix102 (by omega) (by omega)) (fun x103 ix103 => ?_)
                                    refine ok_ltI (av_sar 2 iy98 (by decide)) (fun x104 ix104 => ?_)
                                    refine ok_ltI (av_and 1 ix104 (by decide) (by decide)) (fun x105 ix105 => ?_)
                                    refine ok_ltI (av_mul ix105 tn_2 (by omega) (by omega)) (fun x106 ix106 => ?_)
                                    refine ok_ltI (av_add ix103 ix106 (by omega) (by omega)) (fun x107 ix107 => ?_)
                                    refine ok_ltI (av_sar 2 iy97 (by decide)) (fun x108 ix108 => ?_)
                                    refine ok_ltI (av_and 1 ix108 (by decide) (by decide)) (fun x109 ix109 => ?_)
                                    refine ok_ltI (av_add ix107 ix109 (by omega) (by omega)) (fun x110 ix110 => ?_)
                                    refine ok_ltI (av_mul tn_16 i1 (by omega) (by omega)) (fun x111 ix111 => ?_)
                                    refine ok_ltI (av_add ix111 ix110 (by omega) (by omega)) (fun x112 ix112 => ?_)
                                    refine ok_ltI (av_mul tn_2 ix112 (by omega) (by omega)) (fun x113 ix113 => ?_)
                                    refine ok_ltI (av_add ix113 i3 (by omega) (by omega)) (fun x114 ix114 => ?_)
                                    refine ok_dr (f_r (b := 149) ts91_2 rfl (by decide)) (g_lt ts91_2 (by decide)) (g_k ts91_2 (by decide) rfl) ?_
                                    refine ok_chk (nxg (g_n (i := 149) (n := 1024) ts91_2 (by decide) rfl) ix114 (by omega) (by omega)) ?_
                                    refine ok_ltB (ib_t ts91_2 (by simp [TYL] : (149, 0, 4) ∈ TYL) _) (fun x116 lx116 => ?_)
                                    have ix116 : TI x116 x116.toInt := rfl
                                    refine ok_bnd (Q := fun (z : DD) => TT G z p 2 L ∧ Fr p [15, 18] M z) ?_ ?_
                                    · refine ok_if (fun c15 => ?_) (fun c15 => ?_)
                                      · have dc15 := tl_le ix116 tn_0 c15
                                        exact ok_some ⟨ts91_2, fs91_2⟩
                                      · have dc15 := tl_nle ix116 tn_0 c15
                                        refine ok_dr (pr_4 ts91_2 (tt_p t)) (by have q := (tt_q0b ts91_2 (tt_p t)); omega) (gk_2 ts91_2 (tt_p t)) ?_
                                        refine ok_chk (nxg (gl_2 ts91_2 (tt_p t)) i2 (by omega) (by omega)) ?_
                                        refine ok_ltI (av_mul is91_1 iy89 (by omega) (by omega)) (fun x121 ix121 => ?_)
                                        refine ok_ltI (av_add ix87 ix121 (by omega) (by omega)) (fun x122 ix122 => ?_)
                                        refine ok_bnd (Q := fun (z : Int32) => (0 ≤ z.toInt ∧ z.toInt ≤ 0)) ?_ ?_
                                        · refine ok_if (fun c16 => ?_) (fun c16 => ?_)
                                          · have dc16 := tl_eq i2 tn_0 c16
                                            exfalso
                                            omega
                                          · have dc16 := tl_ne i2 tn_0 c16
                                            exact ok_some (ti_bd tn_0 (by omega) (by omega))
                                        · intro y123 hyy123
                                          have ly123 := hyy123
                                          have iy123 : TI y123 (0) := ti_c ly123
                                          obtain ⟨j17, hj17, nj17, ej17⟩ := pp_v ts91_2 (tt_p t) i2 (by omega) (by omega)
                                          refine ok_bnd (s_filterLine ts91_2 ej17 (pl_3 hj17) nj17 ix122 iy88 ix116 iy123 (by omega) (by omega) (by omega) (by omega) (by omega) (by omega) (by omega) (by omega)) ?_
                                          intro y124 hyy124
                                          obtain ⟨ty124, gy124⟩ := hyy124
                                          have fy124 := fr_tr fs91_2 gy124 rfl
                                          exact ok_some ⟨ty124, fy124⟩
                                    · intro y117 hyy117
                                      obtain ⟨ty117, fy117⟩ := hyy117
                                      refine ok_ltI (av_add is91_1 tn_1 (by omega) (by omega)) (fun x118 ix118 => ?_)
                                      exact ok_some ⟨⟨(ti_bd ix118 (by omega) (by omega)), ty117, fy117⟩, (mu_up ix118 (by omega) (by omega))⟩
                        · exact ⟨(ti_bd tn_0 (by omega) (by omega)), ty72, fy72⟩
                        · exact mu_0 tn_0 (by omega)
                        · intro y90 hyy90
                          obtain ⟨ly90_1, ty90_2, fy90_2⟩ := hyy90
                          have iy90_1 : TI y90.1 y90.1.toInt := rfl
                          exact ok_some ⟨ty90_2, fy90_2⟩
                · have dc6 := tl_nle tn_0 iy4 c6
                  exact ok_some ⟨t, (fr_0 p [15, 18] M)⟩
            · have dc4 := tl_ne i4 tn_0 c4
              refine ok_bnd (s_setThresholds t rfl iy4 i1 (by omega) (by omega) (by omega) (by omega)) ?_
              intro y6 hyy6
              obtain ⟨ty6, gy6⟩ := hyy6
              have fy6 := fr_tr (fr_0 p [15, 18] M) gy6 rfl
              refine ok_dr (tt_pic t) (by have q := (tt_q0b ty6 (tt_p t)); omega) (gk_0 ty6 (tt_p t)) ?_
              refine ok_ltI (tw_q ty6 (tt_p t)) (fun x8 ix8 => ?_)
              refine ok_ltI (av_mul iy3 ix8 (by omega) (by omega)) (fun x9 ix9 => ?_)
              refine ok_ltI (tw_q ty6 (tt_p t)) (fun x10 ix10 => ?_)
              refine ok_chk (nz ix10 (by omega)) ?_
              refine ok_ltI (av_div i1 ix10 (by omega) (by omega)) (fun x11 ix11 => ?_)
              refine ok_ltI (av_mul iy3 ix11 (by omega) (by omega)) (fun x12 ix12 => ?_)
              refine ok_ltI (av_mul ix12 ix9 (by omega) (by omega)) (fun x13 ix13 => ?_)
              refine ok_ltI (tw_q ty6 (tt_p t)) (fun x14 ix14 => ?_)
              refine ok_chk (nz ix14 (by omega)) ?_
              refine ok_ltI (av_mod i1 ix14 (by omega) (by omega)) (fun x15 ix15 => ?_)
              refine ok_ltI (av_mul iy3 ix15 (by omega) (by omega)) (fun x16 ix16 => ?_)
              refine ok_ltI (av_add ix13 ix16 (by omega) (by omega)) (fun x17 ix17 => ?_)
              refine ok_ltI (av_mul tn_4 i4 (by omega) (by omega)) (fun x18 ix18 => ?_)
              refine ok_bnd (Q := fun (z : Int32) => (16 ≤ z.toInt ∧ z.toInt ≤ 16)) ?_ ?_
              · refine ok_if (fun c18 => ?_) (fun c18 => ?_)
                · have dc18 := tl_eq i3 tn_0 c18
                  exfalso
                  omega
                · have dc18 := tl_ne i3 tn_0 c18
                  exact ok_some (ti_bd ix9 (by omega) (by omega))
              · intro y19 hyy19
                have ly19 := hyy19
                have iy19 : TI y19 (16) := ti_c ly19
                refine ok_ltI (av_mul ix18 iy19 (by omega) (by omega)) (fun x20 ix20 => ?_)
                refine ok_ltI (av_add ix17 ix20 (by omega) (by omega)) (fun x21 ix21 => ?_)
                refine ok_bnd (Q := fun (z : Int32) => (16 ≤ z.toInt ∧ z.toInt ≤ 16)) ?_ ?_
                · refine ok_if (fun c19 => ?_) (fun c19 => ?_)
                  · have dc19 := tl_eq i3 tn_0 c19
                    exfalso
                    omega
                  · have dc19 := tl_ne i3 tn_0 c19
                    exact ok_some (ti_bd ix9 (by omega) (by omega))
                · intro y22 hyy22
                  have ly22 := hyy22
                  have iy22 : TI y22 (16) := ti_c ly22
                  refine ok_bnd (Q := fun (z : Int32) => (1 ≤ z.toInt ∧ z.toInt ≤ 1)) ?_ ?_
                  · refine ok_if (fun c20 => ?_) (fun c20 => ?_)
                    · have dc20 := tl_eq i3 tn_0 c20
                      exfalso
                      omega
                    · have dc20 := tl_ne i3 tn_0 c20
                      exact ok_some (ti_bd tn_1 (by omega) (by omega))
                  · intro y23 hyy23
                    have ly23 := hyy23
                    have iy23 : TI y23 (1) := ti_c ly23
                    have ky3 : y3.toInt = _ := iy3
                    refine ok_bnd (Q := fun (z : Int32 × DD) => (0 ≤ z.1.toInt ∧ z.1.toInt ≤ y3.toInt) ∧ TT G z.2 p 2 L ∧ Fr p [15, 18] M z.2) (ok_itr (fun (z : Int32 × DD) => (0 ≤ z.1.toInt ∧ z.1.toInt ≤ y3.toInt) ∧ TT G z.2 p 2 L ∧ Fr p [15, 18] M z.2) (fun z => (y3.toInt - z.1.toInt).toNat) ?_ _ _ ?_ ?_) ?_
                    · intro s25 hys25
                      obtain ⟨ls25_1, ts25_2, fs25_2⟩ := hys25
                      have is25_1 : TI s25.1 s25.1.toInt := rfl
                      refine ok_if (fun c21 => ?_) (fun c21 => ?_)
                      · have dc21 := tl_le iy3 is25_1 c21
                        exact ok_some ⟨(ti_bd is25_1 (by omega) (by omega)), ts25_2, fs25_2⟩
                      · have dc21 := tl_nle iy3 is25_1 c21
                        refine ok_bnd (Q := fun (z : Int32) => (0 ≤ z.toInt ∧ z.toInt ≤ 14)) ?_ ?_
                        · refine ok_if (fun c22 => ?_) (fun c22 => ?_)
                          · have dc22 := tl_eq i2 tn_0 c22
                            exfalso
                            omega
                          · have dc22 := tl_ne i2 tn_0 c22
                            refine ok_ltI (av_mul tn_2 is25_1 (by omega) (by omega)) (fun x66 ix66 => ?_)
                            exact ok_some (ti_bd ix66 (by omega) (by omega))
                        · intro y29 hyy29
                          have ly29 := hyy29
                          have iy29 : TI y29 y29.toInt := rfl
                          refine ok_bnd (Q := fun (z : Int32) => (8 ≤ z.toInt ∧ z.toInt ≤ 24)) ?_ ?_
                          · refine ok_if (fun c23 => ?_) (fun c23 => ?_)
                            · have dc23 := tl_eq i2 tn_0 c23
                              exfalso
                              omega
                            · have dc23 := tl_ne i2 tn_0 c23
                              refine ok_ltI (av_mul tn_8 i4 (by omega) (by omega)) (fun x63 ix63 => ?_)
                              exact ok_some (ti_bd ix63 (by omega) (by omega))
                          · intro y30 hyy30
                            have ly30 := hyy30
                            have iy30 : TI y30 y30.toInt := rfl
                            refine ok_bnd (Q := fun (z : Int32) => (0 ≤ z.toInt ∧ z.toInt ≤ 14)) ?_ ?_
                            · refine ok_if (fun c24 => ?_) (fun c24 => ?_)
                              · have dc24 := tl_eq i3 tn_0 c24
                                exfalso
                                omega
                              · have dc24 := tl_ne i3 tn_0 c24
                                exact ok_some (ti_bd iy29 (by omega) (by omega))
                            · intro y31 hyy31
                              have ly31 := hyy31
                              have iy31 : TI y31 y31.toInt := rfl
                              refine ok_bnd (Q := fun (z : Int32) => (8 ≤ z.toInt ∧ z.toInt ≤ 24)) ?_ ?_
                              · refine ok_if (fun c25 => ?_) (fun c25 => ?_)
                                · have dc25 := tl_eq i3 tn_0 c25
                                  exfalso
                                  omega
                                · have dc25 := tl_ne i3 tn_0 c25
                                  exact ok_some (ti_bd iy30 (by omega) (by omega))
                              · intro y32 hyy32
                                have ly32 := hyy32
                                have iy32 : TI y32 y32.toInt := rfl
                                refine ok_ltI (av_sar 3 iy32 (by decide)) (fun x33 ix33 => ?_)
                                refine ok_ltI (av_mul ix33 tn_8 (by omega) (by omega)) (fun x34 ix34 => ?_)
                                refine ok_ltI (av_sar 3 iy31 (by decide)) (fun x35 ix35 => ?_)
                                refine ok_ltI (av_mul ix35 tn_4 (by omega) (by omega)) (fun x36 ix36 => ?_)
                                refine ok_ltI (av_add ix34 ix36 (by omega) (by omega)) (fun x37 ix37 => ?_)
                                refine ok_ltI (av_sar 2 iy32 (by decide)) (fun x38 ix38 => ?_)
                                refine ok_ltI (av_and 1 ix38 (by decide) (by decide)) (fun x39 ix39 => ?_)
                                refine ok_ltI (av_mul ix39 tn_2 (by omega) (by omega)) (fun x40 ix40 => ?_)
                                refine ok_ltI (av_add ix37 ix40 (by omega) (by omega)) (fun x41 ix41 => ?_)
                                refine ok_ltI (av_sar 2 iy31 (by decide)) (fun x42 ix42 => ?_)
                                refine ok_ltI (av_and 1 ix42 (by decide) (by decide)) (fun x43 ix43 => ?_)
                                refine ok_ltI (av_add ix41 ix43 (by omega) (by omega)) (fun x44 ix44 => ?_)
                                refine ok_ltI (av_mul tn_16 i1 (by omega) (by omega)) (fun x45 ix45 => ?_)
                                refine ok_ltI (av_add ix45 ix44 (by omega) (by omega)) (fun x46 ix46 => ?_)
                                refine ok_ltI (av_mul tn_2 ix46 (by omega) (by omega)) (fun x47 ix47 => ?_)
                                refine ok_ltI (av_add ix47 i3 (by omega) (by omega)) (fun x48 ix48 => ?_)
                                refine ok_dr (f_r (b := 149) ts25_2 rfl (by decide)) (g_lt ts25_2 (by decide)) (g_k ts25_2 (by decide) rfl) ?_
                                refine ok_chk (nxg (g_n (i := 149) (n := 1024) ts25_2 (by decide) rfl) ix48 (by omega) (by omega)) ?_
                                refine ok_ltB (ib_t ts25_2 (by simp [TYL] : (149, 0, 4) ∈ TYL) _) (fun x50 lx50 => ?_)
                                have ix50 : TI x50 x50.toInt := rfl
                                refine ok_bnd (Q := fun (z : DD) => TT G z p 2 L ∧ Fr p [15, 18] M z) ?_ ?_
                                · refine ok_if (fun c26 => ?_) (fun c26 => ?_)
                                  · have dc26 := tl_le ix50 tn_0 c26
                                    exact ok_some ⟨ts25_2, fs25_2⟩
                                  · have dc26 := tl_nle ix50 tn_0 c26
                                    refine ok_dr (pr_4 ts25_2 (tt_p t)) (by have q := (tt_q0b ts25_2 (tt_p t)); omega) (gk_2 ts25_2 (tt_p t)) ?_
                                    refine ok_chk (nxg (gl_2 ts25_2 (tt_p t)) i2 (by omega) (by omega)) ?_
                                    refine ok_ltI (av_mul is25_1 iy23 (by omega) (by omega)) (fun x55 ix55 => ?_)
                                    refine ok_ltI (av_add ix21 ix55 (by omega) (by omega)) (fun x56 ix56 => ?_)
                                    refine ok_bnd (Q := fun (z : Int32) => (0 ≤ z.toInt ∧ z.toInt ≤ 0)) ?_ ?_
                                    · refine ok_if (fun c27 => ?_) (fun c27 => ?_)
                                      · have dc27 := tl_eq i2 tn_0 c27
                                        exfalso
                                        omega
                                      · have dc27 := tl_ne i2 tn_0 c27
                                        exact ok_some (ti_bd tn_0 (by omega) (by omega))
                                    · intro y57 hyy57
                                      have ly57 := hyy57
                                      have iy57 : TI y57 (0) := ti_c ly57
                                      obtain ⟨j28, hj28, nj28, ej28⟩ := pp_v ts25_2 (tt_p t) i2 (by omega) (by omega)
                                      refine ok_bnd (s_filterLine ts25_2 ej28 (pl_3 hj28) nj28 ix56 iy22 ix50 iy57 (by omega) (by omega) (by omega) (by omega) (by omega) (by omega) (by omega) (by omega)) ?_
                                      intro y58 hyy58
                                      obtain ⟨ty58, gy58⟩ := hyy58
                                      have fy58 := fr_tr fs25_2 gy58 rfl
                                      exact ok_some ⟨ty58, fy58⟩
                                · intro y51 hyy51
                                  obtain ⟨ty51, fy51⟩ := hyy51
                                  refine ok_ltI (av_add is25_1 tn_1 (by omega) (by omega)) (fun x52 ix52 => ?_)
                                  exact ok_some ⟨⟨(ti_bd ix52 (by omega) (by omega)), ty51, fy51⟩, (mu_up ix52 (by omega) (by omega))⟩
                    · exact ⟨(ti_bd tn_0 (by omega) (by omega)), ty6, fy6⟩
                    · exact mu_0 tn_0 (by omega)
                    · intro y24 hyy24
                      obtain ⟨ly24_1, ty24_2, fy24_2⟩ := hyy24
                      have iy24_1 : TI y24.1 y24.1.toInt := rfl
                      exact ok_some ⟨ty24_2, fy24_2⟩
    · rcases h3 with rfl | rfl
      · refine ok_dr rfl (g_lt t (by decide)) (g_k t (by decide) rfl) ?_
        refine ok_bnd (Q := fun (z : Int32) => (8 ≤ z.toInt ∧ z.toInt ≤ 8)) ?_ ?_
        · refine ok_if (fun c1 => ?_) (fun c1 => ?_)
          · have dc1 := tl_eq i2 tn_0 c1
            exfalso
            omega
          · have dc1 := tl_ne i2 tn_0 c1
            exact ok_some (ti_bd tn_8 (by omega) (by omega))
        · intro y3 hyy3
          have ly3 := hyy3
          have iy3 : TI y3 (8) := ti_c ly3
          refine ok_bnd (Q := fun (z : Int32) => (-1 ≤ z.toInt ∧ z.toInt ≤ 3) ∧ ((a4 = 0 → (0 = 0 → z.toInt = a1 - 1) ∧ (0 = 1 → z.toInt = a1 - 2)) ∧ (1 ≤ a4 → z.toInt = a1))) ?_ ?_
          · refine ok_if (fun c2 => ?_) (fun c2 => ?_)
            · have dc2 := tl_le i4 tn_0 c2
              refine ok_bnd (Q := fun (z : Int32) => (-1 ≤ z.toInt ∧ z.toInt ≤ 2) ∧ ((0 = 0 → z.toInt = a1 - 1) ∧ (0 = 1 → z.toInt = a1 - 2))) ?_ ?_
              · refine ok_if (fun c3 => ?_) (fun c3 => ?_)
                · have dc3 := tl_eq i3 tn_0 c3
                  refine ok_ltI (av_sub i1 tn_1 (by omega) (by omega)) (fun x209 ix209 => ?_)
                  exact ok_some ⟨(ti_bd ix209 (by omega) (by omega)), (by have q : _ = _ := ix209; (try dsimp only); omega)⟩
                · have dc3 := tl_ne i3 tn_0 c3
                  exfalso
                  omega
              · intro y204 hyy204
                obtain ⟨ly204, jy204⟩ := hyy204
                have iy204 : TI y204 y204.toInt := rfl
                exact ok_some ⟨(ti_bd iy204 (by omega) (by omega)), (by have q : _ = _ := iy204; (try dsimp only); omega)⟩
            · have dc2 := tl_nle i4 tn_0 c2
              exact ok_some ⟨(ti_bd i1 (by omega) (by omega)), (by have q : _ = _ := i1; (try dsimp only); omega)⟩
          · intro y4 hyy4
            obtain ⟨ly4, jy4⟩ := hyy4
            have iy4 : TI y4 y4.toInt := rfl
            refine ok_if (fun c4 => ?_) (fun c4 => ?_)
            · have dc4 := tl_eq i4 tn_0 c4
              refine ok_if (fun c5 => ?_) (fun c5 => ?_)
              · have dc5 := tl_eq i3 tn_0 c5
                refine ok_dr (tt_pic t) (by have q := (tt_q0b t (tt_p t)); omega) (gk_0 t (tt_p t)) ?_
                refine ok_ltI (tw_q t (tt_p t)) (fun x137 ix137 => ?_)
                refine ok_chk (nz ix137 (by omega)) ?_
                refine ok_ltI (av_mod i1 ix137 (by omega) (by omega)) (fun x138 ix138 => ?_)
                refine ok_if (fun c6 => ?_) (fun c6 => ?_)
                · have dc6 := tl_eq ix138 tn_0 c6
                  exact ok_some ⟨t, (fr_0 p [15, 18] M)⟩
                · have dc6 := tl_ne ix138 tn_0 c6
                  refine ok_bnd (s_setThresholds t rfl iy4 i1 (by omega) (by omega) (by omega) (by omega)) ?_
                  intro y140 hyy140
                  obtain ⟨ty140, gy140⟩ := hyy140
                  have fy140 := fr_tr (fr_0 p [15, 18] M) gy140 rfl
                  refine ok_ltI (tw_q ty140 (tt_p t)) (fun x141 ix141 => ?_)
                  refine ok_ltI (av_mul iy3 ix141 (by omega) (by omega)) (fun x142 ix142 => ?_)
                  refine ok_ltI (tw_q ty140 (tt_p t)) (fun x143 ix143 => ?_)
                  refine ok_chk (nz ix143 (by omega)) ?_
                  refine ok_ltI (av_div i1 ix143 (by omega) (by omega)) (fun x144 ix144 => ?_)
                  refine ok_ltI (av_mul iy3 ix144 (by omega) (by omega)) (fun x145 ix145 => ?_)
                  refine ok_ltI (av_mul ix145 ix142 (by omega) (by omega)) (fun x146 ix146 => ?_)
                  refine ok_ltI (tw_q ty140 (tt_p t)) (fun x147 ix147 => ?_)
                  refine ok_chk (nz ix147 (by omega)) ?_
                  refine ok_ltI (av_mod i1 ix147 (by omega) (by omega)) (fun x148 ix148 => ?_)
                  refine ok_ltI (av_mul iy3 ix148 (by omega) (by omega)) (fun x149 ix149 => ?_)
                  refine ok_ltI (av_add ix146 ix149 (by omega) (by omega)) (fun x150 ix150 => ?_)
                  refine ok_ltI (av_mul tn_4 i4 (by omega) (by omega)) (fun x151 ix151 => ?_)
                  refine ok_bnd (Q := fun (z : Int32) => (1 ≤ z.toInt ∧ z.toInt ≤ 1)) ?_ ?_
                  · refine ok_if (fun c7 => ?_) (fun c7 => ?_)
                    · have dc7 := tl_eq i3 tn_0 c7
                      exact ok_some (ti_bd tn_1 (by omega) (by omega))
                    · have dc7 := tl_ne i3 tn_0 c7
                      exfalso
                      omega
                  · intro y152 hyy152
                    have ly152 := hyy152
                    have iy152 : TI y152 (1) := ti_c ly152
                    refine ok_ltI (av_mul ix151 iy152 (by omega) (by omega)) (fun x153 ix153 => ?_)
                    refine ok_ltI (av_add ix150 ix153 (by omega) (by omega)) (fun x154 ix154 => ?_)
                    refine ok_bnd (Q := fun (z : Int32) => (1 ≤ z.toInt ∧ z.toInt ≤ 1)) ?_ ?_
                    · refine ok_if (fun c8 => ?_) (fun c8 => ?_)
                      · have dc8 := tl_eq i3 tn_0 c8
                        exact ok_some (ti_bd tn_1 (by omega) (by omega))
                      · have dc8 := tl_ne i3 tn_0 c8
                        exfalso
                        omega
                    · intro y155 hyy155
                      have ly155 := hyy155
                      have iy155 : TI y155 (1) := ti_c ly155
                      refine ok_bnd (Q := fun (z : Int32) => (16 ≤ z.toInt ∧ z.toInt ≤ 16)) ?_ ?_
                      · refine ok_if (fun c9 => ?_) (fun c9 => ?_)
                        · have dc9 := tl_eq i3 tn_0 c9
                          exact ok_some (ti_bd ix142 (by omega) (by omega))
                        · have dc9 := tl_ne i3 tn_0 c9
                          exfalso
                          omega
                      · intro y156 hyy156
                        have ly156 := hyy156
                        have iy156 : TI y156 (16) := ti_c ly156
                        have ky3 : y3.toInt = _ := iy3
                        refine ok_bnd (Q := fun (z : Int32 × DD) => (0 ≤ z.1.toInt ∧ z.1.toInt ≤ y3.toInt) ∧ TT G z.2 p 2 L ∧ Fr p [15, 18] M z.2) (ok_itr (fun (z : Int32 × DD) => (0 ≤ z.1.toInt ∧ z.1.toInt ≤ y3.toInt) ∧ TT G z.2 p 2 L ∧ Fr p [15, 18] M z.2) (fun z => (y3.toInt - z.1.toInt).toNat) ?_ _ _ ?_ ?_) ?_
                        · intro s158 hys158
                          obtain ⟨ls158_1, ts158_2, fs158_2⟩ := hys158
                          have is158_1 : TI s158.1 s158.1.toInt := rfl
                          refine ok_if (fun c10 => ?_) (fun c10 => ?_)
                          · have dc10 := tl_le iy3 is158_1 c10
                            exact ok_some ⟨(ti_bd is158_1 (by omega) (by omega)), ts158_2, fs158_2⟩
                          · have dc10 := tl_nle iy3 is158_1 c10
                            refine ok_bnd (Q := fun (z : Int32) => (0 ≤ z.toInt ∧ z.toInt ≤ 14)) ?_ ?_
                            · refine ok_if (fun c11 => ?_) (fun c11 => ?_)
                              · have dc11 := tl_eq i2 tn_0 c11
                                exfalso
                                omega
                              · have dc11 := tl_ne i2 tn_0 c11
                                refine ok_ltI (av_mul tn_2 is158_1 (by omega) (by omega)) (fun x199 ix199 => ?_)
                                exact ok_some (ti_bd ix199 (by omega) (by omega))
                            · intro y162 hyy162
                              have ly162 := hyy162
                              have iy162 : TI y162 y162.toInt := rfl
                              refine ok_bnd (Q := fun (z : Int32) => (0 ≤ z.toInt ∧ z.toInt ≤ 0)) ?_ ?_
                              · refine ok_if (fun c12 => ?_) (fun c12 => ?_)
                                · have dc12 := tl_eq i2 tn_0 c12
                                  exfalso
                                  omega
                                · have dc12 := tl_ne i2 tn_0 c12
                                  refine ok_ltI (av_mul tn_8 i4 (by omega) (by omega)) (fun x196 ix196 => ?_)
                                  exact ok_some (ti_bd ix196 (by omega) (by omega))
                              · intro y163 hyy163
                                have ly163 := hyy163
                                have iy163 : TI y163 (0) := ti_c ly163
                                refine ok_bnd (Q := fun (z : Int32) => (0 ≤ z.toInt ∧ z.toInt ≤ 0)) ?_ ?_
                                · refine ok_if (fun c13 => ?_) (fun c13 => ?_)
                                  · have dc13 := tl_eq i3 tn_0 c13
                                    exact ok_some (ti_bd iy163 (by omega) (by omega))
                                  · have dc13 := tl_ne i3 tn_0 c13
                                    exfalso
                                    omega
                                · intro y164 hyy164
                                  have ly164 := hyy164
                                  have iy164 : TI y164 (0) := ti_c ly164
                                  refine ok_bnd (Q := fun (z : Int32) => (0 ≤ z.toInt ∧ z.toInt ≤ 14)) ?_ ?_
                                  · refine ok_if (fun c14 => ?_) (fun c14 => ?_)
                                    · have dc14 := tl_eq i3 tn_0 c14
                                      exact ok_some (ti_bd iy162 (by omega) (by omega))
                                    · have dc14 := tl_ne i3 tn_0 c14
                                      exfalso
                                      omega
                                  · intro y165 hyy165
                                    have ly165 := hyy165
                                    have iy165 : TI y165 y165.toInt := rfl
                                    refine ok_ltI (av_sar 3 iy165 (by decide)) (fun x166 ix166 => ?_)
                                    refine ok_ltI (av_mul ix166 tn_8 (by omega) (by omega)) (fun x167 ix167 => ?_)
                                    refine ok_ltI (av_sar 3 iy164 (by decide)) (fun x168 ix168 => ?_)
                                    refine ok_ltI (av_mul ix168 tn_4 (by omega) (by omega)) (fun x169 ix169 => ?_)
                                    refine ok_ltI (av_add ix167 ix169 (by omega) (by omega)) (fun x170 ix170 => ?_)
                                    refine ok_ltI (av_sar 2 iy165 (by decide)) (fun x171 ix171 => ?_)
                                    refine ok_ltI (av_and 1 ix171 (by decide) (by decide)) (fun x172 ix172 => ?_)
                                    refine ok_ltI (av_mul ix172 tn_2 (by omega) (by omega)) (fun x173 ix173 => ?_)
                                    refine ok_ltI (av_add ix170 ix173 (by omega) (by omega)) (fun x174 ix174 => ?_)
                                    refine ok_ltI (av_sar 2 iy164 (by decide)) (fun x175 ix175 => ?_)
                                    refine ok_ltI (av_and 1 ix175 (by decide) (by decide)) (fun x176 ix176 => ?_)
                                    refine ok_ltI (av_add ix174 ix176 (by omega) (by omega)) (fun x177 ix177 => ?_)
                                    refine ok_ltI (av_mul tn_16 i1 (by omega) (by omega)) (fun x178 ix178 => ?_)
                                    refine ok_ltI (av_add ix178 ix177 (by omega) (by omega)) (fun x179 ix179 => ?_)
                                    refine ok_ltI (av_mul tn_2 ix179 (by omega) (by omega)) (fun x180 ix180 => ?_)
                                    refine ok_ltI (av_add ix180 i3 (by omega) (by omega)) (fun x181 ix181 => ?_)
                                    refine ok_dr (f_r (b := 149) ts158_2 rfl (by decide)) (g_lt ts158_2 (by decide)) (g_k ts158_2 (by decide) rfl) ?_
                                    refine ok_chk (nxg (g_n (i := 149) (n := 1024) ts158_2 (by decide) rfl) ix181 (by omega) (by omega)) ?_
                                    refine ok_ltB (ib_t ts158_2 (by simp [TYL] : (149, 0, 4) ∈ TYL) _) (fun x183 lx183 => ?_)
                                    have ix183 : TI x183 x183.toInt := rfl
                                    refine ok_bnd (Q := fun (z : DD) => TT G z p 2 L ∧ Fr p [15, 18] M z) ?_ ?_
                                    · refine ok_if (fun c15 => ?_) (fun c15 => ?_)
                                      · have dc15 := tl_le ix183 tn_0 c15
                                        exact ok_some ⟨ts158_2, fs158_2⟩
                                      · have dc15 := tl_nle ix183 tn_0 c15
                                        refine ok_dr (pr_4 ts158_2 (tt_p t)) (by have q := (tt_q0b ts158_2 (tt_p t)); omega) (gk_2 ts158_2 (tt_p t)) ?_
                                        refine ok_chk (nxg (gl_2 ts158_2 (tt_p t)) i2 (by omega) (by omega)) ?_
                                        refine ok_ltI (av_mul is158_1 iy156 (by omega) (by omega)) (fun x188 ix188 => ?_)
                                        refine ok_ltI (av_add ix154 ix188 (by omega) (by omega)) (fun x189 ix189 => ?_)
                                        refine ok_bnd (Q := fun (z : Int32) => (0 ≤ z.toInt ∧ z.toInt ≤ 0)) ?_ ?_
                                        · refine ok_if (fun c16 => ?_) (fun c16 => ?_)
                                          · have dc16 := tl_eq i2 tn_0 c16
                                            exfalso
                                            omega
                                          · have dc16 := tl_ne i2 tn_0 c16
                                            exact ok_some (ti_bd tn_0 (by omega) (by omega))
                                        · intro y190 hyy190
                                          have ly190 := hyy190
                                          have iy190 : TI y190 (0) := ti_c ly190
                                          obtain ⟨j17, hj17, nj17, ej17⟩ := pp_v ts158_2 (tt_p t) i2 (by omega) (by omega)
                                          refine ok_bnd (s_filterLine ts158_2 ej17 (pl_3 hj17) nj17 ix189 iy155 ix183 iy190 (by omega) (by omega) (by omega) (by omega) (by omega) (by omega) (by omega) (by omega)) ?_
                                          intro y191 hyy191
                                          obtain ⟨ty191, gy191⟩ := hyy191
                                          have fy191 := fr_tr fs158_2 gy191 rfl
                                          exact ok_some ⟨ty191, fy191⟩
                                    · intro y184 hyy184
                                      obtain ⟨ty184, fy184⟩ := hyy184
                                      refine ok_ltI (av_add is158_1 tn_1 (by omega) (by omega)) (fun x185 ix185 => ?_)
                                      exact ok_some ⟨⟨(ti_bd ix185 (by omega) (by omega)), ty184, fy184⟩, (mu_up ix185 (by omega) (by omega))⟩
                        · exact ⟨(ti_bd tn_0 (by omega) (by omega)), ty140, fy140⟩
                        · exact mu_0 tn_0 (by omega)
                        · intro y157 hyy157
                          obtain ⟨ly157_1, ty157_2, fy157_2⟩ := hyy157
                          have iy157_1 : TI y157.1 y157.1.toInt := rfl
                          exact ok_some ⟨ty157_2, fy157_2⟩
              · have dc5 := tl_ne i3 tn_0 c5
                exfalso
                omega
            · have dc4 := tl_ne i4 tn_0 c4
              refine ok_bnd (s_setThresholds t rfl iy4 i1 (by omega) (by omega) (by omega) (by omega)) ?_
              intro y6 hyy6
              obtain ⟨ty6, gy6⟩ := hyy6
              have fy6 := fr_tr (fr_0 p [15, 18] M) gy6 rfl
              refine ok_dr (tt_pic t) (by have q := (tt_q0b ty6 (tt_p t)); omega) (gk_0 ty6 (tt_p t)) ?_
              refine ok_ltI (tw_q ty6 (tt_p t)) (fun x8 ix8 => ?_)
              refine ok_ltI (av_mul iy3 ix8 (by omega) (by omega)) (fun x9 ix9 => ?_)
              refine ok_ltI (tw_q ty6 (tt_p t)) (fun x10 ix10 => ?_)
              refine ok_chk (nz ix10 (by omega)) ?_
              refine ok_ltI (av_div i1 ix10 (by omega) (by omega)) (fun x11 ix11 => ?_)
              refine ok_ltI (av_mul iy3 ix11 (by omega) (by omega)) (fun x12 ix12 => ?_)
              refine ok_ltI (av_mul ix12 ix9 (by omega) (by omega)) (fun x13 ix13 => ?_)
              refine ok_ltI (tw_q ty6 (tt_p t)) (fun x14 ix14 => ?_)
              refine ok_chk (nz ix14 (by omega)) ?_
              refine ok_ltI (av_mod i1 ix14 (by omega) (by omega)) (fun x15 ix15 => ?_)
              refine ok_ltI (av_mul iy3 ix15 (by omega) (by omega)) (fun x16 ix16 => ?_)
              refine ok_ltI (av_add ix13 ix16 (by omega) (by omega)) (fun x17 ix17 => ?_)
              refine ok_ltI (av_mul tn_4 i4 (by omega) (by omega)) (fun x18 ix18 => ?_)
              refine ok_bnd (Q := fun (z : Int32) => (1 ≤ z.toInt ∧ z.toInt ≤ 1)) ?_ ?_
              · refine ok_if (fun c18 => ?_) (fun c18 => ?_)
                · have dc18 := tl_eq i3 tn_0 c18
                  exact ok_some (ti_bd tn_1 (by omega) (by omega))
                · have dc18 := tl_ne i3 tn_0 c18
                  exfalso
                  omega
              · intro y19 hyy19
                have ly19 := hyy19
                have iy19 : TI y19 (1) := ti_c ly19
                refine ok_ltI (av_mul ix18 iy19 (by omega) (by omega)) (fun x20 ix20 => ?_)
                refine ok_ltI (av_add ix17 ix20 (by omega) (by omega)) (fun x21 ix21 => ?_)
                refine ok_bnd (Q := fun (z : Int32) => (1 ≤ z.toInt ∧ z.toInt ≤ 1)) ?_ ?_
                · refine ok_if (fun c19 => ?_) (fun c19 => ?_)
                  · have dc19 := tl_eq i3 tn_0 c19
                    exact ok_some (ti_bd tn_1 (by omega) (by omega))
                  · have dc19 := tl_ne i3 tn_0 c19
                    exfalso
                    omega
                · intro y22 hyy22
                  have ly22 := hyy22
                  have iy22 : TI y22 (1) := ti_c ly22
                  refine ok_bnd (Q := fun (z : Int32) => (16 ≤ z.toInt ∧ z.toInt ≤ 16)) ?_ ?_
                  · refine ok_if (fun c20 => ?_) (fun c20 => ?_)
                    · have dc20 := tl_eq i3 tn_0 c20
                      exact ok_some (ti_bd ix9 (by omega) (by omega))
                    · have dc20 := tl_ne i3 tn_0 c20
                      exfalso
                      omega
                  · intro y23 hyy23
                    have ly23 := hyy23
                    have iy23 : TI y23 (16) := ti_c ly23
                    have ky3 : y3.toInt = _ := iy3
                    refine ok_bnd (Q := fun (z : Int32 × DD) => (0 ≤ z.1.toInt ∧ z.1.toInt ≤ y3.toInt) ∧ TT G z.2 p 2 L ∧ Fr p [15, 18] M z.2) (ok_itr (fun (z : Int32 × DD) => (0 ≤ z.1.toInt ∧ z.1.toInt ≤ y3.toInt) ∧ TT G z.2 p 2 L ∧ Fr p [15, 18] M z.2) (fun z => (y3.toInt - z.1.toInt).toNat) ?_ _ _ ?_ ?_) ?_
                    · intro s25 hys25
                      obtain ⟨ls25_1, ts25_2, fs25_2⟩ := hys25
                      have is25_1 : TI s25.1 s25.1.toInt := rfl
                      refine ok_if (fun c21 => ?_) (fun c21 => ?_)
                      · have dc21 := tl_le iy3 is25_1 c21
                        exact ok_some ⟨(ti_bd is25_1 (by omega) (by omega)), ts25_2, fs25_2⟩
                      · have dc21 := tl_nle iy3 is25_1 c21
                        refine ok_bnd (Q := fun (z : Int32) => (0 ≤ z.toInt ∧ z.toInt ≤ 14)) ?_ ?_
                        · refine ok_if (fun c22 => ?_) (fun c22 => ?_)
                          · have dc22 := tl_eq i2 tn_0 c22
                            exfalso
                            omega
                          · have dc22 := tl_ne i2 tn_0 c22
                            refine ok_ltI (av_mul tn_2 is25_1 (by omega) (by omega)) (fun x66 ix66 => ?_)
                            exact ok_some (ti_bd ix66 (by omega) (by omega))
                        · intro y29 hyy29
                          have ly29 := hyy29
                          have iy29 : TI y29 y29.toInt := rfl
                          refine ok_bnd (Q := fun (z : Int32) => (8 ≤ z.toInt ∧ z.toInt ≤ 24)) ?_ ?_
                          · refine ok_if (fun c23 => ?_) (fun c23 => ?_)
                            · have dc23 := tl_eq i2 tn_0 c23
                              exfalso
                              omega
                            · have dc23 := tl_ne i2 tn_0 c23
                              refine ok_ltI (av_mul tn_8 i4 (by omega) (by omega)) (fun x63 ix63 => ?_)
                              exact ok_some (ti_bd ix63 (by omega) (by omega))
                          · intro y30 hyy30
                            have ly30 := hyy30
                            have iy30 : TI y30 y30.toInt := rfl
                            refine ok_bnd (Q := fun (z : Int32) => (8 ≤ z.toInt ∧ z.toInt ≤ 24)) ?_ ?_
                            · refine ok_if (fun c24 => ?_) (fun c24 => ?_)
                              · have dc24 := tl_eq i3 tn_0 c24
                                exact ok_some (ti_bd iy30 (by omega) (by omega))
                              · have dc24 := tl_ne i3 tn_0 c24
                                exfalso
                                omega
                            · intro y31 hyy31
                              have ly31 := hyy31
                              have iy31 : TI y31 y31.toInt := rfl
                              refine ok_bnd (Q := fun (z : Int32) => (0 ≤ z.toInt ∧ z.toInt ≤ 14)) ?_ ?_
                              · refine ok_if (fun c25 => ?_) (fun c25 => ?_)
                                · have dc25 := tl_eq i3 tn_0 c25
                                  exact ok_some (ti_bd iy29 (by omega) (by omega))
                                · have dc25 := tl_ne i3 tn_0 c25
                                  exfalso
                                  omega
                              · intro y32 hyy32
                                have ly32 := hyy32
                                have iy32 : TI y32 y32.toInt := rfl
                                refine ok_ltI (av_sar 3 iy32 (by decide)) (fun x33 ix33 => ?_)
                                refine ok_ltI (av_mul ix33 tn_8 (by omega) (by omega)) (fun x34 ix34 => ?_)
                                refine ok_ltI (av_sar 3 iy31 (by decide)) (fun x35 ix35 => ?_)
                                refine ok_ltI (av_mul ix35 tn_4 (by omega) (by omega)) (fun x36 ix36 => ?_)
                                refine ok_ltI (av_add ix34 ix36 (by omega) (by omega)) (fun x37 ix37 => ?_)
                                refine ok_ltI (av_sar 2 iy32 (by decide)) (fun x38 ix38 => ?_)
                                refine ok_ltI (av_and 1 ix38 (by decide) (by decide)) (fun x39 ix39 => ?_)
                                refine ok_ltI (av_mul ix39 tn_2 (by omega) (by omega)) (fun x40 ix40 => ?_)
                                refine ok_ltI (av_add ix37 ix40 (by omega) (by omega)) (fun x41 ix41 => ?_)
                                refine ok_ltI (av_sar 2 iy31 (by decide)) (fun x42 ix42 => ?_)
                                refine ok_ltI (av_and 1 ix42 (by decide) (by decide)) (fun x43 ix43 => ?_)
                                refine ok_ltI (av_add ix41 ix43 (by omega) (by omega)) (fun x44 ix44 => ?_)
                                refine ok_ltI (av_mul tn_16 i1 (by omega) (by omega)) (fun x45 ix45 => ?_)
                                refine ok_ltI (av_add ix45 ix44 (by omega) (by omega)) (fun x46 ix46 => ?_)
                                refine ok_ltI (av_mul tn_2 ix46 (by omega) (by omega)) (fun x47 ix47 => ?_)
                                refine ok_ltI (av_add ix47 i3 (by omega) (by omega)) (fun x48 ix48 => ?_)
                                refine ok_dr (f_r (b := 149) ts25_2 rfl (by decide)) (g_lt ts25_2 (by decide)) (g_k ts25_2 (by decide) rfl) ?_
                                refine ok_chk (nxg (g_n (i := 149) (n := 1024) ts25_2 (by decide) rfl) ix48 (by omega) (by omega)) ?_
                                refine ok_ltB (ib_t ts25_2 (by simp [TYL] : (149, 0, 4) ∈ TYL) _) (fun x50 lx50 => ?_)
                                have ix50 : TI x50 x50.toInt := rfl
                                refine ok_bnd (Q := fun (z : DD) => TT G z p 2 L ∧ Fr p [15, 18] M z) ?_ ?_
                                · refine ok_if (fun c26 => ?_) (fun c26 => ?_)
                                  · have dc26 := tl_le ix50 tn_0 c26
                                    exact ok_some ⟨ts25_2, fs25_2⟩
                                  · have dc26 := tl_nle ix50 tn_0 c26
                                    refine ok_dr (pr_4 ts25_2 (tt_p t)) (by have q := (tt_q0b ts25_2 (tt_p t)); omega) (gk_2 ts25_2 (tt_p t)) ?_
                                    refine ok_chk (nxg (gl_2 ts25_2 (tt_p t)) i2 (by omega) (by omega)) ?_
                                    refine ok_ltI (av_mul is25_1 iy23 (by omega) (by omega)) (fun x55 ix55 => ?_)
                                    refine ok_ltI (av_add ix21 ix55 (by omega) (by omega)) (fun x56 ix56 => ?_)
                                    refine ok_bnd (Q := fun (z : Int32) => (0 ≤ z.toInt ∧ z.toInt ≤ 0)) ?_ ?_
                                    · refine ok_if (fun c27 => ?_) (fun c27 => ?_)
                                      · have dc27 := tl_eq i2 tn_0 c27
                                        exfalso
                                        omega
                                      · have dc27 := tl_ne i2 tn_0 c27
                                        exact ok_some (ti_bd tn_0 (by omega) (by omega))
                                    · intro y57 hyy57
                                      have ly57 := hyy57
                                      have iy57 : TI y57 (0) := ti_c ly57
                                      obtain ⟨j28, hj28, nj28, ej28⟩ := pp_v ts25_2 (tt_p t) i2 (by omega) (by omega)
                                      refine ok_bnd (s_filterLine ts25_2 ej28 (pl_3 hj28) nj28 ix56 iy22 ix50 iy57 (by omega) (by omega) (by omega) (by omega) (by omega) (by omega) (by omega) (by omega)) ?_
                                      intro y58 hyy58
                                      obtain ⟨ty58, gy58⟩ := hyy58
                                      have fy58 := fr_tr fs25_2 gy58 rfl
                                      exact ok_some ⟨ty58, fy58⟩
                                · intro y51 hyy51
                                  obtain ⟨ty51, fy51⟩ := hyy51
                                  refine ok_ltI (av_add is25_1 tn_1 (by omega) (by omega)) (fun x52 ix52 => ?_)
                                  exact ok_some ⟨⟨(ti_bd ix52 (by omega) (by omega)), ty51, fy51⟩, (mu_up ix52 (by omega) (by omega))⟩
                    · exact ⟨(ti_bd tn_0 (by omega) (by omega)), ty6, fy6⟩
                    · exact mu_0 tn_0 (by omega)
                    · intro y24 hyy24
                      obtain ⟨ly24_1, ty24_2, fy24_2⟩ := hyy24
                      have iy24_1 : TI y24.1 y24.1.toInt := rfl
                      exact ok_some ⟨ty24_2, fy24_2⟩
      · refine ok_dr rfl (g_lt t (by decide)) (g_k t (by decide) rfl) ?_
        refine ok_bnd (Q := fun (z : Int32) => (8 ≤ z.toInt ∧ z.toInt ≤ 8)) ?_ ?_
        · refine ok_if (fun c1 => ?_) (fun c1 => ?_)
          · have dc1 := tl_eq i2 tn_0 c1
            exfalso
            omega
          · have dc1 := tl_ne i2 tn_0 c1
            exact ok_some (ti_bd tn_8 (by omega) (by omega))
        · intro y3 hyy3
          have ly3 := hyy3
          have iy3 : TI y3 (8) := ti_c ly3
          refine ok_bnd (Q := fun (z : Int32) => (-2 ≤ z.toInt ∧ z.toInt ≤ 3) ∧ ((a4 = 0 → (1 = 0 → z.toInt = a1 - 1) ∧ (1 = 1 → z.toInt = a1 - 2)) ∧ (1 ≤ a4 → z.toInt = a1))) ?_ ?_
          · refine ok_if (fun c2 => ?_) (fun c2 => ?_)
            · have dc2 := tl_le i4 tn_0 c2
              refine ok_bnd (Q := fun (z : Int32) => (-2 ≤ z.toInt ∧ z.toInt ≤ 1) ∧ ((1 = 0 → z.toInt = a1 - 1) ∧ (1 = 1 → z.toInt = a1 - 2))) ?_ ?_
              · refine ok_if (fun c3 => ?_) (fun c3 => ?_)
                · have dc3 := tl_eq i3 tn_0 c3
                  exfalso
                  omega
                · have dc3 := tl_ne i3 tn_0 c3
                  refine ok_dr (tt_pic t) (by have q := (tt_q0b t (tt_p t)); omega) (gk_0 t (tt_p t)) ?_
                  refine ok_ltI (tw_q t (tt_p t)) (fun x207 ix207 => ?_)
                  refine ok_ltI (av_sub i1 ix207 (by omega) (by omega)) (fun x208 ix208 => ?_)
                  exact ok_some ⟨(ti_bd ix208 (by omega) (by omega)), (by have q : _ = _ := ix208; (try dsimp only); omega)⟩
              · intro y204 hyy204
                obtain ⟨ly204, jy204⟩ := hyy204
                have iy204 : TI y204 y204.toInt := rfl
                exact ok_some ⟨(ti_bd iy204 (by omega) (by omega)), (by have q : _ = _ := iy204; (try dsimp only); omega)⟩
            · have dc2 := tl_nle i4 tn_0 c2
              exact ok_some ⟨(ti_bd i1 (by omega) (by omega)), (by have q : _ = _ := i1; (try dsimp only); omega)⟩
          · intro y4 hyy4
            obtain ⟨ly4, jy4⟩ := hyy4
            have iy4 : TI y4 y4.toInt := rfl
            refine ok_if (fun c4 => ?_) (fun c4 => ?_)
            · have dc4 := tl_eq i4 tn_0 c4
              refine ok_if (fun c5 => ?_) (fun c5 => ?_)
              · have dc5 := tl_eq i3 tn_0 c5
                exfalso
                omega
              · have dc5 := tl_ne i3 tn_0 c5
                refine ok_if (fun c6 => ?_) (fun c6 => ?_)
                · have dc6 := tl_le tn_0 iy4 c6
                  refine ok_bnd (s_setThresholds t rfl iy4 i1 (by omega) (by omega) (by omega) (by omega)) ?_
                  intro y72 hyy72
                  obtain ⟨ty72, gy72⟩ := hyy72
                  have fy72 := fr_tr (fr_0 p [15, 18] M) gy72 rfl
                  refine ok_dr (tt_pic t) (by have q := (tt_q0b ty72 (tt_p t)); omega) (gk_0 ty72 (tt_p t)) ?_
                  refine ok_ltI (tw_q ty72 (tt_p t)) (fun x74 ix74 => ?_)
                  refine ok_ltI (av_mul iy3 ix74 (by omega) (by omega)) (fun x75 ix75 => ?_)
                  refine ok_ltI (tw_q ty72 (tt_p t)) (fun x76 ix76 => ?_)
                  refine ok_chk (nz ix76 (by omega)) ?_
                  refine ok_ltI (av_div i1 ix76 (by omega) (by omega)) (fun x77 ix77 => ?_)
                  refine ok_ltI (av_mul iy3 ix77 (by omega) (by omega)) (fun x78 ix78 => ?_)
                  refine ok_ltI (av_mul ix78 ix75 (by omega) (by omega)) (fun x79 ix79 => ?_)
                  refine ok_ltI (tw_q ty72 (tt_p t)) (fun x80 ix80 => ?_)
                  refine ok_chk (nz ix80 (by omega)) ?_
                  refine ok_ltI (av_mod i1 ix80 (by omega) (by omega)) (fun x81 ix81 => ?_)
                  refine ok_ltI (av_mul iy3 ix81 (by omega) (by omega)) (fun x82 ix82 => ?_)
                  refine ok_ltI (av_add ix79 ix82 (by omega) (by omega)) (fun x83 ix83 => ?_)
                  refine ok_ltI (av_mul tn_4 i4 (by omega) (by omega)) (fun x84 ix84 => ?_)
                  refine ok_bnd (Q := fun (z : Int32) => (16 ≤ z.toInt ∧ z.toInt ≤ 16)) ?_ ?_
                  · refine ok_if (fun c7 => ?_) (fun c7 => ?_)
                    · have dc7 := tl_eq i3 tn_0 c7
                      exfalso
                      omega
                    · have dc7 := tl_ne i3 tn_0 c7
                      exact ok_some (ti_bd ix75 (by omega) (by omega))
                  · intro y85 hyy85
                    have ly85 := hyy85
                    have iy85 : TI y85 (16) := ti_c ly85
                    refine ok_ltI (av_mul ix84 iy85 (by omega) (by omega)) (fun x86 ix86 => ?_)
                    refine ok_ltI (av_add ix83 ix86 (by omega) (by omega)) (fun x87 ix87 => ?_)
                    refine ok_bnd (Q := fun (z : Int32) => (16 ≤ z.toInt ∧ z.toInt ≤ 16)) ?_ ?_
                    · refine ok_if (fun c8 => ?_) (fun c8 => ?_)
                      · have dc8 := tl_eq i3 tn_0 c8
                        exfalso
                        omega
                      · have dc8 := tl_ne i3 tn_0 c8
                        exact ok_some (ti_bd ix75 (by omega) (by omega))
                    · intro y88 hyy88
                      have ly88 := hyy88
                      have iy88 : TI y88 (16) := ti_c ly88
                      refine ok_bnd (Q := fun (z : Int32) => (1 ≤ z.toInt ∧ z.toInt ≤ 1)) ?_ ?_
                      · refine ok_if (fun c9 => ?_) (fun c9 => ?_)
                        · have dc9 := tl_eq i3 tn_0 c9
                          exfalso
                          omega
                        · have dc9 := tl_ne i3 tn_0 c9
                          exact ok_some (ti_bd tn_1 (by omega) (by omega))
                      · intro y89 hyy89
                        have ly89 := hyy89
                        have iy89 : TI y89 (1) := ti_c ly89
                        have ky3 : y3.toInt = _ := iy3
                        refine ok_bnd (Q := fun (z : Int32 × DD) => (0 ≤ z.1.toInt ∧ z.1.toInt ≤ y3.toInt) ∧ TT G z.2 p 2 L ∧ Fr p [15, 18] M z.2) (ok_itr (fun (z : Int32 × DD) => (0 ≤ z.1.toInt ∧ z.1.toInt ≤ y3.toInt) ∧ TT G z.2 p 2 L ∧ Fr p [15, 18] M z.2) (fun z => (y3.toInt - z.1.toInt).toNat) ?_ _ _ ?_ ?_) ?_
                        · intro s91 hys91
                          obtain ⟨ls91_1, ts91_2, fs91_2⟩ := hys91
                          have is91_1 : TI s91.1 s91.1.toInt := rfl
                          refine ok_if (fun c10 => ?_) (fun c10 => ?_)
                          · have dc10 := tl_le iy3 is91_1 c10
                            exact ok_some ⟨(ti_bd is91_1 (by omega) (by omega)), ts91_2, fs91_2⟩
                          · have dc10 := tl_nle iy3 is91_1 c10
                            refine ok_bnd (Q := fun (z : Int32) => (0 ≤ z.toInt ∧ z.toInt ≤ 14)) ?_ ?_
                            · refine ok_if (fun c11 => ?_) (fun c11 => ?_)
                              · have dc11 := tl_eq i2 tn_0 c11
                                exfalso
                                omega
                              · have dc11 := tl_ne i2 tn_0 c11
                                refine ok_ltI (av_mul tn_2 is91_1 (by omega) (by omega)) (fun x132 ix132 => ?_)
                                exact ok_some (ti_bd ix132 (by omega) (by omega))
                            · intro y95 hyy95
                              have ly95 := hyy95
                              have iy95 : TI y95 y95.toInt := rfl
                              refine ok_bnd (Q := fun (z : Int32) => (0 ≤ z.toInt ∧ z.toInt ≤ 0)) ?_ ?_
                              · refine ok_if (fun c12 => ?_) (fun c12 => ?_)
                                · have dc12 := tl_eq i2 tn_0 c12
                                  exfalso
                                  omega
                                · have dc12 := tl_ne i2 tn_0 c12
                                  refine ok_ltI (av_mul tn_8 i4 (by omega) (by omega)) (fun x129 ix129 => ?_)
                                  exact ok_some (ti_bd ix129 (by omega) (by omega))
                              · intro y96 hyy96
                                have ly96 := hyy96
                                have iy96 : TI y96 (0) := ti_c ly96
                                refine ok_bnd (Q := fun (z : Int32) => (0 ≤ z.toInt ∧ z.toInt ≤ 14)) ?_ ?_
                                · refine ok_if (fun c13 => ?_) (fun c13 => ?_)
                                  · have dc13 := tl_eq i3 tn_0 c13
                                    exfalso
                                    omega
                                  · have dc13 := tl_ne i3 tn_0 c13
                                    exact ok_some (ti_bd iy95 (by omega) (by omega))
                                · intro y97 hyy97
                                  have ly97 := hyy97
                                  have iy97 : TI y97 y97.toInt := rfl
                                  refine ok_bnd (Q := fun (z : Int32) => (0 ≤ z.toInt ∧ z.toInt ≤ 0)) ?_ ?_
                                  · refine ok_if (fun c14 => ?_) (fun c14 => ?_)
                                    · have dc14 := tl_eq i3 tn_0 c14
                                      exfalso
                                      omega
                                    · have dc14 := tl_ne i3 tn_0 c14
                                      exact ok_some (ti_bd iy96 (by omega) (by omega))
                                  · intro y98 hyy98
                                    have ly98 := hyy98
                                    have iy98 : TI y98 (0) := ti_c ly98
                                    refine ok_ltI (av_sar 3 iy98 (by decide)) (fun x99 ix99 => ?_)
                                    refine ok_ltI (av_mul ix99 tn_8 (by omega) (by omega)) (fun x100 ix100 => ?_)
                                    refine ok_ltI (av_sar 3 iy97 (by decide)) (fun x101 ix101 => ?_)
                                    refine ok_ltI (av_mul ix101 tn_4 (by omega) (by omega)) (fun x102 ix102 => ?_)
                                    refine ok_ltI (av_add ix100 ix102 (by omega) (by omega)) (fun x103 ix103 => ?_)
                                    refine ok_ltI (av_sar 2 iy98 (by decide)) (fun x104 ix104 => ?_)
                                    refine ok_ltI (av_and 1 ix104 (by decide) (by decide)) (fun x105 ix105 => ?_)
                                    refine ok_ltI (av_mul ix105 tn_2 (by omega) (by omega)) (fun x106 ix106 => ?_)
                                    refine ok_ltI (av_add ix103 ix106 (by omega) (by omega)) (fun x107 ix107 => ?_)
                                    refine ok_ltI (av_sar 2 iy97 (by decide)) (fun x108 ix108 => ?_)
                                    refine ok_ltI (av_and 1 ix108 (by decide) (by decide)) (fun x109 ix109 => ?_)
                                    refine ok_ltI (av_add ix107 ix109 (by omega) (by omega)) (fun x110 ix110 => ?_)
                                    refine ok_ltI (av_mul tn_16 i1 (by omega) (by omega)) (fun x111 ix111 => ?_)
                                    refine ok_ltI (av_add ix111 ix110 (by omega) (by omega)) (fun x112 ix112 => ?_)
                                    refine ok_ltI (av_mul tn_2 ix112 (by omega) (by omega)) (fun x113 ix113 => ?_)
                                    refine ok_ltI (av_add ix113 i3 (by omega) (by omega)) (fun x114 ix114 => ?_)
                                    refine ok_dr (f_r (b := 149) ts91_2 rfl (by decide)) (g_lt ts91_2 (by decide)) (g_k ts91_2 (by decide) rfl) ?_
                                    refine ok_chk (nxg (g_n (i := 149) (n := 1024) ts91_2 (by decide) rfl) ix114 (by omega) (by omega)) ?_
                                    refine ok_ltB (ib_t ts91_2 (by simp [TYL] : (149, 0, 4) ∈ TYL) _) (fun x116 lx116 => ?_)
                                    have ix116 : TI x116 x116.toInt := rfl
                                    refine ok_bnd (Q := fun (z : DD) => TT G z p 2 L ∧ Fr p [15, 18] M z) ?_ ?_
                                    · refine ok_if (fun c15 => ?_) (fun c15 => ?_)
                                      · have dc15 := tl_le ix116 tn_0 c15
                                        exact ok_some ⟨ts91_2, fs91_2⟩
                                      · have dc15 := tl_nle ix116 tn_0 c15
                                        refine ok_dr (pr_4 ts91_2 (tt_p t)) (by have q := (tt_q0b ts91_2 (tt_p t)); omega) (gk_2 ts91_2 (tt_p t)) ?_
                                        refine ok_chk (nxg (gl_2 ts91_2 (tt_p t)) i2 (by omega) (by omega)) ?_
                                        refine ok_ltI (av_mul is91_1 iy89 (by omega) (by omega)) (fun x121 ix121 => ?_)
                                        refine ok_ltI (av_add ix87 ix121 (by omega) (by omega)) (fun x122 ix122 => ?_)
                                        refine ok_bnd (Q := fun (z : Int32) => (0 ≤ z.toInt ∧ z.toInt ≤ 0)) ?_ ?_
                                        · refine ok_if (fun c16 => ?_) (fun c16 => ?_)
                                          · have dc16 := tl_eq i2 tn_0 c16
                                            exfalso
                                            omega
                                          · have dc16 := tl_ne i2 tn_0 c16
                                            exact ok_some (ti_bd tn_0 (by omega) (by omega))
                                        · intro y123 hyy123
                                          have ly123 := hyy123
                                          have iy123 : TI y123 (0) := ti_c ly123
                                          obtain ⟨j17, hj17, nj17, ej17⟩ := pp_v ts91_2 (tt_p t) i2 (by omega) (by omega)
                                          refine ok_bnd (s_filterLine ts91_2 ej17 (pl_3 hj17) nj17 ix122 iy88 ix116 iy123 (by omega) (by omega) (by omega) (by omega) (by omega) (by omega) (by omega) (by omega)) ?_
                                          intro y124 hyy124
                                          obtain ⟨ty124, gy124⟩ := hyy124
                                          have fy124 := fr_tr fs91_2 gy124 rfl
                                          exact ok_some ⟨ty124, fy124⟩
                                    · intro y117 hyy117
                                      obtain ⟨ty117, fy117⟩ := hyy117
                                      refine ok_ltI (av_add is91_1 tn_1 (by omega) (by omega)) (fun x118 ix118 => ?_)
                                      exact ok_some ⟨⟨(ti_bd ix118 (by omega) (by omega)), ty117, fy117⟩, (mu_up ix118 (by omega) (by omega))⟩
                        · exact ⟨(ti_bd tn_0 (by omega) (by omega)), ty72, fy72⟩
                        · exact mu_0 tn_0 (by omega)
                        · intro y90 hyy90
                          obtain ⟨ly90_1, ty90_2, fy90_2⟩ := hyy90
                          have iy90_1 : TI y90.1 y90.1.toInt := rfl
                          exact ok_some ⟨ty90_2, fy90_2⟩
                · have dc6 := tl_nle tn_0 iy4 c6
                  exact ok_some ⟨t, (fr_0 p [15, 18] M)⟩
            · have dc4 := tl_ne i4 tn_0 c4
              refine ok_bnd (s_setThresholds t rfl iy4 i1 (by omega) (by omega) (by omega) (by omega)) ?_
              intro y6 hyy6
              obtain ⟨ty6, gy6⟩ := hyy6
              have fy6 := fr_tr (fr_0 p [15, 18] M) gy6 rfl
              refine ok_dr (tt_pic t) (by have q := (tt_q0b ty6 (tt_p t)); omega) (gk_0 ty6 (tt_p t)) ?_
              refine ok_ltI (tw_q ty6 (tt_p t)) (fun x8 ix8 => ?_)
              refine ok_ltI (av_mul iy3 ix8 (by omega) (by omega)) (fun x9 ix9 => ?_)
              refine ok_ltI (tw_q ty6 (tt_p t)) (fun x10 ix10 => ?_)
              refine ok_chk (nz ix10 (by omega)) ?_
              refine ok_ltI (av_div i1 ix10 (by omega) (by omega)) (fun x11 ix11 => ?_)
              refine ok_ltI (av_mul iy3 ix11 (by omega) (by omega)) (fun x12 ix12 => ?_)
              refine ok_ltI (av_mul ix12 ix9 (by omega) (by omega)) (fun x13 ix13 => ?_)
              refine ok_ltI (tw_q ty6 (tt_p t)) (fun x14 ix14 => ?_)
              refine ok_chk (nz ix14 (by omega)) ?_
              refine ok_ltI (av_mod i1 ix14 (by omega) (by omega)) (fun x15 ix15 => ?_)
              refine ok_ltI (av_mul iy3 ix15 (by omega) (by omega)) (fun x16 ix16 => ?_)
              refine ok_ltI (av_add ix13 ix16 (by omega) (by omega)) (fun x17 ix17 => ?_)
              refine ok_ltI (av_mul tn_4 i4 (by omega) (by omega)) (fun x18 ix18 => ?_)
              refine ok_bnd (Q := fun (z : Int32) => (16 ≤ z.toInt ∧ z.toInt ≤ 16)) ?_ ?_
              · refine ok_if (fun c18 => ?_) (fun c18 => ?_)
                · have dc18 := tl_eq i3 tn_0 c18
                  exfalso
                  omega
                · have dc18 := tl_ne i3 tn_0 c18
                  exact ok_some (ti_bd ix9 (by omega) (by omega))
              · intro y19 hyy19
                have ly19 := hyy19
                have iy19 : TI y19 (16) := ti_c ly19
                refine ok_ltI (av_mul ix18 iy19 (by omega) (by omega)) (fun x20 ix20 => ?_)
                refine ok_ltI (av_add ix17 ix20 (by omega) (by omega)) (fun x21 ix21 => ?_)
                refine ok_bnd (Q := fun (z : Int32) => (16 ≤ z.toInt ∧ z.toInt ≤ 16)) ?_ ?_
                · refine ok_if (fun c19 => ?_) (fun c19 => ?_)
                  · have dc19 := tl_eq i3 tn_0 c19
                    exfalso
                    omega
                  · have dc19 := tl_ne i3 tn_0 c19
                    exact ok_some (ti_bd ix9 (by omega) (by omega))
                · intro y22 hyy22
                  have ly22 := hyy22
                  have iy22 : TI y22 (16) := ti_c ly22
                  refine ok_bnd (Q := fun (z : Int32) => (1 ≤ z.toInt ∧ z.toInt ≤ 1)) ?_ ?_
                  · refine ok_if (fun c20 => ?_) (fun c20 => ?_)
                    · have dc20 := tl_eq i3 tn_0 c20
                      exfalso
                      omega
                    · have dc20 := tl_ne i3 tn_0 c20
                      exact ok_some (ti_bd tn_1 (by omega) (by omega))
                  · intro y23 hyy23
                    have ly23 := hyy23
                    have iy23 : TI y23 (1) := ti_c ly23
                    have ky3 : y3.toInt = _ := iy3
                    refine ok_bnd (Q := fun (z : Int32 × DD) => (0 ≤ z.1.toInt ∧ z.1.toInt ≤ y3.toInt) ∧ TT G z.2 p 2 L ∧ Fr p [15, 18] M z.2) (ok_itr (fun (z : Int32 × DD) => (0 ≤ z.1.toInt ∧ z.1.toInt ≤ y3.toInt) ∧ TT G z.2 p 2 L ∧ Fr p [15, 18] M z.2) (fun z => (y3.toInt - z.1.toInt).toNat) ?_ _ _ ?_ ?_) ?_
                    · intro s25 hys25
                      obtain ⟨ls25_1, ts25_2, fs25_2⟩ := hys25
                      have is25_1 : TI s25.1 s25.1.toInt := rfl
                      refine ok_if (fun c21 => ?_) (fun c21 => ?_)
                      · have dc21 := tl_le iy3 is25_1 c21
                        exact ok_some ⟨(ti_bd is25_1 (by omega) (by omega)), ts25_2, fs25_2⟩
                      · have dc21 := tl_nle iy3 is25_1 c21
                        refine ok_bnd (Q := fun (z : Int32) => (0 ≤ z.toInt ∧ z.toInt ≤ 14)) ?_ ?_
                        · refine ok_if (fun c22 => ?_) (fun c22 => ?_)
                          · have dc22 := tl_eq i2 tn_0 c22
                            exfalso
                            omega
                          · have dc22 := tl_ne i2 tn_0 c22
                            refine ok_ltI (av_mul tn_2 is25_1 (by omega) (by omega)) (fun x66 ix66 => ?_)
                            exact ok_some (ti_bd ix66 (by omega) (by omega))
                        · intro y29 hyy29
                          have ly29 := hyy29
                          have iy29 : TI y29 y29.toInt := rfl
                          refine ok_bnd (Q := fun (z : Int32) => (8 ≤ z.toInt ∧ z.toInt ≤ 24)) ?_ ?_
                          · refine ok_if (fun c23 => ?_) (fun c23 => ?_)
                            · have dc23 := tl_eq i2 tn_0 c23
                              exfalso
                              omega
                            · have dc23 := tl_ne i2 tn_0 c23
                              refine ok_ltI (av_mul tn_8 i4 (by omega) (by omega)) (fun x63 ix63 => ?_)
                              exact ok_some (ti_bd ix63 (by omega) (by omega))
                          · intro y30 hyy30
                            have ly30 := hyy30
                            have iy30 : TI y30 y30.toInt := rfl
                            refine ok_bnd (Q := fun (z : Int32) => (0 ≤ z.toInt ∧ z.toInt ≤ 14)) ?_ ?_
                            · refine ok_if (fun c24 => ?_) (fun c24 => ?_)
                              · have dc24 := tl_eq i3 tn_0 c24
                                exfalso
                                omega
                              · have dc24 := tl_ne i3 tn_0 c24
                                exact ok_some (ti_bd iy29 (by omega) (by omega))
                            · intro y31 hyy31
                              have ly31 := hyy31
                              have iy31 : TI y31 y31.toInt := rfl
                              refine ok_bnd (Q := fun (z : Int32) => (8 ≤ z.toInt ∧ z.toInt ≤ 24)) ?_ ?_
                              · refine ok_if (fun c25 => ?_) (fun c25 => ?_)
                                · have dc25 := tl_eq i3 tn_0 c25
                                  exfalso
                                  omega
                                · have dc25 := tl_ne i3 tn_0 c25
                                  exact ok_some (ti_bd iy30 (by omega) (by omega))
                              · intro y32 hyy32
                                have ly32 := hyy32
                                have iy32 : TI y32 y32.toInt := rfl
                                refine ok_ltI (av_sar 3 iy32 (by decide)) (fun x33 ix33 => ?_)
                                refine ok_ltI (av_mul ix33 tn_8 (by omega) (by omega)) (fun x34 ix34 => ?_)
                                refine ok_ltI (av_sar 3 iy31 (by decide)) (fun x35 ix35 => ?_)
                                refine ok_ltI (av_mul ix35 tn_4 (by omega) (by omega)) (fun x36 ix36 => ?_)
                                refine ok_ltI (av_add ix34 ix36 (by omega) (by omega)) (fun x37 ix37 => ?_)
                                refine ok_ltI (av_sar 2 iy32 (by decide)) (fun x38 ix38 => ?_)
                                refine ok_ltI (av_and 1 ix38 (by decide) (by decide)) (fun x39 ix39 => ?_)
                                refine ok_ltI (av_mul ix39 tn_2 (by omega) (by omega)) (fun x40 ix40 => ?_)
                                refine ok_ltI (av_add ix37 ix40 (by omega) (by omega)) (fun x41 ix41 => ?_)
                                refine ok_ltI (av_sar 2 iy31 (by decide)) (fun x42 ix42 => ?_)
                                refine ok_ltI (av_and 1 ix42 (by decide) (by decide)) (fun x43 ix43 => ?_)
                                refine ok_ltI (av_add ix41 ix43 (by omega) (by omega)) (fun x44 ix44 => ?_)
                                refine ok_ltI (av_mul tn_16 i1 (by omega) (by omega)) (fun x45 ix45 => ?_)
                                refine ok_ltI (av_add ix45 ix44 (by omega) (by omega)) (fun x46 ix46 => ?_)
                                refine ok_ltI (av_mul tn_2 ix46 (by omega) (by omega)) (fun x47 ix47 => ?_)
                                refine ok_ltI (av_add ix47 i3 (by omega) (by omega)) (fun x48 ix48 => ?_)
                                refine ok_dr (f_r (b := 149) ts25_2 rfl (by decide)) (g_lt ts25_2 (by decide)) (g_k ts25_2 (by decide) rfl) ?_
                                refine ok_chk (nxg (g_n (i := 149) (n := 1024) ts25_2 (by decide) rfl) ix48 (by omega) (by omega)) ?_
                                refine ok_ltB (ib_t ts25_2 (by simp [TYL] : (149, 0, 4) ∈ TYL) _) (fun x50 lx50 => ?_)
                                have ix50 : TI x50 x50.toInt := rfl
                                refine ok_bnd (Q := fun (z : DD) => TT G z p 2 L ∧ Fr p [15, 18] M z) ?_ ?_
                                · refine ok_if (fun c26 => ?_) (fun c26 => ?_)
                                  · have dc26 := tl_le ix50 tn_0 c26
                                    exact ok_some ⟨ts25_2, fs25_2⟩
                                  · have dc26 := tl_nle ix50 tn_0 c26
                                    refine ok_dr (pr_4 ts25_2 (tt_p t)) (by have q := (tt_q0b ts25_2 (tt_p t)); omega) (gk_2 ts25_2 (tt_p t)) ?_
                                    refine ok_chk (nxg (gl_2 ts25_2 (tt_p t)) i2 (by omega) (by omega)) ?_
                                    refine ok_ltI (av_mul is25_1 iy23 (by omega) (by omega)) (fun x55 ix55 => ?_)
                                    refine ok_ltI (av_add ix21 ix55 (by omega) (by omega)) (fun x56 ix56 => ?_)
                                    refine ok_bnd (Q := fun (z : Int32) => (0 ≤ z.toInt ∧ z.toInt ≤ 0)) ?_ ?_
                                    · refine ok_if (fun c27 => ?_) (fun c27 => ?_)
                                      · have dc27 := tl_eq i2 tn_0 c27
                                        exfalso
                                        omega
                                      · have dc27 := tl_ne i2 tn_0 c27
                                        exact ok_some (ti_bd tn_0 (by omega) (by omega))
                                    · intro y57 hyy57
                                      have ly57 := hyy57
                                      have iy57 : TI y57 (0) := ti_c ly57
                                      obtain ⟨j28, hj28, nj28, ej28⟩ := pp_v ts25_2 (tt_p t) i2 (by omega) (by omega)
                                      refine ok_bnd (s_filterLine ts25_2 ej28 (pl_3 hj28) nj28 ix56 iy22 ix50 iy57 (by omega) (by omega) (by omega) (by omega) (by omega) (by omega) (by omega) (by omega)) ?_
                                      intro y58 hyy58
                                      obtain ⟨ty58, gy58⟩ := hyy58
                                      have fy58 := fr_tr fs25_2 gy58 rfl
                                      exact ok_some ⟨ty58, fy58⟩
                                · intro y51 hyy51
                                  obtain ⟨ty51, fy51⟩ := hyy51
                                  refine ok_ltI (av_add is25_1 tn_1 (by omega) (by omega)) (fun x52 ix52 => ?_)
                                  exact ok_some ⟨⟨(ti_bd ix52 (by omega) (by omega)), ty51, fy51⟩, (mu_up ix52 (by omega) (by omega))⟩
                    · exact ⟨(ti_bd tn_0 (by omega) (by omega)), ty6, fy6⟩
                    · exact mu_0 tn_0 (by omega)
                    · intro y24 hyy24
                      obtain ⟨ly24_1, ty24_2, fy24_2⟩ := hyy24
                      have iy24_1 : TI y24.1 y24.1.toInt := rfl
                      exact ok_some ⟨ty24_2, fy24_2⟩
theorem s_farApart {G : GG} {M : DD} {p : Nat} {w : Int} {L : List Nat} (t : TT G M p w L) {q : Nat} (hq : q ∈ L) {p0 : Int32} {a0 : Int} (i0 : TI p0 a0) {p1 : Int32} {a1 : Int} (i1 : TI p1 a1) (h0 : 0 ≤ a0) (h1 : a0 ≤ 1023) (h2 : 0 ≤ a1) (h3 : a1 ≤ 1023) : OK (FX4_farApart G M q p0 p1) (fun y => TT G y.1 p w L ∧ Fr p [] M y.1 ∧ (0 ≤ y.2.toInt ∧ y.2.toInt ≤ 1)) := by
  unfold FX4_farApart
  have hw12 : 1 ≤ w ∧ w ≤ 2 := by rcases tt_w t with h | h <;> omega
  refine ok_ltI (av_mul tn_2 i0 (by omega) (by omega)) (fun x1 ix1 => ?_)
  refine ok_dr (pr_7 t hq) (by have q := (tt_q0b t hq); omega) (gk_8 t hq) ?_
  refine ok_chk (nxg (gl_8 t hq) ix1 (by omega) (by omega)) ?_
  refine ok_ltB (ib_8 t hq _) (fun x3 lx3 => ?_)
  have ix3 : TI x3 x3.toInt := rfl
  refine ok_ltI (av_mul tn_2 i1 (by omega) (by omega)) (fun x4 ix4 => ?_)
  refine ok_chk (nxg (gl_8 t hq) ix4 (by omega) (by omega)) ?_
  refine ok_ltB (ib_8 t hq _) (fun x5 lx5 => ?_)
  have ix5 : TI x5 x5.toInt := rfl
  refine ok_ltI (av_sub ix3 ix5 (by omega) (by omega)) (fun x6 ix6 => ?_)
  refine ok_ltI (av_mul tn_2 i0 (by omega) (by omega)) (fun x7 ix7 => ?_)
  refine ok_ltI (av_add ix7 tn_1 (by omega) (by omega)) (fun x8 ix8 => ?_)
  refine ok_chk (nxg (gl_8 t hq) ix8 (by omega) (by omega)) ?_
  refine ok_ltB (ib_8 t hq _) (fun x9 lx9 => ?_)
  have ix9 : TI x9 x9.toInt := rfl
  refine ok_ltI (av_mul tn_2 i1 (by omega) (by omega)) (fun x10 ix10 => ?_)
  refine ok_ltI (av_add ix10 tn_1 (by omega) (by omega)) (fun x11 ix11 => ?_)
  refine ok_chk (nxg (gl_8 t hq) ix11 (by omega) (by omega)) ?_
  refine ok_ltB (ib_8 t hq _) (fun x12 lx12 => ?_)
  have ix12 : TI x12 x12.toInt := rfl
  refine ok_ltI (av_sub ix9 ix12 (by omega) (by omega)) (fun x13 ix13 => ?_)
  refine ok_bnd (Q := fun (z : Int32) => (0 ≤ z.toInt ∧ z.toInt ≤ 1)) ?_ ?_
  · refine ok_if (fun c1 => ?_) (fun c1 => ?_)
    · have dc1 := tl_le tn_4 ix6 c1
      exact ok_some (ti_bd tn_1 (by omega) (by omega))
    · have dc1 := tl_nle tn_4 ix6 c1
      refine ok_bnd (Q := fun (z : Int32) => (0 ≤ z.toInt ∧ z.toInt ≤ 1)) ?_ ?_
      · refine ok_if (fun c2 => ?_) (fun c2 => ?_)
        · have dc2 := tl_le ix6 tn_m4 c2
          exact ok_some (ti_bd tn_1 (by omega) (by omega))
        · have dc2 := tl_nle ix6 tn_m4 c2
          refine ok_bnd (Q := fun (z : Int32) => (0 ≤ z.toInt ∧ z.toInt ≤ 1)) ?_ ?_
          · refine ok_if (fun c3 => ?_) (fun c3 => ?_)
            · have dc3 := tl_le tn_4 ix13 c3
              exact ok_some (ti_bd tn_1 (by omega) (by omega))
            · have dc3 := tl_nle tn_4 ix13 c3
              refine ok_bnd (Q := fun (z : Int32) => (0 ≤ z.toInt ∧ z.toInt ≤ 1)) ?_ ?_
              · refine ok_if (fun c4 => ?_) (fun c4 => ?_)
                · have dc4 := tl_lt tn_m4 ix13 c4
                  exact ok_some (ti_bd tn_0 (by omega) (by omega))
                · have dc4 := tl_nlt tn_m4 ix13 c4
                  exact ok_some (ti_bd tn_1 (by omega) (by omega))
              · intro y20 hyy20
                have ly20 := hyy20
                have iy20 : TI y20 y20.toInt := rfl
                exact ok_some (ti_bd iy20 (by omega) (by omega))
          · intro y18 hyy18
            have ly18 := hyy18
            have iy18 : TI y18 y18.toInt := rfl
            exact ok_some (ti_bd iy18 (by omega) (by omega))
      · intro y16 hyy16
        have ly16 := hyy16
        have iy16 : TI y16 y16.toInt := rfl
        exact ok_some (ti_bd iy16 (by omega) (by omega))
  · intro y14 hyy14
    have ly14 := hyy14
    have iy14 : TI y14 y14.toInt := rfl
    refine ok_chk (t01 iy14 (by omega) (by omega)) ?_
    exact ok_some ⟨t, (fr_0 p [] M), (ti_bd iy14 (by omega) (by omega))⟩
theorem s_movesApart {G : GG} {M : DD} {p : Nat} {w : Int} {L : List Nat} (t : TT G M p w L) {q : Nat} (hq : q ∈ L) {p0 : Int32} {a0 : Int} (i0 : TI p0 a0) {p1 : Int32} {a1 : Int} (i1 : TI p1 a1) (h0 : 0 ≤ a0) (h1 : a0 ≤ 511) (h2 : 0 ≤ a1) (h3 : a1 ≤ 511) : OK (FX4_movesApart G M q p0 p1) (fun y => TT G y.1 p w L ∧ Fr p [] M y.1 ∧ (0 ≤ y.2.toInt ∧ y.2.toInt ≤ 1)) := by
  unfold FX4_movesApart
  have hw12 : 1 ≤ w ∧ w ≤ 2 := by rcases tt_w t with h | h <;> omega
  refine ok_dr (pr_6 t hq) (by have q := (tt_q0b t hq); omega) (gk_7 t hq) ?_
  refine ok_chk (nxg (gl_7 t hq) i0 (by omega) (by omega)) ?_
  refine ok_ltA (fun x3 => ?_)
  refine ok_ltI (av_add tn_512 i0 (by omega) (by omega)) (fun x4 ix4 => ?_)
  refine ok_chk (nxg (gl_7 t hq) ix4 (by omega) (by omega)) ?_
  refine ok_ltA (fun x5 => ?_)
  refine ok_chk (nxg (gl_7 t hq) i1 (by omega) (by omega)) ?_
  refine ok_ltA (fun x6 => ?_)
  refine ok_ltI (av_add tn_512 i1 (by omega) (by omega)) (fun x7 ix7 => ?_)
  refine ok_chk (nxg (gl_7 t hq) ix7 (by omega) (by omega)) ?_
  refine ok_ltA (fun x8 => ?_)
  refine ok_bnd (Q := fun (z : Int32) => (0 ≤ z.toInt ∧ z.toInt ≤ 1)) ?_ ?_
  · refine ok_if (fun c1 => ?_) (fun c1 => ?_)
    · have dc1 := tl_eq (rfl : TI x3 x3.toInt) (rfl : TI x6 x6.toInt) c1
      refine ok_bnd (Q := fun (z : Int32) => (0 ≤ z.toInt ∧ z.toInt ≤ 1)) ?_ ?_
      · refine ok_if (fun c2 => ?_) (fun c2 => ?_)
        · have dc2 := tl_eq (rfl : TI x5 x5.toInt) (rfl : TI x8 x8.toInt) c2
          exact ok_some (ti_bd tn_1 (by omega) (by omega))
        · exact ok_some (ti_bd tn_0 (by omega) (by omega))
      · intro y64 hyy64
        have ly64 := hyy64
        have iy64 : TI y64 y64.toInt := rfl
        exact ok_some (ti_bd iy64 (by omega) (by omega))
    · exact ok_some (ti_bd tn_0 (by omega) (by omega))
  · intro y9 hyy9
    have ly9 := hyy9
    have iy9 : TI y9 y9.toInt := rfl
    refine ok_bnd (Q := fun (z : Int32) => (0 ≤ z.toInt ∧ z.toInt ≤ 1)) ?_ ?_
    · refine ok_if (fun c3 => ?_) (fun c3 => ?_)
      · have dc3 := tl_eq (rfl : TI x3 x3.toInt) (rfl : TI x8 x8.toInt) c3
        refine ok_bnd (Q := fun (z : Int32) => (0 ≤ z.toInt ∧ z.toInt ≤ 1)) ?_ ?_
        · refine ok_if (fun c4 => ?_) (fun c4 => ?_)
          · have dc4 := tl_eq (rfl : TI x5 x5.toInt) (rfl : TI x6 x6.toInt) c4
            exact ok_some (ti_bd tn_1 (by omega) (by omega))
          · exact ok_some (ti_bd tn_0 (by omega) (by omega))
        · intro y61 hyy61
          have ly61 := hyy61
          have iy61 : TI y61 y61.toInt := rfl
          exact ok_some (ti_bd iy61 (by omega) (by omega))
      · exact ok_some (ti_bd tn_0 (by omega) (by omega))
    · intro y10 hyy10
      have ly10 := hyy10
      have iy10 : TI y10 y10.toInt := rfl
      refine ok_bnd (Q := fun (z : Int32 × DD) => (0 ≤ z.1.toInt ∧ z.1.toInt ≤ 1) ∧ TT G z.2 p w L ∧ Fr p [] M z.2) ?_ ?_
      · refine ok_if (fun c5 => ?_) (fun c5 => ?_)
        · have dc5 := tl_eq (rfl : TI x3 x3.toInt) tn_0 c5
          refine ok_bnd (Q := fun (z : Int32 × DD) => (0 ≤ z.1.toInt ∧ z.1.toInt ≤ 1) ∧ TT G z.2 p w L ∧ Fr p [] M z.2) ?_ ?_
          · refine ok_if (fun c6 => ?_) (fun c6 => ?_)
            · have dc6 := tl_eq (rfl : TI x5 x5.toInt) tn_0 c6
              exact ok_some ⟨(ti_bd tn_0 (by omega) (by omega)), t, (fr_0 p [] M)⟩
            · refine ok_ltI (av_add tn_512 i0 (by omega) (by omega)) (fun x45 ix45 => ?_)
              refine ok_ltI (av_add tn_512 i1 (by omega) (by omega)) (fun x46 ix46 => ?_)
              refine ok_bnd (s_farApart t hq ix45 ix46 (by omega) (by omega) (by omega) (by omega)) ?_
              intro y47 hyy47
              obtain ⟨ty47, gy47, ly47⟩ := hyy47
              have fy47 := fr_tr (fr_0 p [] M) gy47 rfl
              have iy47 : TI y47.2 y47.2.toInt := rfl
              refine ok_bnd (Q := fun (z : Int32) => (0 ≤ z.toInt ∧ z.toInt ≤ 1)) ?_ ?_
              · refine ok_if (fun c7 => ?_) (fun c7 => ?_)
                · have dc7 := tl_eq iy47 tn_0 c7
                  exact ok_some (ti_bd tn_0 (by omega) (by omega))
                · exact ok_some (ti_bd tn_1 (by omega) (by omega))
              · intro y48 hyy48
                have ly48 := hyy48
                have iy48 : TI y48 y48.toInt := rfl
                exact ok_some ⟨(ti_bd iy48 (by omega) (by omega)), ty47, fy47⟩
          · intro y43 hyy43
            obtain ⟨ly43_1, ty43_2, fy43_2⟩ := hyy43
            have iy43_1 : TI y43.1 y43.1.toInt := rfl
            exact ok_some ⟨(ti_bd iy43_1 (by omega) (by omega)), ty43_2, fy43_2⟩
        · refine ok_bnd (s_farApart t hq i0 i1 (by omega) (by omega) (by omega) (by omega)) ?_
          intro y50 hyy50
          obtain ⟨ty50, gy50, ly50⟩ := hyy50
          have fy50 := fr_tr (fr_0 p [] M) gy50 rfl
          have iy50 : TI y50.2 y50.2.toInt := rfl
          refine ok_bnd (Q := fun (z : Int32 × DD) => (0 ≤ z.1.toInt ∧ z.1.toInt ≤ 1) ∧ TT G z.2 p w L ∧ Fr p [] M z.2) ?_ ?_
          · refine ok_if (fun c8 => ?_) (fun c8 => ?_)
            · have dc8 := tl_eq iy50 tn_0 c8
              refine ok_bnd (Q := fun (z : Int32 × DD) => (0 ≤ z.1.toInt ∧ z.1.toInt ≤ 1) ∧ TT G z.2 p w L ∧ Fr p [] M z.2) ?_ ?_
              · refine ok_if (fun c9 => ?_) (fun c9 => ?_)
                · have dc9 := tl_eq (rfl : TI x5 x5.toInt) tn_0 c9
                  exact ok_some ⟨(ti_bd tn_0 (by omega) (by omega)), ty50, fy50⟩
                · refine ok_ltI (av_add tn_512 i0 (by omega) (by omega)) (fun x55 ix55 => ?_)
                  refine ok_ltI (av_add tn_512 i1 (by omega) (by omega)) (fun x56 ix56 => ?_)
                  refine ok_bnd (s_farApart ty50 hq ix55 ix56 (by omega) (by omega) (by omega) (by omega)) ?_
                  intro y57 hyy57
                  obtain ⟨ty57, gy57, ly57⟩ := hyy57
                  have fy57 := fr_tr fy50 gy57 rfl
                  have iy57 : TI y57.2 y57.2.toInt := rfl
                  refine ok_bnd (Q := fun (z : Int32) => (0 ≤ z.toInt ∧ z.toInt ≤ 1)) ?_ ?_
                  · refine ok_if (fun c10 => ?_) (fun c10 => ?_)
                    · have dc10 := tl_eq iy57 tn_0 c10
                      exact ok_some (ti_bd tn_0 (by omega) (by omega))
                    · exact ok_some (ti_bd tn_1 (by omega) (by omega))
                  · intro y58 hyy58
                    have ly58 := hyy58
                    have iy58 : TI y58 y58.toInt := rfl
                    exact ok_some ⟨(ti_bd iy58 (by omega) (by omega)), ty57, fy57⟩
              · intro y53 hyy53
                obtain ⟨ly53_1, ty53_2, fy53_2⟩ := hyy53
                have iy53_1 : TI y53.1 y53.1.toInt := rfl
                exact ok_some ⟨(ti_bd iy53_1 (by omega) (by omega)), ty53_2, fy53_2⟩
            · exact ok_some ⟨(ti_bd tn_1 (by omega) (by omega)), ty50, fy50⟩
          · intro y51 hyy51
            obtain ⟨ly51_1, ty51_2, fy51_2⟩ := hyy51
            have iy51_1 : TI y51.1 y51.1.toInt := rfl
            exact ok_some ⟨(ti_bd iy51_1 (by omega) (by omega)), ty51_2, fy51_2⟩
      · intro y11 hyy11
        obtain ⟨ly11_1, ty11_2, fy11_2⟩ := hyy11
        have iy11_1 : TI y11.1 y11.1.toInt := rfl
        refine ok_bnd (Q := fun (z : Int32 × DD) => (0 ≤ z.1.toInt ∧ z.1.toInt ≤ 1) ∧ TT G z.2 p w L ∧ Fr p [] M z.2) ?_ ?_
        · refine ok_if (fun c11 => ?_) (fun c11 => ?_)
          · have dc11 := tl_eq (rfl : TI x3 x3.toInt) tn_0 c11
            refine ok_bnd (Q := fun (z : Int32 × DD) => (0 ≤ z.1.toInt ∧ z.1.toInt ≤ 1) ∧ TT G z.2 p w L ∧ Fr p [] M z.2) ?_ ?_
            · refine ok_if (fun c12 => ?_) (fun c12 => ?_)
              · have dc12 := tl_eq (rfl : TI x5 x5.toInt) tn_0 c12
                exact ok_some ⟨(ti_bd tn_0 (by omega) (by omega)), ty11_2, fy11_2⟩
              · refine ok_ltI (av_add tn_512 i0 (by omega) (by omega)) (fun x28 ix28 => ?_)
                refine ok_bnd (s_farApart ty11_2 hq ix28 i1 (by omega) (by omega) (by omega) (by omega)) ?_
                intro y29 hyy29
                obtain ⟨ty29, gy29, ly29⟩ := hyy29
                have fy29 := fr_tr fy11_2 gy29 rfl
                have iy29 : TI y29.2 y29.2.toInt := rfl
                refine ok_bnd (Q := fun (z : Int32) => (0 ≤ z.toInt ∧ z.toInt ≤ 1)) ?_ ?_
                · refine ok_if (fun c13 => ?_) (fun c13 => ?_)
                  · have dc13 := tl_eq iy29 tn_0 c13
                    exact ok_some (ti_bd tn_0 (by omega) (by omega))
                  · exact ok_some (ti_bd tn_1 (by omega) (by omega))
                · intro y30 hyy30
                  have ly30 := hyy30
                  have iy30 : TI y30 y30.toInt := rfl
                  exact ok_some ⟨(ti_bd iy30 (by omega) (by omega)), ty29, fy29⟩
            · intro y26 hyy26
              obtain ⟨ly26_1, ty26_2, fy26_2⟩ := hyy26
              have iy26_1 : TI y26.1 y26.1.toInt := rfl
              exact ok_some ⟨(ti_bd iy26_1 (by omega) (by omega)), ty26_2, fy26_2⟩
          · refine ok_ltI (av_add tn_512 i1 (by omega) (by omega)) (fun x32 ix32 => ?_)
            refine ok_bnd (s_farApart ty11_2 hq i0 ix32 (by omega) (by omega) (by omega) (by omega)) ?_
            intro y33 hyy33
            obtain ⟨ty33, gy33, ly33⟩ := hyy33
            have fy33 := fr_tr fy11_2 gy33 rfl
            have iy33 : TI y33.2 y33.2.toInt := rfl
            refine ok_bnd (Q := fun (z : Int32 × DD) => (0 ≤ z.1.toInt ∧ z.1.toInt ≤ 1) ∧ TT G z.2 p w L ∧ Fr p [] M z.2) ?_ ?_
            · refine ok_if (fun c14 => ?_) (fun c14 => ?_)
              · have dc14 := tl_eq iy33 tn_0 c14
                refine ok_bnd (Q := fun (z : Int32 × DD) => (0 ≤ z.1.toInt ∧ z.1.toInt ≤ 1) ∧ TT G z.2 p w L ∧ Fr p [] M z.2) ?_ ?_
                · refine ok_if (fun c15 => ?_) (fun c15 => ?_)
                  · have dc15 := tl_eq (rfl : TI x5 x5.toInt) tn_0 c15
                    exact ok_some ⟨(ti_bd tn_0 (by omega) (by omega)), ty33, fy33⟩
                  · refine ok_ltI (av_add tn_512 i0 (by omega) (by omega)) (fun x38 ix38 => ?_)
                    refine ok_bnd (s_farApart ty33 hq ix38 i1 (by omega) (by omega) (by omega) (by omega)) ?_
                    intro y39 hyy39
                    obtain ⟨ty39, gy39, ly39⟩ := hyy39
                    have fy39 := fr_tr fy33 gy39 rfl
                    have iy39 : TI y39.2 y39.2.toInt := rfl
                    refine ok_bnd (Q := fun (z : Int32) => (0 ≤ z.toInt ∧ z.toInt ≤ 1)) ?_ ?_
                    · refine ok_if (fun c16 => ?_) (fun c16 => ?_)
                      · have dc16 := tl_eq iy39 tn_0 c16
                        exact ok_some (ti_bd tn_0 (by omega) (by omega))
                      · exact ok_some (ti_bd tn_1 (by omega) (by omega))
                    · intro y40 hyy40
                      have ly40 := hyy40
                      have iy40 : TI y40 y40.toInt := rfl
                      exact ok_some ⟨(ti_bd iy40 (by omega) (by omega)), ty39, fy39⟩
                · intro y36 hyy36
                  obtain ⟨ly36_1, ty36_2, fy36_2⟩ := hyy36
                  have iy36_1 : TI y36.1 y36.1.toInt := rfl
                  exact ok_some ⟨(ti_bd iy36_1 (by omega) (by omega)), ty36_2, fy36_2⟩
              · exact ok_some ⟨(ti_bd tn_1 (by omega) (by omega)), ty33, fy33⟩
            · intro y34 hyy34
              obtain ⟨ly34_1, ty34_2, fy34_2⟩ := hyy34
              have iy34_1 : TI y34.1 y34.1.toInt := rfl
              exact ok_some ⟨(ti_bd iy34_1 (by omega) (by omega)), ty34_2, fy34_2⟩
        · intro y12 hyy12
          obtain ⟨ly12_1, ty12_2, fy12_2⟩ := hyy12
          have iy12_1 : TI y12.1 y12.1.toInt := rfl
          refine ok_bnd (Q := fun (z : Int32) => (0 ≤ z.toInt ∧ z.toInt ≤ 1)) ?_ ?_
          · refine ok_if (fun c17 => ?_) (fun c17 => ?_)
            · have dc17 := tl_eq iy9 tn_0 c17
              refine ok_bnd (Q := fun (z : Int32) => (0 ≤ z.toInt ∧ z.toInt ≤ 1)) ?_ ?_
              · refine ok_if (fun c18 => ?_) (fun c18 => ?_)
                · have dc18 := tl_eq iy10 tn_0 c18
                  exact ok_some (ti_bd tn_1 (by omega) (by omega))
                · refine ok_bnd (Q := fun (z : Int32) => (0 ≤ z.toInt ∧ z.toInt ≤ 1)) ?_ ?_
                  · refine ok_if (fun c19 => ?_) (fun c19 => ?_)
                    · have dc19 := tl_eq iy12_1 tn_0 c19
                      exact ok_some (ti_bd tn_0 (by omega) (by omega))
                    · exact ok_some (ti_bd tn_1 (by omega) (by omega))
                  · intro y17 hyy17
                    have ly17 := hyy17
                    have iy17 : TI y17 y17.toInt := rfl
                    exact ok_some (ti_bd iy17 (by omega) (by omega))
              · intro y15 hyy15
                have ly15 := hyy15
                have iy15 : TI y15 y15.toInt := rfl
                exact ok_some (ti_bd iy15 (by omega) (by omega))
            · refine ok_bnd (Q := fun (z : Int32) => (0 ≤ z.toInt ∧ z.toInt ≤ 1)) ?_ ?_
              · refine ok_if (fun c20 => ?_) (fun c20 => ?_)
                · have dc20 := tl_eq iy11_1 tn_0 c20
                  exact ok_some (ti_bd tn_0 (by omega) (by omega))
                · refine ok_bnd (Q := fun (z : Int32) => (0 ≤ z.toInt ∧ z.toInt ≤ 1)) ?_ ?_
                  · refine ok_if (fun c21 => ?_) (fun c21 => ?_)
                    · have dc21 := tl_eq iy10 tn_0 c21
                      exact ok_some (ti_bd tn_1 (by omega) (by omega))
                    · refine ok_bnd (Q := fun (z : Int32) => (0 ≤ z.toInt ∧ z.toInt ≤ 1)) ?_ ?_
                      · refine ok_if (fun c22 => ?_) (fun c22 => ?_)
                        · have dc22 := tl_eq iy12_1 tn_0 c22
                          exact ok_some (ti_bd tn_0 (by omega) (by omega))
                        · exact ok_some (ti_bd tn_1 (by omega) (by omega))
                      · intro y23 hyy23
                        have ly23 := hyy23
                        have iy23 : TI y23 y23.toInt := rfl
                        exact ok_some (ti_bd iy23 (by omega) (by omega))
                  · intro y21 hyy21
                    have ly21 := hyy21
                    have iy21 : TI y21 y21.toInt := rfl
                    exact ok_some (ti_bd iy21 (by omega) (by omega))
              · intro y19 hyy19
                have ly19 := hyy19
                have iy19 : TI y19 y19.toInt := rfl
                exact ok_some (ti_bd iy19 (by omega) (by omega))
          · intro y13 hyy13
            have ly13 := hyy13
            have iy13 : TI y13 y13.toInt := rfl
            refine ok_chk (t01 iy13 (by omega) (by omega)) ?_
            exact ok_some ⟨ty12_2, fy12_2, (ti_bd iy13 (by omega) (by omega))⟩
theorem s_strengthOf {G : GG} {M : DD} {p : Nat} {w : Int} {L : List Nat} (t : TT G M p w L) {p0 : Option Nat} (e0 : p0 = some 125) {p1 : Int32} {a1 : Int} (i1 : TI p1 a1) {p2 : Int32} {a2 : Int} (i2 : TI p2 a2) (h0 : 0 ≤ a1) (h1 : a1 ≤ 63) (h2 : 0 ≤ a2) (h3 : a2 ≤ 63) : OK (FX2_strengthOf G M p0 p1 p2) (fun y => TT G y.1 p w L ∧ Fr p [] M y.1 ∧ (0 ≤ y.2.toInt ∧ y.2.toInt ≤ 4)) := by
  unfold FX2_strengthOf
  subst e0
  have hw12 : 1 ≤ w ∧ w ≤ 2 := by rcases tt_w t with h | h <;> omega
  refine ok_ltI (av_sar 4 i1 (by decide)) (fun x1 ix1 => ?_)
  refine ok_ltI (av_sar 4 i2 (by decide)) (fun x2 ix2 => ?_)
  refine ok_dr rfl (g_lt t (by decide)) (g_k t (by decide) rfl) ?_
  refine ok_ltI (av_mul tn_8 ix1 (by omega) (by omega)) (fun x4 ix4 => ?_)
  refine ok_ltI (av_add ix4 tn_0 (by omega) (by omega)) (fun x5 ix5 => ?_)
  refine ok_dr (f_r (b := 129) t rfl (by decide)) (g_lt t (by decide)) (g_k t (by decide) rfl) ?_
  refine ok_chk (nxg (g_n (i := 129) (n := 256) t (by decide) rfl) ix5 (by omega) (by omega)) ?_
  refine ok_ltA (fun x7 => ?_)
  refine ok_if (fun c1 => ?_) (fun c1 => ?_)
  · have dc1 := tl_eq (rfl : TI x7 x7.toInt) tn_3 c1
    refine ok_ltI (av_mul tn_8 ix2 (by omega) (by omega)) (fun x11 ix11 => ?_)
    refine ok_ltI (av_add ix11 tn_0 (by omega) (by omega)) (fun x12 ix12 => ?_)
    refine ok_chk (nxg (g_n (i := 129) (n := 256) t (by decide) rfl) ix12 (by omega) (by omega)) ?_
    refine ok_ltA (fun x13 => ?_)
    refine ok_if (fun c2 => ?_) (fun c2 => ?_)
    · have dc2 := tl_eq (rfl : TI x13 x13.toInt) tn_3 c2
      refine ok_ltI (av_mul tn_24 ix1 (by omega) (by omega)) (fun x15 ix15 => ?_)
      refine ok_ltI (av_and 4 i1 (by decide) (by decide)) (fun x16 ix16 => ?_)
      refine ok_ltI (av_add ix15 ix16 (by omega) (by omega)) (fun x17 ix17 => ?_)
      refine ok_dr (f_r (b := 131) t rfl (by decide)) (g_lt t (by decide)) (g_k t (by decide) rfl) ?_
      refine ok_chk (nxg (g_n (i := 131) (n := 768) t (by decide) rfl) ix17 (by omega) (by omega)) ?_
      refine ok_ltA (fun x19 => ?_)
      refine ok_if (fun c3 => ?_) (fun c3 => ?_)
      · have dc3 := tl_lt tn_0 (rfl : TI x19 x19.toInt) c3
        exact ok_some ⟨t, (fr_0 p [] M), (ti_bd tn_2 (by omega) (by omega))⟩
      · have dc3 := tl_nlt tn_0 (rfl : TI x19 x19.toInt) c3
        refine ok_ltI (av_mul tn_24 ix2 (by omega) (by omega)) (fun x21 ix21 => ?_)
        refine ok_ltI (av_and 4 i2 (by decide) (by decide)) (fun x22 ix22 => ?_)
        refine ok_ltI (av_add ix21 ix22 (by omega) (by omega)) (fun x23 ix23 => ?_)
        refine ok_chk (nxg (g_n (i := 131) (n := 768) t (by decide) rfl) ix23 (by omega) (by omega)) ?_
        refine ok_ltA (fun x24 => ?_)
        refine ok_if (fun c4 => ?_) (fun c4 => ?_)
        · have dc4 := tl_le (rfl : TI x24 x24.toInt) tn_0 c4
          refine ok_dr (tt_pic t) (by have q := (tt_q0b t (tt_p t)); omega) (gk_0 t (tt_p t)) ?_
          refine ok_bnd (s_movesApart t (tt_p t) i1 i2 (by omega) (by omega) (by omega) (by omega)) ?_
          intro y27 hyy27
          obtain ⟨ty27, gy27, ly27⟩ := hyy27
          have fy27 := fr_tr (fr_0 p [] M) gy27 rfl
          have iy27 : TI y27.2 y27.2.toInt := rfl
          refine ok_bnd (Q := fun (z : Int32) => (0 ≤ z.toInt ∧ z.toInt ≤ 1)) ?_ ?_
          · refine ok_if (fun c5 => ?_) (fun c5 => ?_)
            · have dc5 := tl_eq iy27 tn_0 c5
              exact ok_some (ti_bd tn_0 (by omega) (by omega))
            · exact ok_some (ti_bd tn_1 (by omega) (by omega))
          · intro y28 hyy28
            have ly28 := hyy28
            have iy28 : TI y28 y28.toInt := rfl
            exact ok_some ⟨ty27, fy27, (ti_bd iy28 (by omega) (by omega))⟩
        · have dc4 := tl_nle (rfl : TI x24 x24.toInt) tn_0 c4
          exact ok_some ⟨t, (fr_0 p [] M), (ti_bd tn_2 (by omega) (by omega))⟩
    · refine ok_bnd (Q := fun (z : Int32) => (3 ≤ z.toInt ∧ z.toInt ≤ 4)) ?_ ?_
      · refine ok_if (fun c6 => ?_) (fun c6 => ?_)
        · have dc6 := tl_eq ix1 ix2 c6
          exact ok_some (ti_bd tn_3 (by omega) (by omega))
        · exact ok_some (ti_bd tn_4 (by omega) (by omega))
      · intro y30 hyy30
        have ly30 := hyy30
        have iy30 : TI y30 y30.toInt := rfl
        exact ok_some ⟨t, (fr_0 p [] M), (ti_bd iy30 (by omega) (by omega))⟩
  · refine ok_bnd (Q := fun (z : Int32) => (3 ≤ z.toInt ∧ z.toInt ≤ 4)) ?_ ?_
    · refine ok_if (fun c7 => ?_) (fun c7 => ?_)
      · have dc7 := tl_eq ix1 ix2 c7
        exact ok_some (ti_bd tn_3 (by omega) (by omega))
      · exact ok_some (ti_bd tn_4 (by omega) (by omega))
    · intro y9 hyy9
      have ly9 := hyy9
      have iy9 : TI y9 y9.toInt := rfl
      exact ok_some ⟨t, (fr_0 p [] M), (ti_bd iy9 (by omega) (by omega))⟩
theorem s2_measure {G : GG} {M : DD} {p : Nat} {w : Int} {L : List Nat} (t : TT G M p w L) {p0 : Option Nat} (e0 : p0 = some 125) {p1 : Int32} {a1 : Int} (i1 : TI p1 a1) (h0 : 0 ≤ a1) (h1 : a1 < 2 * w) : OK (FX2_measure G M 148 p0 p1) (fun y => TT G y p w L ∧ Fr p [15] M y) := by
  unfold FX2_measure
  subst e0
  have hw12 : 1 ≤ w ∧ w ≤ 2 := by rcases tt_w t with h | h <;> omega
  rcases tt_w t with rfl | rfl
  · refine ok_dr rfl (g_lt t (by decide)) (g_k t (by decide) rfl) ?_
    refine ok_dr (tt_pic t) (by have q := (tt_q0b t (tt_p t)); omega) (gk_0 t (tt_p t)) ?_
    refine ok_ltI (tw_q t (tt_p t)) (fun x4 ix4 => ?_)
    refine ok_ltI (av_mul tn_3 i1 (by omega) (by omega)) (fun x5 ix5 => ?_)
    refine ok_dr (f_r (b := 133) t rfl (by decide)) (g_lt t (by decide)) (g_k t (by decide) rfl) ?_
    refine ok_chk (nxg (g_n (i := 133) (n := 96) t (by decide) rfl) ix5 (by omega) (by omega)) ?_
    refine ok_ltA (fun x7 => ?_)
    refine ok_bnd (Q := fun (z : Int32 × DD) => (0 ≤ z.1.toInt ∧ z.1.toInt ≤ 2) ∧ TT G z.2 p 1 L ∧ Fr p [15] M z.2) (ok_itr (fun (z : Int32 × DD) => (0 ≤ z.1.toInt ∧ z.1.toInt ≤ 2) ∧ TT G z.2 p 1 L ∧ Fr p [15] M z.2) (fun z => (2 - z.1.toInt).toNat) ?_ _ _ ?_ ?_) ?_
    · intro s9 hys9
      obtain ⟨ls9_1, ts9_2, fs9_2⟩ := hys9
      have is9_1 : TI s9.1 s9.1.toInt := rfl
      refine ok_if (fun c1 => ?_) (fun c1 => ?_)
      · have dc1 := tl_le tn_2 is9_1 c1
        exact ok_some ⟨(ti_bd is9_1 (by omega) (by omega)), ts9_2, fs9_2⟩
      · have dc1 := tl_nle tn_2 is9_1 c1
        refine ok_bnd (Q := fun (z : Int32) => (-1 ≤ z.toInt ∧ z.toInt ≤ 2) ∧ (z.toInt < 2 * 1)) ?_ ?_
        · refine ok_if (fun c2 => ?_) (fun c2 => ?_)
          · have dc2 := tl_eq is9_1 tn_0 c2
            refine ok_chk (nz ix4 (by omega)) ?_
            refine ok_ltI (av_mod i1 ix4 (by omega) (by omega)) (fun x102 ix102 => ?_)
            refine ok_bnd (Q := fun (z : Int32) => (-1 ≤ z.toInt ∧ z.toInt ≤ -1) ∧ (z.toInt < 2 * 1)) ?_ ?_
            · refine ok_if (fun c3 => ?_) (fun c3 => ?_)
              · have dc3 := tl_le ix102 tn_0 c3
                exact ok_some ⟨(ti_bd tn_m1 (by omega) (by omega)), (by have q : _ = _ := tn_m1; (try dsimp only); omega)⟩
              · have dc3 := tl_nle ix102 tn_0 c3
                exfalso
                omega
            · intro y103 hyy103
              obtain ⟨ly103, jy103⟩ := hyy103
              have iy103 : TI y103 (-1) := ti_c ly103
              exact ok_some ⟨(ti_bd iy103 (by omega) (by omega)), (by have q : _ = _ := iy103; (try dsimp only); omega)⟩
          · have dc2 := tl_ne is9_1 tn_0 c2
            refine ok_ltI (av_sub i1 ix4 (by omega) (by omega)) (fun x101 ix101 => ?_)
            exact ok_some ⟨(ti_bd ix101 (by omega) (by omega)), (by have q : _ = _ := ix101; (try dsimp only); omega)⟩
        · intro y13 hyy13
          obtain ⟨ly13, jy13⟩ := hyy13
          have iy13 : TI y13 y13.toInt := rfl
          refine ok_bnd (Q := fun (z : Int32) => (0 ≤ z.toInt ∧ z.toInt ≤ 1) ∧ (z.toInt ≠ 0 → 0 ≤ y13.toInt)) ?_ ?_
          · refine ok_if (fun c4 => ?_) (fun c4 => ?_)
            · have dc4 := tl_lt iy13 tn_0 c4
              exact ok_some ⟨(ti_bd tn_0 (by omega) (by omega)), (by have q : _ = _ := tn_0; (try dsimp only); omega)⟩
            · have dc4 := tl_nlt iy13 tn_0 c4
              refine ok_bnd (Q := fun (z : Int32) => (0 ≤ z.toInt ∧ z.toInt ≤ 1)) ?_ ?_
              · refine ok_if (fun c5 => ?_) (fun c5 => ?_)
                · have dc5 := tl_eq (rfl : TI x7 x7.toInt) tn_2 c5
                  refine ok_ltI (av_mul tn_8 i1 (by omega) (by omega)) (fun x91 ix91 => ?_)
                  refine ok_ltI (av_add ix91 tn_6 (by omega) (by omega)) (fun x92 ix92 => ?_)
                  refine ok_dr (f_r (b := 129) ts9_2 rfl (by decide)) (g_lt ts9_2 (by decide)) (g_k ts9_2 (by decide) rfl) ?_
                  refine ok_chk (nxg (g_n (i := 129) (n := 256) ts9_2 (by decide) rfl) ix92 (by omega) (by omega)) ?_
                  refine ok_ltA (fun x94 => ?_)
                  refine ok_ltI (av_mul tn_8 iy13 (by omega) (by omega)) (fun x95 ix95 => ?_)
                  refine ok_ltI (av_add ix95 tn_6 (by omega) (by omega)) (fun x96 ix96 => ?_)
                  refine ok_chk (nxg (g_n (i := 129) (n := 256) ts9_2 (by decide) rfl) ix96 (by omega) (by omega)) ?_
                  refine ok_ltA (fun x97 => ?_)
                  refine ok_bnd (Q := fun (z : Int32) => (0 ≤ z.toInt ∧ z.toInt ≤ 1)) ?_ ?_
                  · refine ok_if (fun c6 => ?_) (fun c6 => ?_)
                    · have dc6 := tl_eq (rfl : TI x94 x94.toInt) (rfl : TI x97 x97.toInt) c6
                      exact ok_some (ti_bd tn_1 (by omega) (by omega))
                    · have dc6 := tl_ne (rfl : TI x94 x94.toInt) (rfl : TI x97 x97.toInt) c6
                      exact ok_some (ti_bd tn_0 (by omega) (by omega))
                  · intro y98 hyy98
                    have ly98 := hyy98
                    have iy98 : TI y98 y98.toInt := rfl
                    exact ok_some (ti_bd iy98 (by omega) (by omega))
                · have dc5 := tl_ne (rfl : TI x7 x7.toInt) tn_2 c5
                  exact ok_some (ti_bd tn_1 (by omega) (by omega))
              · intro y89 hyy89
                have ly89 := hyy89
                have iy89 : TI y89 y89.toInt := rfl
                exact ok_some ⟨(ti_bd iy89 (by omega) (by omega)), (by have q : _ = _ := iy89; (try dsimp only); omega)⟩
          · intro y14 hyy14
            obtain ⟨ly14, jy14⟩ := hyy14
            have iy14 : TI y14 y14.toInt := rfl
            refine ok_bnd (Q := fun (z : Int32 × DD) => (0 ≤ z.1.toInt ∧ z.1.toInt ≤ 16) ∧ TT G z.2 p 1 L ∧ Fr p [15] M z.2) (ok_itr (fun (z : Int32 × DD) => (0 ≤ z.1.toInt ∧ z.1.toInt ≤ 16) ∧ TT G z.2 p 1 L ∧ Fr p [15] M z.2) (fun z => (16 - z.1.toInt).toNat) ?_ _ _ ?_ ?_) ?_
            · intro s16 hys16
              obtain ⟨ls16_1, ts16_2, fs16_2⟩ := hys16
              have is16_1 : TI s16.1 s16.1.toInt := rfl
              refine ok_if (fun c7 => ?_) (fun c7 => ?_)
              · have dc7 := tl_le tn_16 is16_1 c7
                exact ok_some ⟨(ti_bd is16_1 (by omega) (by omega)), ts16_2, fs16_2⟩
              · have dc7 := tl_nle tn_16 is16_1 c7
                refine ok_bnd (s_pieceX ts16_2 is16_1 (by omega) (by omega)) ?_
                intro y21 hyy21
                obtain ⟨ty21, gy21, iy21⟩ := hyy21
                have fy21 := fr_tr fs16_2 gy21 rfl
                refine ok_bnd (Q := fun (z : Int32) => (0 ≤ z.toInt ∧ z.toInt ≤ 4)) ?_ ?_
                · refine ok_if (fun c8 => ?_) (fun c8 => ?_)
                  · have dc8 := tl_eq is9_1 tn_0 c8
                    exact ok_some (ti_bd tn_4 (by omega) (by omega))
                  · have dc8 := tl_ne is9_1 tn_0 c8
                    exact ok_some (ti_bd tn_0 (by omega) (by omega))
                · intro y22 hyy22
                  have ly22 := hyy22
                  have iy22 : TI y22 y22.toInt := rfl
                  refine ok_ltI (av_sub iy21 iy22 (by omega) (by omega)) (fun x23 ix23 => ?_)
                  refine ok_bnd (s_pieceY ty21 is16_1 (by omega) (by omega)) ?_
                  intro y24 hyy24
                  obtain ⟨ty24, gy24, iy24⟩ := hyy24
                  have fy24 := fr_tr fy21 gy24 rfl
                  refine ok_bnd (Q := fun (z : Int32) => (0 ≤ z.toInt ∧ z.toInt ≤ 4)) ?_ ?_
                  · refine ok_if (fun c9 => ?_) (fun c9 => ?_)
                    · have dc9 := tl_eq is9_1 tn_1 c9
                      exact ok_some (ti_bd tn_4 (by omega) (by omega))
                    · have dc9 := tl_ne is9_1 tn_1 c9
                      exact ok_some (ti_bd tn_0 (by omega) (by omega))
                  · intro y25 hyy25
                    have ly25 := hyy25
                    have iy25 : TI y25 y25.toInt := rfl
                    refine ok_ltI (av_sub iy24 iy25 (by omega) (by omega)) (fun x26 ix26 => ?_)
                    refine ok_bnd (Q := fun (z : Int32) => (0 ≤ z.toInt ∧ z.toInt ≤ 1)) ?_ ?_
                    · refine ok_if (fun c10 => ?_) (fun c10 => ?_)
                      · have dc10 := tl_lt ix23 tn_0 c10
                        exact ok_some (ti_bd tn_0 (by omega) (by omega))
                      · have dc10 := tl_nlt ix23 tn_0 c10
                        refine ok_bnd (Q := fun (z : Int32) => (0 ≤ z.toInt ∧ z.toInt ≤ 1)) ?_ ?_
                        · refine ok_if (fun c11 => ?_) (fun c11 => ?_)
                          · have dc11 := tl_lt ix26 tn_0 c11
                            exact ok_some (ti_bd tn_0 (by omega) (by omega))
                          · have dc11 := tl_nlt ix26 tn_0 c11
                            exact ok_some (ti_bd tn_1 (by omega) (by omega))
                        · intro y84 hyy84
                          have ly84 := hyy84
                          have iy84 : TI y84 y84.toInt := rfl
                          exact ok_some (ti_bd iy84 (by omega) (by omega))
                    · intro y27 hyy27
                      have ly27 := hyy27
                      have iy27 : TI y27 y27.toInt := rfl
                      refine ok_bnd (Q := fun (z : Int32 × DD) => (0 ≤ z.1.toInt ∧ z.1.toInt ≤ 4) ∧ TT G z.2 p 1 L ∧ Fr p [15] M z.2) ?_ ?_
                      · refine ok_if (fun c12 => ?_) (fun c12 => ?_)
                        · have dc12 := tl_eq (rfl : TI x7 x7.toInt) tn_1 c12
                          exact ok_some ⟨(ti_bd tn_0 (by omega) (by omega)), ty24, fy24⟩
                        · have dc12 := tl_ne (rfl : TI x7 x7.toInt) tn_1 c12
                          refine ok_bnd (Q := fun (z : Int32 × DD) => (0 ≤ z.1.toInt ∧ z.1.toInt ≤ 4) ∧ TT G z.2 p 1 L ∧ Fr p [15] M z.2) ?_ ?_
                          · refine ok_if (fun c13 => ?_) (fun c13 => ?_)
                            · have dc13 := tl_eq iy27 tn_0 c13
                              refine ok_bnd (Q := fun (z : Int32 × DD) => (0 ≤ z.1.toInt ∧ z.1.toInt ≤ 4) ∧ TT G z.2 p 1 L ∧ Fr p [15] M z.2) ?_ ?_
                              · refine ok_if (fun c14 => ?_) (fun c14 => ?_)
                                · have dc14 := tl_eq iy14 tn_0 c14
                                  exact ok_some ⟨(ti_bd tn_0 (by omega) (by omega)), ty24, fy24⟩
                                · have dc14 := tl_ne iy14 tn_0 c14
                                  refine ok_ltI (av_sar 3 ix26 (by decide)) (fun x62 ix62 => ?_)
                                  refine ok_ltI (av_and 1 ix62 (by decide) (by decide)) (fun x63 ix63 => ?_)
                                  refine ok_ltI (av_mul ix63 tn_8 (by omega) (by omega)) (fun x64 ix64 => ?_)
                                  refine ok_ltI (av_sar 3 ix23 (by decide)) (fun x65 ix65 => ?_)
                                  refine ok_ltI (av_and 1 ix65 (by decide) (by decide)) (fun x66 ix66 => ?_)
                                  refine ok_ltI (av_mul ix66 tn_4 (by omega) (by omega)) (fun x67 ix67 => ?_)
                                  refine ok_ltI (av_add ix64 ix67 (by omega) (by omega)) (fun x68 ix68 => ?_)
                                  refine ok_ltI (av_sar 2 ix26 (by decide)) (fun x69 ix69 => ?_)
                                  refine ok_ltI (av_and 1 ix69 (by decide) (by decide)) (fun x70 ix70 => ?_)
                                  refine ok_ltI (av_mul ix70 tn_2 (by omega) (by omega)) (fun x71 ix71 => ?_)
                                  refine ok_ltI (av_add ix68 ix71 (by omega) (by omega)) (fun x72 ix72 => ?_)
                                  refine ok_ltI (av_sar 2 ix23 (by decide)) (fun x73 ix73 => ?_)
                                  refine ok_ltI (av_and 1 ix73 (by decide) (by decide)) (fun x74 ix74 => ?_)
                                  refine ok_ltI (av_add ix72 ix74 (by omega) (by omega)) (fun x75 ix75 => ?_)
                                  refine ok_bnd (Q := fun (z : Int32) => (-1 ≤ z.toInt ∧ z.toInt ≤ 2) ∧ (0 ≤ z.toInt ∧ z.toInt < 2 * 1)) ?_ ?_
                                  · refine ok_if (fun c15 => ?_) (fun c15 => ?_)
                                    · have dc15 := tl_eq iy27 tn_0 c15
                                      exact ok_some ⟨(ti_bd iy13 (by omega) (by omega)), (by have q : _ = _ := iy13; (try dsimp only); omega)⟩
                                    · have dc15 := tl_ne iy27 tn_0 c15
                                      exfalso
                                      omega
                                  · intro y76 hyy76
                                    obtain ⟨ly76, jy76⟩ := hyy76
                                    have iy76 : TI y76 y76.toInt := rfl
                                    refine ok_ltI (av_mul tn_16 iy76 (by omega) (by omega)) (fun x77 ix77 => ?_)
                                    refine ok_ltI (av_add ix77 ix75 (by omega) (by omega)) (fun x78 ix78 => ?_)
                                    refine ok_ltI (av_mul tn_16 i1 (by omega) (by omega)) (fun x79 ix79 => ?_)
                                    refine ok_ltI (av_add ix79 is16_1 (by omega) (by omega)) (fun x80 ix80 => ?_)
                                    refine ok_bnd (s_strengthOf ty24 rfl ix78 ix80 (by omega) (by omega) (by omega) (by omega)) ?_
                                    intro y81 hyy81
                                    obtain ⟨ty81, gy81, ly81⟩ := hyy81
                                    have fy81 := fr_tr fy24 gy81 rfl
                                    have iy81 : TI y81.2 y81.2.toInt := rfl
                                    exact ok_some ⟨(ti_bd iy81 (by omega) (by omega)), ty81, fy81⟩
                              · intro y60 hyy60
                                obtain ⟨ly60_1, ty60_2, fy60_2⟩ := hyy60
                                have iy60_1 : TI y60.1 y60.1.toInt := rfl
                                exact ok_some ⟨(ti_bd iy60_1 (by omega) (by omega)), ty60_2, fy60_2⟩
                            · have dc13 := tl_ne iy27 tn_0 c13
                              refine ok_ltI (av_sar 3 ix26 (by decide)) (fun x39 ix39 => ?_)
                              refine ok_ltI (av_and 1 ix39 (by decide) (by decide)) (fun x40 ix40 => ?_)
                              refine ok_ltI (av_mul ix40 tn_8 (by omega) (by omega)) (fun x41 ix41 => ?_)
                              refine ok_ltI (av_sar 3 ix23 (by decide)) (fun x42 ix42 => ?_)
                              refine ok_ltI (av_and 1 ix42 (by decide) (by decide)) (fun x43 ix43 => ?_)
                              refine ok_ltI (av_mul ix43 tn_4 (by omega) (by omega)) (fun x44 ix44 => ?_)
                              refine ok_ltI (av_add ix41 ix44 (by omega) (by omega)) (fun x45 ix45 => ?_)
                              refine ok_ltI (av_sar 2 ix26 (by decide)) (fun x46 ix46 => ?_)
                              refine ok_ltI (av_and 1 ix46 (by decide) (by decide)) (fun x47 ix47 => ?_)
                              refine ok_ltI (av_mul ix47 tn_2 (by omega) (by omega)) (fun x48 ix48 => ?_)
                              refine ok_ltI (av_add ix45 ix48 (by omega) (by omega)) (fun x49 ix49 => ?_)
                              refine ok_ltI (av_sar 2 ix23 (by decide)) (fun x50 ix50 => ?_)
                              refine ok_ltI (av_and 1 ix50 (by decide) (by decide)) (fun x51 ix51 => ?_)
                              refine ok_ltI (av_add ix49 ix51 (by omega) (by omega)) (fun x52 ix52 => ?_)
                              refine ok_bnd (Q := fun (z : Int32) => (0 ≤ z.toInt ∧ z.toInt ≤ 3) ∧ (0 ≤ z.toInt ∧ z.toInt < 2 * 1)) ?_ ?_
                              · refine ok_if (fun c16 => ?_) (fun c16 => ?_)
                                · have dc16 := tl_eq iy27 tn_0 c16
                                  exfalso
                                  omega
                                · have dc16 := tl_ne iy27 tn_0 c16
                                  exact ok_some ⟨(ti_bd i1 (by omega) (by omega)), (by have q : _ = _ := i1; (try dsimp only); omega)⟩
                              · intro y53 hyy53
                                obtain ⟨ly53, jy53⟩ := hyy53
                                have iy53 : TI y53 y53.toInt := rfl
                                refine ok_ltI (av_mul tn_16 iy53 (by omega) (by omega)) (fun x54 ix54 => ?_)
                                refine ok_ltI (av_add ix54 ix52 (by omega) (by omega)) (fun x55 ix55 => ?_)
                                refine ok_ltI (av_mul tn_16 i1 (by omega) (by omega)) (fun x56 ix56 => ?_)
                                refine ok_ltI (av_add ix56 is16_1 (by omega) (by omega)) (fun x57 ix57 => ?_)
                                refine ok_bnd (s_strengthOf ty24 rfl ix55 ix57 (by omega) (by omega) (by omega) (by omega)) ?_
                                intro y58 hyy58
                                obtain ⟨ty58, gy58, ly58⟩ := hyy58
                                have fy58 := fr_tr fy24 gy58 rfl
                                have iy58 : TI y58.2 y58.2.toInt := rfl
                                exact ok_some ⟨(ti_bd iy58 (by omega) (by omega)), ty58, fy58⟩
                          · intro y37 hyy37
                            obtain ⟨ly37_1, ty37_2, fy37_2⟩ := hyy37
                            have iy37_1 : TI y37.1 y37.1.toInt := rfl
                            exact ok_some ⟨(ti_bd iy37_1 (by omega) (by omega)), ty37_2, fy37_2⟩
                      · intro y28 hyy28
                        obtain ⟨ly28_1, ty28_2, fy28_2⟩ := hyy28
                        have iy28_1 : TI y28.1 y28.1.toInt := rfl
                        refine ok_ltI (av_mul tn_16 i1 (by omega) (by omega)) (fun x29 ix29 => ?_)
                        refine ok_ltI (av_add ix29 is16_1 (by omega) (by omega)) (fun x30 ix30 => ?_)
                        refine ok_ltI (av_mul tn_2 ix30 (by omega) (by omega)) (fun x31 ix31 => ?_)
                        refine ok_ltI (av_add ix31 is9_1 (by omega) (by omega)) (fun x32 ix32 => ?_)
                        refine ok_dr (f_r (b := 149) ty28_2 rfl (by decide)) (g_lt ty28_2 (by decide)) (g_k ty28_2 (by decide) rfl) ?_
                        refine ok_chk (nxg (g_n (i := 149) (n := 1024) ty28_2 (by decide) rfl) ix32 (by omega) (by omega)) ?_
                        refine ok_ltt (fun M34 eM34 => ?_)
                        have tM34 : TT G M34 p 1 L := by rw [eM34]; exact (tt_wt ty28_2 (0) (4) rfl (by simp [TYL]) (ti_ib iy28_1 (by omega) (by omega)))
                        have fM34 : Fr p [15] M M34 := by rw [eM34]; exact (fr_w fy28_2 rfl)
                        clear eM34
                        refine ok_ltI (av_add is16_1 tn_1 (by omega) (by omega)) (fun x35 ix35 => ?_)
                        exact ok_some ⟨⟨(ti_bd ix35 (by omega) (by omega)), tM34, fM34⟩, (mu_up ix35 (by omega) (by omega))⟩
            · exact ⟨(ti_bd tn_0 (by omega) (by omega)), ts9_2, fs9_2⟩
            · exact mu_0 tn_0 (by omega)
            · intro y15 hyy15
              obtain ⟨ly15_1, ty15_2, fy15_2⟩ := hyy15
              have iy15_1 : TI y15.1 y15.1.toInt := rfl
              refine ok_ltI (av_add is9_1 tn_1 (by omega) (by omega)) (fun x18 ix18 => ?_)
              exact ok_some ⟨⟨(ti_bd ix18 (by omega) (by omega)), ty15_2, fy15_2⟩, (mu_up ix18 (by omega) (by omega))⟩
    · exact ⟨(ti_bd tn_0 (by omega) (by omega)), t, (fr_0 p [15] M)⟩
    · exact mu_0 tn_0 (by omega)
    · intro y8 hyy8
      obtain ⟨ly8_1, ty8_2, fy8_2⟩ := hyy8
      have iy8_1 : TI y8.1 y8.1.toInt := rfl
      exact ok_some ⟨ty8_2, fy8_2⟩
  · refine ok_dr rfl (g_lt t (by decide)) (g_k t (by decide) rfl) ?_
    refine ok_dr (tt_pic t) (by have q := (tt_q0b t (tt_p t)); omega) (gk_0 t (tt_p t)) ?_
    refine ok_ltI (tw_q t (tt_p t)) (fun x4 ix4 => ?_)
    refine ok_ltI (av_mul tn_3 i1 (by omega) (by omega)) (fun x5 ix5 => ?_)
    refine ok_dr (f_r (b := 133) t rfl (by decide)) (g_lt t (by decide)) (g_k t (by decide) rfl) ?_
    refine ok_chk (nxg (g_n (i := 133) (n := 96) t (by decide) rfl) ix5 (by omega) (by omega)) ?_
    refine ok_ltA (fun x7 => ?_)
    refine ok_bnd (Q := fun (z : Int32 × DD) => (0 ≤ z.1.toInt ∧ z.1.toInt ≤ 2) ∧ TT G z.2 p 2 L ∧ Fr p [15] M z.2) (ok_itr (fun (z : Int32 × DD) => (0 ≤ z.1.toInt ∧ z.1.toInt ≤ 2) ∧ TT G z.2 p 2 L ∧ Fr p [15] M z.2) (fun z => (2 - z.1.toInt).toNat) ?_ _ _ ?_ ?_) ?_
    · intro s9 hys9
      obtain ⟨ls9_1, ts9_2, fs9_2⟩ := hys9
      have is9_1 : TI s9.1 s9.1.toInt := rfl
      refine ok_if (fun c1 => ?_) (fun c1 => ?_)
      · have dc1 := tl_le tn_2 is9_1 c1
        exact ok_some ⟨(ti_bd is9_1 (by omega) (by omega)), ts9_2, fs9_2⟩
      · have dc1 := tl_nle tn_2 is9_1 c1
        refine ok_bnd (Q := fun (z : Int32) => (-2 ≤ z.toInt ∧ z.toInt ≤ 2) ∧ (z.toInt < 2 * 2)) ?_ ?_
        · refine ok_if (fun c2 => ?_) (fun c2 => ?_)
          · have dc2 := tl_eq is9_1 tn_0 c2
            refine ok_chk (nz ix4 (by omega)) ?_
            refine ok_ltI (av_mod i1 ix4 (by omega) (by omega)) (fun x102 ix102 => ?_)
            refine ok_bnd (Q := fun (z : Int32) => (-1 ≤ z.toInt ∧ z.toInt ≤ 2) ∧ (z.toInt < 2 * 2)) ?_ ?_
            · refine ok_if (fun c3 => ?_) (fun c3 => ?_)
              · have dc3 := tl_le ix102 tn_0 c3
                exact ok_some ⟨(ti_bd tn_m1 (by omega) (by omega)), (by have q : _ = _ := tn_m1; (try dsimp only); omega)⟩
              · have dc3 := tl_nle ix102 tn_0 c3
                refine ok_ltI (av_sub i1 tn_1 (by omega) (by omega)) (fun x105 ix105 => ?_)
                exact ok_some ⟨(ti_bd ix105 (by omega) (by omega)), (by have q : _ = _ := ix105; (try dsimp only); omega)⟩
            · intro y103 hyy103
              obtain ⟨ly103, jy103⟩ := hyy103
              have iy103 : TI y103 y103.toInt := rfl
              exact ok_some ⟨(ti_bd iy103 (by omega) (by omega)), (by have q : _ = _ := iy103; (try dsimp only); omega)⟩
          · have dc2 := tl_ne is9_1 tn_0 c2
            refine ok_ltI (av_sub i1 ix4 (by omega) (by omega)) (fun x101 ix101 => ?_)
            exact ok_some ⟨(ti_bd ix101 (by omega) (by omega)), (by have q : _ = _ := ix101; (try dsimp only); omega)⟩
        · intro y13 hyy13
          obtain ⟨ly13, jy13⟩ := hyy13
          have iy13 : TI y13 y13.toInt := rfl
          refine ok_bnd (Q := fun (z : Int32) => (0 ≤ z.toInt ∧ z.toInt ≤ 1) ∧ (z.toInt ≠ 0 → 0 ≤ y13.toInt)) ?_ ?_
          · refine ok_if (fun c4 => ?_) (fun c4 => ?_)
            · have dc4 := tl_lt iy13 tn_0 c4
              exact ok_some ⟨(ti_bd tn_0 (by omega) (by omega)), (by have q : _ = _ := tn_0; (try dsimp only); omega)⟩
            · have dc4 := tl_nlt iy13 tn_0 c4
              refine ok_bnd (Q := fun (z : Int32) => (0 ≤ z.toInt ∧ z.toInt ≤ 1)) ?_ ?_
              · refine ok_if (fun c5 => ?_) (fun c5 => ?_)
                · have dc5 := tl_eq (rfl : TI x7 x7.toInt) tn_2 c5
                  refine ok_ltI (av_mul tn_8 i1 (by omega) (by omega)) (fun x91 ix91 => ?_)
                  refine ok_ltI (av_add ix91 tn_6 (by omega) (by omega)) (fun x92 ix92 => ?_)
                  refine ok_dr (f_r (b := 129) ts9_2 rfl (by decide)) (g_lt ts9_2 (by decide)) (g_k ts9_2 (by decide) rfl) ?_
                  refine ok_chk (nxg (g_n (i := 129) (n := 256) ts9_2 (by decide) rfl) ix92 (by omega) (by omega)) ?_
                  refine ok_ltA (fun x94 => ?_)
                  refine ok_ltI (av_mul tn_8 iy13 (by omega) (by omega)) (fun x95 ix95 => ?_)
                  refine ok_ltI (av_add ix95 tn_6 (by omega) (by omega)) (fun x96 ix96 => ?_)
                  refine ok_chk (nxg (g_n (i := 129) (n := 256) ts9_2 (by decide) rfl) ix96 (by omega) (by omega)) ?_
                  refine ok_ltA (fun x97 => ?_)
                  refine ok_bnd (Q := fun (z : Int32) => (0 ≤ z.toInt ∧ z.toInt ≤ 1)) ?_ ?_
                  · refine ok_if (fun c6 => ?_) (fun c6 => ?_)
                    · have dc6 := tl_eq (rfl : TI x94 x94.toInt) (rfl : TI x97 x97.toInt) c6
                      exact ok_some (ti_bd tn_1 (by omega) (by omega))
                    · have dc6 := tl_ne (rfl : TI x94 x94.toInt) (rfl : TI x97 x97.toInt) c6
                      exact ok_some (ti_bd tn_0 (by omega) (by omega))
                  · intro y98 hyy98
                    have ly98 := hyy98
                    have iy98 : TI y98 y98.toInt := rfl
                    exact ok_some (ti_bd iy98 (by omega) (by omega))
                · have dc5 := tl_ne (rfl : TI x7 x7.toInt) tn_2 c5
                  exact ok_some (ti_bd tn_1 (by omega) (by omega))
              · intro y89 hyy89
                have ly89 := hyy89
                have iy89 : TI y89 y89.toInt := rfl
                exact ok_some ⟨(ti_bd iy89 (by omega) (by omega)), (by have q : _ = _ := iy89; (try dsimp only); omega)⟩
          · intro y14 hyy14
            obtain ⟨ly14, jy14⟩ := hyy14
            have iy14 : TI y14 y14.toInt := rfl
            refine ok_bnd (Q := fun (z : Int32 × DD) => (0 ≤ z.1.toInt ∧ z.1.toInt ≤ 16) ∧ TT G z.2 p 2 L ∧ Fr p [15] M z.2) (ok_itr (fun (z : Int32 × DD) => (0 ≤ z.1.toInt ∧ z.1.toInt ≤ 16) ∧ TT G z.2 p 2 L ∧ Fr p [15] M z.2) (fun z => (16 - z.1.toInt).toNat) ?_ _ _ ?_ ?_) ?_
            · intro s16 hys16
              obtain ⟨ls16_1, ts16_2, fs16_2⟩ := hys16
              have is16_1 : TI s16.1 s16.1.toInt := rfl
              refine ok_if (fun c7 => ?_) (fun c7 => ?_)
              · have dc7 := tl_le tn_16 is16_1 c7
                exact ok_some ⟨(ti_bd is16_1 (by omega) (by omega)), ts16_2, fs16_2⟩
              · have dc7 := tl_nle tn_16 is16_1 c7
                refine ok_bnd (s_pieceX ts16_2 is16_1 (by omega) (by omega)) ?_
                intro y21 hyy21
                obtain ⟨ty21, gy21, iy21⟩ := hyy21
                have fy21 := fr_tr fs16_2 gy21 rfl
                refine ok_bnd (Q := fun (z : Int32) => (0 ≤ z.toInt ∧ z.toInt ≤ 4)) ?_ ?_
                · refine ok_if (fun c8 => ?_) (fun c8 => ?_)
                  · have dc8 := tl_eq is9_1 tn_0 c8
                    exact ok_some (ti_bd tn_4 (by omega) (by omega))
                  · have dc8 := tl_ne is9_1 tn_0 c8
                    exact ok_some (ti_bd tn_0 (by omega) (by omega))
                · intro y22 hyy22
                  have ly22 := hyy22
                  have iy22 : TI y22 y22.toInt := rfl
                  refine ok_ltI (av_sub iy21 iy22 (by omega) (by omega)) (fun x23 ix23 => ?_)
                  refine ok_bnd (s_pieceY ty21 is16_1 (by omega) (by omega)) ?_
                  intro y24 hyy24
                  obtain ⟨ty24, gy24, iy24⟩ := hyy24
                  have fy24 := fr_tr fy21 gy24 rfl
                  refine ok_bnd (Q := fun (z : Int32) => (0 ≤ z.toInt ∧ z.toInt ≤ 4)) ?_ ?_
                  · refine ok_if (fun c9 => ?_) (fun c9 => ?_)
                    · have dc9 := tl_eq is9_1 tn_1 c9
                      exact ok_some (ti_bd tn_4 (by omega) (by omega))
                    · have dc9 := tl_ne is9_1 tn_1 c9
                      exact ok_some (ti_bd tn_0 (by omega) (by omega))
                  · intro y25 hyy25
                    have ly25 := hyy25
                    have iy25 : TI y25 y25.toInt := rfl
                    refine ok_ltI (av_sub iy24 iy25 (by omega) (by omega)) (fun x26 ix26 => ?_)
                    refine ok_bnd (Q := fun (z : Int32) => (0 ≤ z.toInt ∧ z.toInt ≤ 1)) ?_ ?_
                    · refine ok_if (fun c10 => ?_) (fun c10 => ?_)
                      · have dc10 := tl_lt ix23 tn_0 c10
                        exact ok_some (ti_bd tn_0 (by omega) (by omega))
                      · have dc10 := tl_nlt ix23 tn_0 c10
                        refine ok_bnd (Q := fun (z : Int32) => (0 ≤ z.toInt ∧ z.toInt ≤ 1)) ?_ ?_
                        · refine ok_if (fun c11 => ?_) (fun c11 => ?_)
                          · have dc11 := tl_lt ix26 tn_0 c11
                            exact ok_some (ti_bd tn_0 (by omega) (by omega))
                          · have dc11 := tl_nlt ix26 tn_0 c11
                            exact ok_some (ti_bd tn_1 (by omega) (by omega))
                        · intro y84 hyy84
                          have ly84 := hyy84
                          have iy84 : TI y84 y84.toInt := rfl
                          exact ok_some (ti_bd iy84 (by omega) (by omega))
                    · intro y27 hyy27
                      have ly27 := hyy27
                      have iy27 : TI y27 y27.toInt := rfl
                      refine ok_bnd (Q := fun (z : Int32 × DD) => (0 ≤ z.1.toInt ∧ z.1.toInt ≤ 4) ∧ TT G z.2 p 2 L ∧ Fr p [15] M z.2) ?_ ?_
                      · refine ok_if (fun c12 => ?_) (fun c12 => ?_)
                        · have dc12 := tl_eq (rfl : TI x7 x7.toInt) tn_1 c12
                          exact ok_some ⟨(ti_bd tn_0 (by omega) (by omega)), ty24, fy24⟩
                        · have dc12 := tl_ne (rfl : TI x7 x7.toInt) tn_1 c12
                          refine ok_bnd (Q := fun (z : Int32 × DD) => (0 ≤ z.1.toInt ∧ z.1.toInt ≤ 4) ∧ TT G z.2 p 2 L ∧ Fr p [15] M z.2) ?_ ?_
                          · refine ok_if (fun c13 => ?_) (fun c13 => ?_)
                            · have dc13 := tl_eq iy27 tn_0 c13
                              refine ok_bnd (Q := fun (z : Int32 × DD) => (0 ≤ z.1.toInt ∧ z.1.toInt ≤ 4) ∧ TT G z.2 p 2 L ∧ Fr p [15] M z.2) ?_ ?_
                              · refine ok_if (fun c14 => ?_) (fun c14 => ?_)
                                · have dc14 := tl_eq iy14 tn_0 c14
                                  exact ok_some ⟨(ti_bd tn_0 (by omega) (by omega)), ty24, fy24⟩
                                · have dc14 := tl_ne iy14 tn_0 c14
                                  refine ok_ltI (av_sar 3 ix26 (by decide)) (fun x62 ix62 => ?_)
                                  refine ok_ltI (av_and 1 ix62 (by decide) (by decide)) (fun x63 ix63 => ?_)
                                  refine ok_ltI (av_mul ix63 tn_8 (by omega) (by omega)) (fun x64 ix64 => ?_)
                                  refine ok_ltI (av_sar 3 ix23 (by decide)) (fun x65 ix65 => ?_)
                                  refine ok_ltI (av_and 1 ix65 (by decide) (by decide)) (fun x66 ix66 => ?_)
                                  refine ok_ltI (av_mul ix66 tn_4 (by omega) (by omega)) (fun x67 ix67 => ?_)
                                  refine ok_ltI (av_add ix64 ix67 (by omega) (by omega)) (fun x68 ix68 => ?_)
                                  refine ok_ltI (av_sar 2 ix26 (by decide)) (fun x69 ix69 => ?_)
                                  refine ok_ltI (av_and 1 ix69 (by decide) (by decide)) (fun x70 ix70 => ?_)
                                  refine ok_ltI (av_mul ix70 tn_2 (by omega) (by omega)) (fun x71 ix71 => ?_)
                                  refine ok_ltI (av_add ix68 ix71 (by omega) (by omega)) (fun x72 ix72 => ?_)
                                  refine ok_ltI (av_sar 2 ix23 (by decide)) (fun x73 ix73 => ?_)
                                  refine ok_ltI (av_and 1 ix73 (by decide) (by decide)) (fun x74 ix74 => ?_)
                                  refine ok_ltI (av_add ix72 ix74 (by omega) (by omega)) (fun x75 ix75 => ?_)
                                  refine ok_bnd (Q := fun (z : Int32) => (-2 ≤ z.toInt ∧ z.toInt ≤ 2) ∧ (0 ≤ z.toInt ∧ z.toInt < 2 * 2)) ?_ ?_
                                  · refine ok_if (fun c15 => ?_) (fun c15 => ?_)
                                    · have dc15 := tl_eq iy27 tn_0 c15
                                      exact ok_some ⟨(ti_bd iy13 (by omega) (by omega)), (by have q : _ = _ := iy13; (try dsimp only); omega)⟩
                                    · have dc15 := tl_ne iy27 tn_0 c15
                                      exfalso
                                      omega
                                  · intro y76 hyy76
                                    obtain ⟨ly76, jy76⟩ := hyy76
                                    have iy76 : TI y76 y76.toInt := rfl
                                    refine ok_ltI (av_mul tn_16 iy76 (by omega) (by omega)) (fun x77 ix77 => ?_)
                                    refine ok_ltI (av_add ix77 ix75 (by omega) (by omega)) (fun x78 ix78 => ?_)
                                    refine ok_ltI (av_mul tn_16 i1 (by omega) (by omega)) (fun x79 ix79 => ?_)
                                    refine ok_ltI (av_add ix79 is16_1 (by omega) (by omega)) (fun x80 ix80 => ?_)
                                    refine ok_bnd (s_strengthOf ty24 rfl ix78 ix80 (by omega) (by omega) (by omega) (by omega)) ?_
                                    intro y81 hyy81
                                    obtain ⟨ty81, gy81, ly81⟩ := hyy81
                                    have fy81 := fr_tr fy24 gy81 rfl
                                    have iy81 : TI y81.2 y81.2.toInt := rfl
                                    exact ok_some ⟨(ti_bd iy81 (by omega) (by omega)), ty81, fy81⟩
                              · intro y60 hyy60
                                obtain ⟨ly60_1, ty60_2, fy60_2⟩ := hyy60
                                have iy60_1 : TI y60.1 y60.1.toInt := rfl
                                exact ok_some ⟨(ti_bd iy60_1 (by omega) (by omega)), ty60_2, fy60_2⟩
                            · have dc13 := tl_ne iy27 tn_0 c13
                              refine ok_ltI (av_sar 3 ix26 (by decide)) (fun x39 ix39 => ?_)
                              refine ok_ltI (av_and 1 ix39 (by decide) (by decide)) (fun x40 ix40 => ?_)
                              refine ok_ltI (av_mul ix40 tn_8 (by omega) (by omega)) (fun x41 ix41 => ?_)
                              refine ok_ltI (av_sar 3 ix23 (by decide)) (fun x42 ix42 => ?_)
                              refine ok_ltI (av_and 1 ix42 (by decide) (by decide)) (fun x43 ix43 => ?_)
                              refine ok_ltI (av_mul ix43 tn_4 (by omega) (by omega)) (fun x44 ix44 => ?_)
                              refine ok_ltI (av_add ix41 ix44 (by omega) (by omega)) (fun x45 ix45 => ?_)
                              refine ok_ltI (av_sar 2 ix26 (by decide)) (fun x46 ix46 => ?_)
                              refine ok_ltI (av_and 1 ix46 (by decide) (by decide)) (fun x47 ix47 => ?_)
                              refine ok_ltI (av_mul ix47 tn_2 (by omega) (by omega)) (fun x48 ix48 => ?_)
                              refine ok_ltI (av_add ix45 ix48 (by omega) (by omega)) (fun x49 ix49 => ?_)
                              refine ok_ltI (av_sar 2 ix23 (by decide)) (fun x50 ix50 => ?_)
                              refine ok_ltI (av_and 1 ix50 (by decide) (by decide)) (fun x51 ix51 => ?_)
                              refine ok_ltI (av_add ix49 ix51 (by omega) (by omega)) (fun x52 ix52 => ?_)
                              refine ok_bnd (Q := fun (z : Int32) => (0 ≤ z.toInt ∧ z.toInt ≤ 3) ∧ (0 ≤ z.toInt ∧ z.toInt < 2 * 2)) ?_ ?_
                              · refine ok_if (fun c16 => ?_) (fun c16 => ?_)
                                · have dc16 := tl_eq iy27 tn_0 c16
                                  exfalso
                                  omega
                                · have dc16 := tl_ne iy27 tn_0 c16
                                  exact ok_some ⟨(ti_bd i1 (by omega) (by omega)), (by have q : _ = _ := i1; (try dsimp only); omega)⟩
                              · intro y53 hyy53
                                obtain ⟨ly53, jy53⟩ := hyy53
                                have iy53 : TI y53 y53.toInt := rfl
                                refine ok_ltI (av_mul tn_16 iy53 (by omega) (by omega)) (fun x54 ix54 => ?_)
                                refine ok_ltI (av_add ix54 ix52 (by omega) (by omega)) (fun x55 ix55 => ?_)
                                refine ok_ltI (av_mul tn_16 i1 (by omega) (by omega)) (fun x56 ix56 => ?_)
                                refine ok_ltI (av_add ix56 is16_1 (by omega) (by omega)) (fun x57 ix57 => ?_)
                                refine ok_bnd (s_strengthOf ty24 rfl ix55 ix57 (by omega) (by omega) (by omega) (by omega)) ?_
                                intro y58 hyy58
                                obtain ⟨ty58, gy58, ly58⟩ := hyy58
                                have fy58 := fr_tr fy24 gy58 rfl
                                have iy58 : TI y58.2 y58.2.toInt := rfl
                                exact ok_some ⟨(ti_bd iy58 (by omega) (by omega)), ty58, fy58⟩
                          · intro y37 hyy37
                            obtain ⟨ly37_1, ty37_2, fy37_2⟩ := hyy37
                            have iy37_1 : TI y37.1 y37.1.toInt := rfl
                            exact ok_some ⟨(ti_bd iy37_1 (by omega) (by omega)), ty37_2, fy37_2⟩
                      · intro y28 hyy28
                        obtain ⟨ly28_1, ty28_2, fy28_2⟩ := hyy28
                        have iy28_1 : TI y28.1 y28.1.toInt := rfl
                        refine ok_ltI (av_mul tn_16 i1 (by omega) (by omega)) (fun x29 ix29 => ?_)
                        refine ok_ltI (av_add ix29 is16_1 (by omega) (by omega)) (fun x30 ix30 => ?_)
                        refine ok_ltI (av_mul tn_2 ix30 (by omega) (by omega)) (fun x31 ix31 => ?_)
                        refine ok_ltI (av_add ix31 is9_1 (by omega) (by omega)) (fun x32 ix32 => ?_)
                        refine ok_dr (f_r (b := 149) ty28_2 rfl (by decide)) (g_lt ty28_2 (by decide)) (g_k ty28_2 (by decide) rfl) ?_
                        refine ok_chk (nxg (g_n (i := 149) (n := 1024) ty28_2 (by decide) rfl) ix32 (by omega) (by omega)) ?_
                        refine ok_ltt (fun M34 eM34 => ?_)
                        have tM34 : TT G M34 p 2 L := by rw [eM34]; exact (tt_wt ty28_2 (0) (4) rfl (by simp [TYL]) (ti_ib iy28_1 (by omega) (by omega)))
                        have fM34 : Fr p [15] M M34 := by rw [eM34]; exact (fr_w fy28_2 rfl)
                        clear eM34
                        refine ok_ltI (av_add is16_1 tn_1 (by omega) (by omega)) (fun x35 ix35 => ?_)
                        exact ok_some ⟨⟨(ti_bd ix35 (by omega) (by omega)), tM34, fM34⟩, (mu_up ix35 (by omega) (by omega))⟩
            · exact ⟨(ti_bd tn_0 (by omega) (by omega)), ts9_2, fs9_2⟩
            · exact mu_0 tn_0 (by omega)
            · intro y15 hyy15
              obtain ⟨ly15_1, ty15_2, fy15_2⟩ := hyy15
              have iy15_1 : TI y15.1 y15.1.toInt := rfl
              refine ok_ltI (av_add is9_1 tn_1 (by omega) (by omega)) (fun x18 ix18 => ?_)
              exact ok_some ⟨⟨(ti_bd ix18 (by omega) (by omega)), ty15_2, fy15_2⟩, (mu_up ix18 (by omega) (by omega))⟩
    · exact ⟨(ti_bd tn_0 (by omega) (by omega)), t, (fr_0 p [15] M)⟩
    · exact mu_0 tn_0 (by omega)
    · intro y8 hyy8
      obtain ⟨ly8_1, ty8_2, fy8_2⟩ := hyy8
      have iy8_1 : TI y8.1 y8.1.toInt := rfl
      exact ok_some ⟨ty8_2, fy8_2⟩
theorem s_filter {G : GG} {M : DD} {p : Nat} {w : Int} {L : List Nat} (t : TT G M p w L) {p0 : Option Nat} (e0 : p0 = some 125) : OK (FX2_filter G M 148 p0) (fun y => TT G y p w L ∧ Fr p [15, 18, 23] M y) := by
  unfold FX2_filter
  subst e0
  have hw12 : 1 ≤ w ∧ w ≤ 2 := by rcases tt_w t with h | h <;> omega
  refine ok_dr rfl (g_lt t (by decide)) (g_k t (by decide) rfl) ?_
  refine ok_dr (tt_pic t) (by have q := (tt_q0b t (tt_p t)); omega) (gk_0 t (tt_p t)) ?_
  refine ok_bnd (s_blocks t (tt_p t)) ?_
  intro y4 hyy4
  obtain ⟨ty4, gy4, iy4⟩ := hyy4
  have fy4 := fr_tr (fr_0 p [15, 18, 23] M) gy4 rfl
  have w1_y4 : (y4.1.1 148 1).toInt = (M.1 148 1).toInt := by rw [gy4.2 148 1 rfl]
  refine ok_ltt (fun M5 eM5 => ?_)
  have tM5 : TT G M5 p w L := by rw [eM5]; exact (tt_w0 ty4 rfl)
  have fM5 : Fr p [15, 18, 23] M M5 := by rw [eM5]; exact (fr_w fy4 rfl)
  have w1_M5 := wat eM5 iy4
  clear eM5
  refine ok_bnd (Q := fun (z : Int32 × DD) => (0 ≤ z.1.toInt ∧ z.1.toInt ≤ (w * 2)) ∧ TT G z.2 p w L ∧ Fr p [15, 18, 23] M z.2 ∧ (z.2.1 148 1).toInt = w * 2) (ok_itr (fun (z : Int32 × DD) => (0 ≤ z.1.toInt ∧ z.1.toInt ≤ (w * 2)) ∧ TT G z.2 p w L ∧ Fr p [15, 18, 23] M z.2 ∧ (z.2.1 148 1).toInt = w * 2) (fun z => ((w * 2) - z.1.toInt).toNat) ?_ _ _ ?_ ?_) ?_
  · intro s7 hys7
    obtain ⟨ls7_1, ts7_2, fs7_2, hts7⟩ := hys7
    have is7_1 : TI s7.1 s7.1.toInt := rfl
    refine ok_ltI (rfl : TI (s7.2.1 148 1) (s7.2.1 148 1).toInt) (fun x10 ix10 => ?_)
    refine ok_if (fun c1 => ?_) (fun c1 => ?_)
    · have dc1 := tl_le ix10 is7_1 c1
      exact ok_some ⟨(ti_bd is7_1 (by omega) (by omega)), ts7_2, fs7_2, hts7⟩
    · have dc1 := tl_nle ix10 is7_1 c1
      refine ok_bnd (s2_measure ts7_2 rfl is7_1 (by omega) (by omega)) ?_
      intro y12 hyy12
      obtain ⟨ty12, gy12⟩ := hyy12
      have fy12 := fr_tr fs7_2 gy12 rfl
      have w1_y12 : (y12.1 148 1).toInt = (s7.2.1 148 1).toInt := by rw [gy12.2 148 1 rfl]
      refine ok_bnd (Q := fun (z : Int32 × DD) => (0 ≤ z.1.toInt ∧ z.1.toInt ≤ 3) ∧ TT G z.2 p w L ∧ Fr p [15, 18, 23] M z.2 ∧ (z.2.1 148 1).toInt = w * 2) (ok_itr (fun (z : Int32 × DD) => (0 ≤ z.1.toInt ∧ z.1.toInt ≤ 3) ∧ TT G z.2 p w L ∧ Fr p [15, 18, 23] M z.2 ∧ (z.2.1 148 1).toInt = w * 2) (fun z => (3 - z.1.toInt).toNat) ?_ _ _ ?_ ?_) ?_
      · intro s14 hys14
        obtain ⟨ls14_1, ts14_2, fs14_2, hts14⟩ := hys14
        have is14_1 : TI s14.1 s14.1.toInt := rfl
        refine ok_if (fun c2 => ?_) (fun c2 => ?_)
        · have dc2 := tl_le tn_3 is14_1 c2
          exact ok_some ⟨(ti_bd is14_1 (by omega) (by omega)), ts14_2, fs14_2, hts14⟩
        · have dc2 := tl_nle tn_3 is14_1 c2
          refine ok_bnd (Q := fun (z : Int32 × DD) => (0 ≤ z.1.toInt ∧ z.1.toInt ≤ 2) ∧ TT G z.2 p w L ∧ Fr p [15, 18, 23] M z.2 ∧ (z.2.1 148 1).toInt = w * 2) (ok_itr (fun (z : Int32 × DD) => (0 ≤ z.1.toInt ∧ z.1.toInt ≤ 2) ∧ TT G z.2 p w L ∧ Fr p [15, 18, 23] M z.2 ∧ (z.2.1 148 1).toInt = w * 2) (fun z => (2 - z.1.toInt).toNat) ?_ _ _ ?_ ?_) ?_
          · intro s20 hys20
            obtain ⟨ls20_1, ts20_2, fs20_2, hts20⟩ := hys20
            have is20_1 : TI s20.1 s20.1.toInt := rfl
            refine ok_if (fun c3 => ?_) (fun c3 => ?_)
            · have dc3 := tl_le tn_2 is20_1 c3
              exact ok_some ⟨(ti_bd is20_1 (by omega) (by omega)), ts20_2, fs20_2, hts20⟩
            · have dc3 := tl_nle tn_2 is20_1 c3
              refine ok_bnd (Q := fun (z : Int32 × DD) => (0 ≤ z.1.toInt ∧ z.1.toInt ≤ 4) ∧ TT G z.2 p w L ∧ Fr p [15, 18, 23] M z.2 ∧ (z.2.1 148 1).toInt = w * 2) (ok_itr (fun (z : Int32 × DD) => (0 ≤ z.1.toInt ∧ z.1.toInt ≤ 4) ∧ TT G z.2 p w L ∧ Fr p [15, 18, 23] M z.2 ∧ (z.2.1 148 1).toInt = w * 2) (fun z => (4 - z.1.toInt).toNat) ?_ _ _ ?_ ?_) ?_
              · intro s26 hys26
                obtain ⟨ls26_1, ts26_2, fs26_2, hts26⟩ := hys26
                have is26_1 : TI s26.1 s26.1.toInt := rfl
                refine ok_bnd (Q := fun (z : Int32) => (2 ≤ z.toInt ∧ z.toInt ≤ 4) ∧ ((s14.1.toInt = 0 → z.toInt = 4) ∧ (s14.1.toInt ≠ 0 → z.toInt = 2))) ?_ ?_
                · refine ok_if (fun c4 => ?_) (fun c4 => ?_)
                  · have dc4 := tl_eq is14_1 tn_0 c4
                    exact ok_some ⟨(ti_bd tn_4 (by omega) (by omega)), (by have q : _ = _ := tn_4; (try dsimp only); omega)⟩
                  · have dc4 := tl_ne is14_1 tn_0 c4
                    exact ok_some ⟨(ti_bd tn_2 (by omega) (by omega)), (by have q : _ = _ := tn_2; (try dsimp only); omega)⟩
                · intro y30 hyy30
                  obtain ⟨ly30, jy30⟩ := hyy30
                  have iy30 : TI y30 y30.toInt := rfl
                  refine ok_if (fun c5 => ?_) (fun c5 => ?_)
                  · have dc5 := tl_le iy30 is26_1 c5
                    exact ok_some ⟨(ti_bd is26_1 (by omega) (by omega)), ts26_2, fs26_2, hts26⟩
                  · have dc5 := tl_nle iy30 is26_1 c5
                    refine ok_bnd (s_filterEdge ts26_2 rfl is7_1 is14_1 is20_1 is26_1 (by omega) (by omega) (by omega) (by omega) (by omega) (by omega) (by omega)) ?_
                    intro y32 hyy32
                    obtain ⟨ty32, gy32⟩ := hyy32
                    have fy32 := fr_tr fs26_2 gy32 rfl
                    have w1_y32 : (y32.1 148 1).toInt = (s26.2.1 148 1).toInt := by rw [gy32.2 148 1 rfl]
                    refine ok_ltI (av_add is26_1 tn_1 (by omega) (by omega)) (fun x33 ix33 => ?_)
                    exact ok_some ⟨⟨(ti_bd ix33 (by omega) (by omega)), ty32, fy32, (by have q : _ = _ := ix33; (try dsimp only); omega)⟩, (mu_up ix33 (by omega) (by omega))⟩
              · exact ⟨(ti_bd tn_0 (by omega) (by omega)), ts20_2, fs20_2, (by have q : _ = _ := tn_0; (try dsimp only); omega)⟩
              · exact mu_0 tn_0 (by omega)
              · intro y25 hyy25
                obtain ⟨ly25_1, ty25_2, fy25_2, hty25⟩ := hyy25
                have iy25_1 : TI y25.1 y25.1.toInt := rfl
                refine ok_ltI (av_add is20_1 tn_1 (by omega) (by omega)) (fun x28 ix28 => ?_)
                exact ok_some ⟨⟨(ti_bd ix28 (by omega) (by omega)), ty25_2, fy25_2, (by have q : _ = _ := ix28; (try dsimp only); omega)⟩, (mu_up ix28 (by omega) (by omega))⟩
          · exact ⟨(ti_bd tn_0 (by omega) (by omega)), ts14_2, fs14_2, (by have q : _ = _ := tn_0; (try dsimp only); omega)⟩
          · exact mu_0 tn_0 (by omega)
          · intro y19 hyy19
            obtain ⟨ly19_1, ty19_2, fy19_2, hty19⟩ := hyy19
            have iy19_1 : TI y19.1 y19.1.toInt := rfl
            refine ok_ltI (av_add is14_1 tn_1 (by omega) (by omega)) (fun x22 ix22 => ?_)
            exact ok_some ⟨⟨(ti_bd ix22 (by omega) (by omega)), ty19_2, fy19_2, (by have q : _ = _ := ix22; (try dsimp only); omega)⟩, (mu_up ix22 (by omega) (by omega))⟩
      · exact ⟨(ti_bd tn_0 (by omega) (by omega)), ty12, fy12, (by have q : _ = _ := tn_0; (try dsimp only); omega)⟩
      · exact mu_0 tn_0 (by omega)
      · intro y13 hyy13
        obtain ⟨ly13_1, ty13_2, fy13_2, hty13⟩ := hyy13
        have iy13_1 : TI y13.1 y13.1.toInt := rfl
        refine ok_ltI (av_add is7_1 tn_1 (by omega) (by omega)) (fun x16 ix16 => ?_)
        exact ok_some ⟨⟨(ti_bd ix16 (by omega) (by omega)), ty13_2, fy13_2, (by have q : _ = _ := ix16; (try dsimp only); omega)⟩, (mu_up ix16 (by omega) (by omega))⟩
  · exact ⟨(ti_bd tn_0 (by omega) (by omega)), tM5, fM5, (by have q : _ = _ := tn_0; (try dsimp only); omega)⟩
  · exact mu_0 tn_0 (by omega)
  · intro y6 hyy6
    obtain ⟨ly6_1, ty6_2, fy6_2, hty6⟩ := hyy6
    have iy6_1 : TI y6.1 y6.1.toInt := rfl
    exact ok_some ⟨ty6_2, fy6_2⟩
