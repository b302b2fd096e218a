/-! safety of the coder's functions, printed out of their trees -/
theorem s_drawVectors {G : GG} {M : DD} {p : Nat} {w : Int} {L : List Nat} (t : TT G M p w L) {p0 : Int32} {a0 : Int} (i0 : TI p0 a0) {p1 : Int32} {a1 : Int} (i1 : TI p1 a1) (h0 : 0 ≤ a0) (h1 : a0 < 2 * w) (h2 : 0 ≤ a1) (h3 : a1 ≤ 1) (hr : HRl M p a0 a1 p1) : OK (FX0_drawVectors G M 116 p0 p1) (fun y => TT G y p w L ∧ Fr p [10, 12, 20, 22] M y) := by
  unfold FX0_drawVectors
  have hw12 : 1 ≤ w ∧ w ≤ 2 := by rcases tt_w t with h | h <;> omega
  refine ok_dr (f_r (b := 125) t rfl (by decide)) (g_lt t (by decide)) (g_k t (by decide) rfl) ?_
  refine ok_bnd (Q := fun (z : Int32 × DD) => (0 ≤ z.1.toInt ∧ z.1.toInt ≤ 16) ∧ TT G z.2 p w L ∧ Fr p [10, 12, 20, 22] M z.2) (ok_itr (fun (z : Int32 × DD) => (0 ≤ z.1.toInt ∧ z.1.toInt ≤ 16) ∧ TT G z.2 p w L ∧ Fr p [10, 12, 20, 22] M z.2) (fun z => (16 - z.1.toInt).toNat) ?_ _ _ ?_ ?_) ?_
  · intro s4 hys4
    obtain ⟨ls4_1, ts4_2, fs4_2⟩ := hys4
    have is4_1 : TI s4.1 s4.1.toInt := rfl
    refine ok_dr (f_r (b := 125) ts4_2 rfl (by decide)) (g_lt ts4_2 (by decide)) (g_k ts4_2 (by decide) rfl) ?_
    refine ok_ltt (fun x8 ex8 => ?_)
    have lx8 : 0 ≤ x8.toInt ∧ x8.toInt ≤ 16 := by rw [ex8]; exact (ib_p ts4_2 (by simp [PYL] : (125, 14, 0, 16) ∈ PYL))
    have ix8 : TI x8 x8.toInt := rfl
    refine ok_if (fun c1 => ?_) (fun c1 => ?_)
    · have dc1 := tl_le ix8 is4_1 c1
      exact ok_some ⟨(ti_bd is4_1 (by omega) (by omega)), ts4_2, fs4_2⟩
    · have dc1 := tl_nle ix8 is4_1 c1
      refine ok_ltI (av_mul tn_5 is4_1 (by omega) (by omega)) (fun x10 ix10 => ?_)
      refine ok_ltI (av_add ix10 tn_3 (by omega) (by omega)) (fun x11 ix11 => ?_)
      refine ok_dr (f_r (b := 135) t rfl (by decide)) (g_lt ts4_2 (by decide)) (g_k ts4_2 (by decide) rfl) ?_
      refine ok_chk (nxg (g_n (i := 135) (n := 80) ts4_2 (by decide) rfl) ix11 (by omega) (by omega)) ?_
      refine ok_ltt (fun x13 ex13 => ?_)
      have lx13 : 0 ≤ x13.toInt ∧ x13.toInt ≤ 16 := by rw [ex13]; exact (ib_t ts4_2 (by simp [TYL] : (135, 0, 16) ∈ TYL) _)
      have ix13 : TI x13 x13.toInt := rfl
      refine ok_ltt (fun x14 ex14 => ?_)
      refine ok_ltt (fun x15 ex15 => ?_)
      have ix15 := ti_e ex15 (av_and 1 (rfl : TI x14 x14.toInt) (by decide) (by decide))
      refine ok_bnd (Q := fun (z : DD) => TT G z p w L ∧ Fr p [10, 12, 20, 22] M z) ?_ ?_
      · refine ok_if (fun c2 => ?_) (fun c2 => ?_)
        · have dc2 := tl_eq ix15 tn_0 c2
          exact ok_some ⟨ts4_2, fs4_2⟩
        · refine ok_dr (tt_pic ts4_2) (by have q := (tt_q0b ts4_2 (tt_p ts4_2)); omega) (gk_0 ts4_2 (tt_p ts4_2)) ?_
          refine ok_ltI (av_mul tn_16 i0 (by omega) (by omega)) (fun x20 ix20 => ?_)
          refine ok_chk (nxg (g_n (i := 135) (n := 80) ts4_2 (by decide) rfl) ix10 (by omega) (by omega)) ?_
          refine ok_ltt (fun x21 ex21 => ?_)
          have lx21 : 0 ≤ x21.toInt ∧ x21.toInt ≤ 16 := by rw [ex21]; exact (ib_t ts4_2 (by simp [TYL] : (135, 0, 16) ∈ TYL) _)
          have ix21 : TI x21 x21.toInt := rfl
          refine ok_ltI (av_add ix20 ix21 (by omega) (by omega)) (fun x22 ix22 => ?_)
          refine ok_bnd (s_at ts4_2 i1 ix22 (by omega) (by omega) (by omega) (by omega)) ?_
          intro y23 hyy23
          obtain ⟨ty23, gy23, iy23⟩ := hyy23
          have fy23 := fr_tr fs4_2 gy23 rfl
          refine ok_dr (pr_5 ts4_2 (tt_p ts4_2)) (by have q := (tt_q0b ty23 (tt_p ts4_2)); omega) (gk_6 ty23 (tt_p ts4_2)) ?_
          refine ok_chk (nxg (gl_6 ty23 (tt_p ts4_2)) iy23 (by omega) (by omega)) ?_
          refine ok_ltB (hr_use ty23 hr fs4_2 fy23 (by decide) (by omega) dc1 (by omega) ex8 ix10 ix11 ex13 ex14 ex15 c2 ex21 iy23 (by omega)) (fun x25 lx25 => ?_)
          have ix25 : TI x25 x25.toInt := rfl
          refine ok_chk (nxg (g_n (i := 135) (n := 80) ty23 (by decide) rfl) ix10 (by omega) (by omega)) ?_
          refine ok_ltB (ib_t ty23 (by simp [TYL] : (135, 0, 16) ∈ TYL) _) (fun x26 lx26 => ?_)
          have ix26 : TI x26 x26.toInt := rfl
          refine ok_ltI (av_add ix10 tn_1 (by omega) (by omega)) (fun x27 ix27 => ?_)
          refine ok_chk (nxg (g_n (i := 135) (n := 80) ty23 (by decide) rfl) ix27 (by omega) (by omega)) ?_
          refine ok_ltB (ib_t ty23 (by simp [TYL] : (135, 0, 16) ∈ TYL) _) (fun x28 lx28 => ?_)
          have ix28 : TI x28 x28.toInt := rfl
          refine ok_ltI (av_add ix10 tn_4 (by omega) (by omega)) (fun x29 ix29 => ?_)
          refine ok_chk (nxg (g_n (i := 135) (n := 80) ty23 (by decide) rfl) ix29 (by omega) (by omega)) ?_
          refine ok_ltB (ib_t ty23 (by simp [TYL] : (135, 0, 16) ∈ TYL) _) (fun x30 lx30 => ?_)
          have ix30 : TI x30 x30.toInt := rfl
          refine ok_dr (f_r (b := 125) ty23 rfl (by decide)) (g_lt ty23 (by decide)) (g_k ty23 (by decide) rfl) ?_
          refine ok_bnd (s_guess ty23 i0 i1 ix25 ix26 ix28 (by omega) (by omega) (by omega) (by omega) (by omega) (by omega) (by omega) (by omega) (by omega)) ?_
          intro y32 hyy32
          obtain ⟨ty32, gy32⟩ := hyy32
          have fy32 := fr_tr fy23 gy32 rfl
          refine ok_dr (f_r (b := 125) ty32 rfl (by decide)) (g_lt ty32 (by decide)) (g_k ty32 (by decide) rfl) ?_
          refine ok_ltB (ib_p ty32 (by simp [PYL] : (125, 18, -2048, 2047) ∈ PYL)) (fun x34 lx34 => ?_)
          have ix34 : TI x34 x34.toInt := rfl
          refine ok_bnd (s_draw ty32 tn_33) ?_
          intro y35 hyy35
          obtain ⟨ty35, gy35, ly35⟩ := hyy35
          have fy35 := fr_tr fy32 gy35 rfl
          have iy35 : TI y35.2 y35.2.toInt := rfl
          refine ok_ltI (av_add ix34 iy35 (by omega) (by omega)) (fun x36 ix36 => ?_)
          refine ok_ltI (av_sub ix36 tn_16 (by omega) (by omega)) (fun x37 ix37 => ?_)
          refine ok_bnd (s_clamp ty35 tn_m2048 tn_2047 (by omega)) ?_
          intro y38 hyy38
          obtain ⟨ty38, gy38, ly38⟩ := hyy38
          have fy38 := fr_tr fy35 gy38 rfl
          have iy38 : TI y38.2 y38.2.toInt := rfl
          refine ok_dr (f_r (b := 125) ty38 rfl (by decide)) (g_lt ty38 (by decide)) (g_k ty38 (by decide) rfl) ?_
          refine ok_ltB (ib_p ty38 (by simp [PYL] : (125, 19, -2048, 2047) ∈ PYL)) (fun x40 lx40 => ?_)
          have ix40 : TI x40 x40.toInt := rfl
          refine ok_bnd (s_draw ty38 tn_33) ?_
          intro y41 hyy41
          obtain ⟨ty41, gy41, ly41⟩ := hyy41
          have fy41 := fr_tr fy38 gy41 rfl
          have iy41 : TI y41.2 y41.2.toInt := rfl
          refine ok_ltI (av_add ix40 iy41 (by omega) (by omega)) (fun x42 ix42 => ?_)
          refine ok_ltI (av_sub ix42 tn_16 (by omega) (by omega)) (fun x43 ix43 => ?_)
          refine ok_bnd (s_clamp ty41 tn_m2048 tn_2047 (by omega)) ?_
          intro y44 hyy44
          obtain ⟨ty44, gy44, ly44⟩ := hyy44
          have fy44 := fr_tr fy41 gy44 rfl
          have iy44 : TI y44.2 y44.2.toInt := rfl
          refine ok_bnd (s_setVector ty44 i0 i1 is4_1 iy38 iy44 (by omega) (by omega) (by omega) (by omega) (by omega) (by omega) (by omega) (by omega) (by omega) (by omega)) ?_
          intro y45 hyy45
          obtain ⟨ty45, gy45⟩ := hyy45
          have fy45 := fr_tr fy44 gy45 rfl
          exact ok_some ⟨ty45, fy45⟩
      · intro y16 hyy16
        obtain ⟨ty16, fy16⟩ := hyy16
        refine ok_ltI (av_add is4_1 tn_1 (by omega) (by omega)) (fun x17 ix17 => ?_)
        exact ok_some ⟨⟨(ti_bd ix17 (by omega) (by omega)), ty16, fy16⟩, (mu_up ix17 (by omega) (by omega))⟩
  · exact ⟨(ti_bd tn_0 (by omega) (by omega)), t, (fr_0 p [10, 12, 20, 22] M)⟩
  · exact mu_0 tn_0 (by omega)
  · intro y3 hyy3
    obtain ⟨ly3_1, ty3_2, fy3_2⟩ := hyy3
    have iy3_1 : TI y3.1 y3.1.toInt := rfl
    exact ok_some ⟨ty3_2, fy3_2⟩
theorem s_drawSubs {G : GG} {M : DD} {p : Nat} {w : Int} {L : List Nat} (t : TT G M p w L) {p0 : Int32} {a0 : Int} (i0 : TI p0 a0) {p1 : Int32} {a1 : Int} (i1 : TI p1 a1) (h0 : 0 ≤ a0) (h1 : a0 < 2 * w) (hox : a1 = 1 → HOS M p) : OK (FX0_drawSubs G M 116 p0 p1) (fun y => TT G y.1 p w L ∧ Fr p [8, 10, 12, 17, 19, 20] M y.1 ∧ (a1 ≠ 1 → y.2.toInt = 0)) := by
  unfold FX0_drawSubs
  have hw12 : 1 ≤ w ∧ w ≤ 2 := by rcases tt_w t with h | h <;> omega
  refine ok_bnd (Q := fun (z : Int32 × Int32 × DD) => True ∧ (0 ≤ z.2.1.toInt ∧ z.2.1.toInt ≤ 4) ∧ TT G z.2.2 p w L ∧ Fr p [8, 10, 12, 17, 19, 20] M z.2.2 ∧ (a1 ≠ 1 → z.1.toInt = 0)) (ok_itr (fun (z : Int32 × Int32 × DD) => True ∧ (0 ≤ z.2.1.toInt ∧ z.2.1.toInt ≤ 4) ∧ TT G z.2.2 p w L ∧ Fr p [8, 10, 12, 17, 19, 20] M z.2.2 ∧ (a1 ≠ 1 → z.1.toInt = 0)) (fun z => (4 - z.2.1.toInt).toNat) ?_ _ _ ?_ ?_) ?_
  · intro s2 hys2
    obtain ⟨_, ls2_2_1, ts2_2_2, fs2_2_2, hts2⟩ := hys2
    have is2_2_1 : TI s2.2.1 s2.2.1.toInt := rfl
    refine ok_if (fun c1 => ?_) (fun c1 => ?_)
    · have dc1 := tl_le tn_4 is2_2_1 c1
      exact ok_some ⟨trivial, (ti_bd is2_2_1 (by omega) (by omega)), ts2_2_2, fs2_2_2, hts2⟩
    · have dc1 := tl_nle tn_4 is2_2_1 c1
      refine ok_bnd (Q := fun (z : Int32) => (4 ≤ z.toInt ∧ z.toInt ≤ 13)) ?_ ?_
      · refine ok_if (fun c2 => ?_) (fun c2 => ?_)
        · have dc2 := tl_eq i1 tn_0 c2
          exact ok_some (ti_bd tn_4 (by omega) (by omega))
        · have dc2 := tl_ne i1 tn_0 c2
          exact ok_some (ti_bd tn_13 (by omega) (by omega))
      · intro y6 hyy6
        have ly6 := hyy6
        have iy6 : TI y6 y6.toInt := rfl
        refine ok_bnd (s_draw ts2_2_2 iy6) ?_
        intro y7 hyy7
        obtain ⟨ty7, gy7, ly7⟩ := hyy7
        have fy7 := fr_tr fs2_2_2 gy7 rfl
        have iy7 : TI y7.2 y7.2.toInt := rfl
        refine ok_bnd (Q := fun (z : Int32 × Int32 × DD) => True ∧ (0 ≤ z.2.1.toInt ∧ z.2.1.toInt ≤ 12) ∧ TT G z.2.2 p w L ∧ Fr p [8, 10, 12, 17, 19, 20] M z.2.2 ∧ (a1 ≠ 1 → z.1.toInt = 0)) ?_ ?_
        · refine ok_if (fun c3 => ?_) (fun c3 => ?_)
          · have dc3 := tl_eq i1 tn_1 c3
            refine ok_bnd (Q := fun (z : Int32 × Int32 × DD) => True ∧ (0 ≤ z.2.1.toInt ∧ z.2.1.toInt ≤ 12) ∧ TT G z.2.2 p w L ∧ Fr p [8, 10, 12, 17, 19, 20] M z.2.2 ∧ (a1 ≠ 1 → z.1.toInt = 0)) ?_ ?_
            · refine ok_if (fun c4 => ?_) (fun c4 => ?_)
              · have dc4 := tl_eq iy7 tn_0 c4
                refine ok_ltA (fun x16 => ?_)
                refine ok_dr (f_r (b := 125) ty7 rfl (by decide)) (g_lt ty7 (by decide)) (g_k ty7 (by decide) rfl) ?_
                refine ok_bnd (s_direct ty7 i0 (by omega) (by omega) (ho_tr ty7 fy7 (hox (by omega)) rfl)) ?_
                intro y18 hyy18
                obtain ⟨ty18, gy18, ly18⟩ := hyy18
                have fy18 := fr_tr fy7 gy18 rfl
                have iy18 : TI y18.2 y18.2.toInt := rfl
                refine ok_bnd (Q := fun (z : Int32) => (0 ≤ z.toInt ∧ z.toInt ≤ 1)) ?_ ?_
                · refine ok_if (fun c5 => ?_) (fun c5 => ?_)
                  · have dc5 := tl_eq iy18 tn_0 c5
                    exact ok_some (ti_bd tn_1 (by omega) (by omega))
                  · have dc5 := tl_ne iy18 tn_0 c5
                    exact ok_some (ti_bd tn_0 (by omega) (by omega))
                · intro y19 hyy19
                  have ly19 := hyy19
                  have iy19 : TI y19 y19.toInt := rfl
                  refine ok_bnd (Q := fun (z : Int32) => True) ?_ ?_
                  · refine ok_if (fun c6 => ?_) (fun c6 => ?_)
                    · have dc6 := tl_eq iy19 tn_0 c6
                      refine ok_ltA (fun x23 => ?_)
                      exact ok_some trivial
                    · have dc6 := tl_ne iy19 tn_0 c6
                      exact ok_some trivial
                  · intro y20 hyy20
                    have u_y20 := hyy20
                    refine ok_ltA (fun x21 => ?_)
                    exact ok_some ⟨trivial, (ti_bd iy19 (by omega) (by omega)), ty18, fy18, (by have q0 : _ = _ := (rfl : TI x21 x21.toInt); have q1 : _ = _ := iy19; (try dsimp only); omega)⟩
              · have dc4 := tl_ne iy7 tn_0 c4
                exact ok_some ⟨trivial, (ti_bd iy7 (by omega) (by omega)), ty7, fy7, (by have q0 : _ = _ := (rfl : TI s2.1 s2.1.toInt); have q1 : _ = _ := iy7; (try dsimp only); omega)⟩
            · intro y14 hyy14
              obtain ⟨_, ly14_2_1, ty14_2_2, fy14_2_2, jy14⟩ := hyy14
              have iy14_2_1 : TI y14.2.1 y14.2.1.toInt := rfl
              exact ok_some ⟨trivial, (ti_bd iy14_2_1 (by omega) (by omega)), ty14_2_2, fy14_2_2, (by have q0 : _ = _ := (rfl : TI y14.1 y14.1.toInt); have q1 : _ = _ := iy14_2_1; (try dsimp only); omega)⟩
          · have dc3 := tl_ne i1 tn_1 c3
            exact ok_some ⟨trivial, (ti_bd iy7 (by omega) (by omega)), ty7, fy7, (by have q0 : _ = _ := (rfl : TI s2.1 s2.1.toInt); have q1 : _ = _ := iy7; (try dsimp only); omega)⟩
        · intro y8 hyy8
          obtain ⟨_, ly8_2_1, ty8_2_2, fy8_2_2, jy8⟩ := hyy8
          have iy8_2_1 : TI y8.2.1 y8.2.1.toInt := rfl
          refine ok_dr (f_r (b := 125) ty8_2_2 rfl (by decide)) (g_lt ty8_2_2 (by decide)) (g_k ty8_2_2 (by decide) rfl) ?_
          refine ok_dr (f_r (b := 134) ty8_2_2 rfl (by decide)) (g_lt ty8_2_2 (by decide)) (g_k ty8_2_2 (by decide) rfl) ?_
          refine ok_chk (nxg (g_n (i := 134) (n := 4) ty8_2_2 (by decide) rfl) is2_2_1 (by omega) (by omega)) ?_
          refine ok_ltt (fun M11 eM11 => ?_)
          have tM11 : TT G M11 p w L := by rw [eM11]; exact (tt_wt ty8_2_2 (0) (12) rfl (by simp [TYL]) (ti_ib iy8_2_1 (by omega) (by omega)))
          have fM11 : Fr p [8, 10, 12, 17, 19, 20] M M11 := by rw [eM11]; exact (fr_w fy8_2_2 rfl)
          clear eM11
          refine ok_ltI (av_add is2_2_1 tn_1 (by omega) (by omega)) (fun x12 ix12 => ?_)
          exact ok_some ⟨⟨trivial, (ti_bd ix12 (by omega) (by omega)), tM11, fM11, (by have q : _ = _ := ix12; (try dsimp only); omega)⟩, (mu_up ix12 (by omega) (by omega))⟩
  · exact ⟨trivial, (ti_bd tn_0 (by omega) (by omega)), t, (fr_0 p [8, 10, 12, 17, 19, 20] M), (by have q : _ = _ := tn_0; (try dsimp only); omega)⟩
  · exact mu_0 tn_0 (by omega)
  · intro y1 hyy1
    obtain ⟨_, ly1_2_1, ty1_2_2, fy1_2_2, hty1⟩ := hyy1
    have iy1_2_1 : TI y1.2.1 y1.2.1.toInt := rfl
    exact ok_some ⟨ty1_2_2, fy1_2_2, (by have q : _ = _ := (rfl : TI y1.1 y1.1.toInt); (try dsimp only); omega)⟩
