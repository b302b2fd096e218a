/-! safety of the coder's functions, printed out of their trees -/
theorem s_isStill {G : GG} {M : DD} {p : Nat} {w : Int} {L : List Nat} (t : TT G M p w L) {p0 : Option Nat} {q0 : Nat} (e0 : p0 = some q0) (hq0 : q0 ∈ L) {p1 : Int32} {a1 : Int} (i1 : TI p1 a1) {p2 : Int32} {a2 : Int} (i2 : TI p2 a2) (h0 : 0 ≤ a1) (h1 : a1 < 2 * w) (h2 : 0 ≤ a2) (h3 : a2 ≤ 3) : OK (FX9_isStill G M p0 p1 p2) (fun y => TT G y.1 p w L ∧ Fr p [] M y.1 ∧ (0 ≤ y.2.toInt ∧ y.2.toInt ≤ 1)) := by
  unfold FX9_isStill
  subst e0
  have hw12 : 1 ≤ w ∧ w ≤ 2 := by rcases tt_w t with h | h <;> omega
  refine ok_ltI (av_mul tn_16 i1 (by omega) (by omega)) (fun x1 ix1 => ?_)
  refine ok_ltI (av_mul tn_5 i2 (by omega) (by omega)) (fun x2 ix2 => ?_)
  refine ok_ltI (av_add ix1 ix2 (by omega) (by omega)) (fun x3 ix3 => ?_)
  refine ok_dr rfl (by have q := (tt_q0b t hq0); omega) (gk_0 t hq0) ?_
  refine ok_ltA (fun x5 => ?_)
  refine ok_if (fun c1 => ?_) (fun c1 => ?_)
  · have dc1 := tl_eq (rfl : TI x5 x5.toInt) tn_2 c1
    refine ok_chk (by decide) ?_
    exact ok_some ⟨t, (fr_0 p [] M), (ti_bd tn_0 (by omega) (by omega))⟩
  · refine ok_bnd (s_blocks t hq0) ?_
    intro y7 hyy7
    obtain ⟨ty7, gy7, iy7⟩ := hyy7
    have fy7 := fr_tr (fr_0 p [] M) gy7 rfl
    refine ok_if (fun c2 => ?_) (fun c2 => ?_)
    · have dc2 := tl_le iy7 i1 c2
      refine ok_chk (by decide) ?_
      exact ok_some ⟨ty7, fy7, (ti_bd tn_0 (by omega) (by omega))⟩
    · have dc2 := tl_nle iy7 i1 c2
      refine ok_bndE (s_listOf ty7 hq0 ix3 (by omega) (by omega)) ?_
      intro y9 eey9 hyy9
      obtain ⟨ty9, gy9, ly9⟩ := hyy9
      have fy9 := fr_tr fy7 gy9 rfl
      have iy9 : TI y9.2 y9.2.toInt := rfl
      refine ok_if (fun c3 => ?_) (fun c3 => ?_)
      · have dc3 := tl_le tn_0 iy9 c3
        refine ok_bnd (Q := fun z => z = y9) ⟨y9, by rw [fr_eq gy9]; exact eey9, rfl⟩ ?_
        intro y11 hyy11
        subst hyy11
        refine ok_bnd (s_at ty9 iy9 ix3 (by omega) (by omega) (by omega) (by omega)) ?_
        intro y12 hyy12
        obtain ⟨ty12, gy12, iy12⟩ := hyy12
        have fy12 := fr_tr fy9 gy12 rfl
        refine ok_ltI (av_mul tn_2 iy12 (by omega) (by omega)) (fun x13 ix13 => ?_)
        refine ok_dr (pr_7 ty12 hq0) (by have q := (tt_q0b ty12 hq0); omega) (gk_8 ty12 hq0) ?_
        refine ok_chk (nxg (gl_8 ty12 hq0) ix13 (by omega) (by omega)) ?_
        refine ok_ltB (ib_8 ty12 hq0 _) (fun x15 lx15 => ?_)
        have ix15 : TI x15 x15.toInt := rfl
        refine ok_ltI (av_mul tn_2 iy12 (by omega) (by omega)) (fun x16 ix16 => ?_)
        refine ok_ltI (av_add ix16 tn_1 (by omega) (by omega)) (fun x17 ix17 => ?_)
        refine ok_chk (nxg (gl_8 ty12 hq0) ix17 (by omega) (by omega)) ?_
        refine ok_ltB (ib_8 ty12 hq0 _) (fun x18 lx18 => ?_)
        have ix18 : TI x18 x18.toInt := rfl
        refine ok_dr (pr_5 ty12 hq0) (by have q := (tt_q0b ty12 hq0); omega) (gk_6 ty12 hq0) ?_
        refine ok_chk (nxg (gl_6 ty12 hq0) iy12 (by omega) (by omega)) ?_
        refine ok_ltB (ib_6 ty12 hq0 _) (fun x20 lx20 => ?_)
        have ix20 : TI x20 x20.toInt := rfl
        refine ok_bnd (Q := fun (z : Int32) => (0 ≤ z.toInt ∧ z.toInt ≤ 1)) ?_ ?_
        · refine ok_if (fun c4 => ?_) (fun c4 => ?_)
          · have dc4 := tl_eq ix20 tn_0 c4
            refine ok_bnd (Q := fun (z : Int32) => (0 ≤ z.toInt ∧ z.toInt ≤ 1)) ?_ ?_
            · refine ok_if (fun c5 => ?_) (fun c5 => ?_)
              · have dc5 := tl_lt ix15 tn_m1 c5
                exact ok_some (ti_bd tn_0 (by omega) (by omega))
              · have dc5 := tl_nlt ix15 tn_m1 c5
                refine ok_bnd (Q := fun (z : Int32) => (0 ≤ z.toInt ∧ z.toInt ≤ 1)) ?_ ?_
                · refine ok_if (fun c6 => ?_) (fun c6 => ?_)
                  · have dc6 := tl_lt tn_1 ix15 c6
                    exact ok_some (ti_bd tn_0 (by omega) (by omega))
                  · have dc6 := tl_nlt tn_1 ix15 c6
                    refine ok_bnd (Q := fun (z : Int32) => (0 ≤ z.toInt ∧ z.toInt ≤ 1)) ?_ ?_
                    · refine ok_if (fun c7 => ?_) (fun c7 => ?_)
                      · have dc7 := tl_lt ix18 tn_m1 c7
                        exact ok_some (ti_bd tn_0 (by omega) (by omega))
                      · have dc7 := tl_nlt ix18 tn_m1 c7
                        refine ok_bnd (Q := fun (z : Int32) => (0 ≤ z.toInt ∧ z.toInt ≤ 1)) ?_ ?_
                        · refine ok_if (fun c8 => ?_) (fun c8 => ?_)
                          · have dc8 := tl_lt tn_1 ix18 c8
                            exact ok_some (ti_bd tn_0 (by omega) (by omega))
                          · have dc8 := tl_nlt tn_1 ix18 c8
                            exact ok_some (ti_bd tn_1 (by omega) (by omega))
                        · intro y29 hyy29
                          have ly29 := hyy29
                          have iy29 : TI y29 y29.toInt := rfl
                          exact ok_some (ti_bd iy29 (by omega) (by omega))
                    · intro y27 hyy27
                      have ly27 := hyy27
                      have iy27 : TI y27 y27.toInt := rfl
                      exact ok_some (ti_bd iy27 (by omega) (by omega))
                · intro y25 hyy25
                  have ly25 := hyy25
                  have iy25 : TI y25 y25.toInt := rfl
                  exact ok_some (ti_bd iy25 (by omega) (by omega))
            · intro y23 hyy23
              have ly23 := hyy23
              have iy23 : TI y23 y23.toInt := rfl
              exact ok_some (ti_bd iy23 (by omega) (by omega))
          · exact ok_some (ti_bd tn_0 (by omega) (by omega))
        · intro y21 hyy21
          have ly21 := hyy21
          have iy21 : TI y21 y21.toInt := rfl
          refine ok_chk (t01 iy21 (by omega) (by omega)) ?_
          exact ok_some ⟨ty12, fy12, (ti_bd iy21 (by omega) (by omega))⟩
      · have dc3 := tl_nle tn_0 iy9 c3
        refine ok_chk (by decide) ?_
        exact ok_some ⟨ty9, fy9, (ti_bd tn_0 (by omega) (by omega))⟩
theorem s_leastReference {G : GG} {M : DD} {p : Nat} {w : Int} {L : List Nat} (t : TT G M p w L) {p0 : Int32} {a0 : Int} (i0 : TI p0 a0) {p1 : Int32} {a1 : Int} (i1 : TI p1 a1) (h0 : 0 ≤ a0) (h1 : a0 < 2 * w) (h2 : 0 ≤ a1) (h3 : a1 ≤ 1) : OK (FX9_leastReference G M 125 p0 p1) (fun y => TT G y.1 p w L ∧ Fr p [] M y.1 ∧ (-1 ≤ y.2.toInt ∧ y.2.toInt ≤ 7)) := by
  unfold FX9_leastReference
  have hw12 : 1 ≤ w ∧ w ≤ 2 := by rcases tt_w t with h | h <;> omega
  refine ok_bnd (s_pieceAt t i0 tn_16 tn_m1 tn_0 (by omega) (by omega) (by omega) (by omega) (by omega) (by omega)) ?_
  intro y1 hyy1
  obtain ⟨ty1, gy1, ly1⟩ := hyy1
  have fy1 := fr_tr (fr_0 p [] M) gy1 rfl
  have iy1 : TI y1.2 y1.2.toInt := rfl
  refine ok_bnd (Q := fun (z : Int32 × DD) => (-1 ≤ z.1.toInt ∧ z.1.toInt ≤ 63) ∧ TT G z.2 p w L ∧ Fr p [] M z.2) ?_ ?_
  · refine ok_if (fun c1 => ?_) (fun c1 => ?_)
    · have dc1 := tl_le tn_0 iy1 c1
      exact ok_some ⟨(ti_bd iy1 (by omega) (by omega)), ty1, fy1⟩
    · have dc1 := tl_nle tn_0 iy1 c1
      refine ok_bnd (s_pieceAt ty1 i0 tn_m1 tn_m1 tn_0 (by omega) (by omega) (by omega) (by omega) (by omega) (by omega)) ?_
      intro y21 hyy21
      obtain ⟨ty21, gy21, ly21⟩ := hyy21
      have fy21 := fr_tr fy1 gy21 rfl
      have iy21 : TI y21.2 y21.2.toInt := rfl
      exact ok_some ⟨(ti_bd iy21 (by omega) (by omega)), ty21, fy21⟩
  · intro y2 hyy2
    obtain ⟨ly2_1, ty2_2, fy2_2⟩ := hyy2
    have iy2_1 : TI y2.1 y2.1.toInt := rfl
    refine ok_bnd (s_pieceAt ty2_2 i0 tn_m1 tn_0 tn_0 (by omega) (by omega) (by omega) (by omega) (by omega) (by omega)) ?_
    intro y3 hyy3
    obtain ⟨ty3, gy3, ly3⟩ := hyy3
    have fy3 := fr_tr fy2_2 gy3 rfl
    have iy3 : TI y3.2 y3.2.toInt := rfl
    refine ok_bnd (s_referenceAt ty3 i1 iy3 (by omega) (by omega) (by omega) (by omega)) ?_
    intro y4 hyy4
    obtain ⟨ty4, gy4, ly4⟩ := hyy4
    have fy4 := fr_tr fy3 gy4 rfl
    have iy4 : TI y4.2 y4.2.toInt := rfl
    refine ok_bnd (s_pieceAt ty4 i0 tn_0 tn_m1 tn_0 (by omega) (by omega) (by omega) (by omega) (by omega) (by omega)) ?_
    intro y5 hyy5
    obtain ⟨ty5, gy5, ly5⟩ := hyy5
    have fy5 := fr_tr fy4 gy5 rfl
    have iy5 : TI y5.2 y5.2.toInt := rfl
    refine ok_bnd (s_referenceAt ty5 i1 iy5 (by omega) (by omega) (by omega) (by omega)) ?_
    intro y6 hyy6
    obtain ⟨ty6, gy6, ly6⟩ := hyy6
    have fy6 := fr_tr fy5 gy6 rfl
    have iy6 : TI y6.2 y6.2.toInt := rfl
    refine ok_bnd (s_referenceAt ty6 i1 iy2_1 (by omega) (by omega) (by omega) (by omega)) ?_
    intro y7 hyy7
    obtain ⟨ty7, gy7, ly7⟩ := hyy7
    have fy7 := fr_tr fy6 gy7 rfl
    have iy7 : TI y7.2 y7.2.toInt := rfl
    refine ok_bnd (Q := fun (z : Int32) => (-1 ≤ z.toInt ∧ z.toInt ≤ 7)) ?_ ?_
    · refine ok_if (fun c2 => ?_) (fun c2 => ?_)
      · have dc2 := tl_lt iy4 tn_0 c2
        exact ok_some (ti_bd iy6 (by omega) (by omega))
      · have dc2 := tl_nlt iy4 tn_0 c2
        refine ok_bnd (Q := fun (z : Int32) => (0 ≤ z.toInt ∧ z.toInt ≤ 7)) ?_ ?_
        · refine ok_if (fun c3 => ?_) (fun c3 => ?_)
          · have dc3 := tl_lt iy6 tn_0 c3
            exact ok_some (ti_bd iy4 (by omega) (by omega))
          · have dc3 := tl_nlt iy6 tn_0 c3
            refine ok_bnd (Q := fun (z : Int32) => (0 ≤ z.toInt ∧ z.toInt ≤ 7)) ?_ ?_
            · refine ok_if (fun c4 => ?_) (fun c4 => ?_)
              · have dc4 := tl_le iy4 iy6 c4
                exact ok_some (ti_bd iy4 (by omega) (by omega))
              · have dc4 := tl_nle iy4 iy6 c4
                exact ok_some (ti_bd iy6 (by omega) (by omega))
            · intro y18 hyy18
              have ly18 := hyy18
              have iy18 : TI y18 y18.toInt := rfl
              exact ok_some (ti_bd iy18 (by omega) (by omega))
        · intro y16 hyy16
          have ly16 := hyy16
          have iy16 : TI y16 y16.toInt := rfl
          exact ok_some (ti_bd iy16 (by omega) (by omega))
    · intro y8 hyy8
      have ly8 := hyy8
      have iy8 : TI y8 y8.toInt := rfl
      refine ok_bnd (Q := fun (z : Int32) => (-1 ≤ z.toInt ∧ z.toInt ≤ 7)) ?_ ?_
      · refine ok_if (fun c5 => ?_) (fun c5 => ?_)
        · have dc5 := tl_lt iy8 tn_0 c5
          exact ok_some (ti_bd iy7 (by omega) (by omega))
        · have dc5 := tl_nlt iy8 tn_0 c5
          refine ok_bnd (Q := fun (z : Int32) => (0 ≤ z.toInt ∧ z.toInt ≤ 7)) ?_ ?_
          · refine ok_if (fun c6 => ?_) (fun c6 => ?_)
            · have dc6 := tl_lt iy7 tn_0 c6
              exact ok_some (ti_bd iy8 (by omega) (by omega))
            · have dc6 := tl_nlt iy7 tn_0 c6
              refine ok_bnd (Q := fun (z : Int32) => (0 ≤ z.toInt ∧ z.toInt ≤ 7)) ?_ ?_
              · refine ok_if (fun c7 => ?_) (fun c7 => ?_)
                · have dc7 := tl_le iy8 iy7 c7
                  exact ok_some (ti_bd iy8 (by omega) (by omega))
                · have dc7 := tl_nle iy8 iy7 c7
                  exact ok_some (ti_bd iy7 (by omega) (by omega))
              · intro y13 hyy13
                have ly13 := hyy13
                have iy13 : TI y13 y13.toInt := rfl
                exact ok_some (ti_bd iy13 (by omega) (by omega))
          · intro y11 hyy11
            have ly11 := hyy11
            have iy11 : TI y11 y11.toInt := rfl
            exact ok_some (ti_bd iy11 (by omega) (by omega))
      · intro y9 hyy9
        have ly9 := hyy9
        have iy9 : TI y9 y9.toInt := rfl
        exact ok_some ⟨ty7, fy7, (ti_bd iy9 (by omega) (by omega))⟩
theorem s_clearMoves {G : GG} {M : DD} {p : Nat} {w : Int} {L : List Nat} (t : TT G M p w L) {p0 : Int32} {a0 : Int} (i0 : TI p0 a0) (h0 : 0 ≤ a0) (h1 : a0 < 2 * w) : OK (FX9_clearMoves G M 125 p0) (fun y => TT G y p w L ∧ Fr p [17, 19, 20] M y) := by
  unfold FX9_clearMoves
  have hw12 : 1 ≤ w ∧ w ≤ 2 := by rcases tt_w t with h | h <;> omega
  refine ok_bnd (Q := fun (z : Int32 × DD) => (0 ≤ z.1.toInt ∧ z.1.toInt ≤ 2) ∧ TT G z.2 p w L ∧ Fr p [17, 19, 20] M z.2) (ok_itr (fun (z : Int32 × DD) => (0 ≤ z.1.toInt ∧ z.1.toInt ≤ 2) ∧ TT G z.2 p w L ∧ Fr p [17, 19, 20] M z.2) (fun z => (2 - z.1.toInt).toNat) ?_ _ _ ?_ ?_) ?_
  · intro s2 hys2
    obtain ⟨ls2_1, ts2_2, fs2_2⟩ := hys2
    have is2_1 : TI s2.1 s2.1.toInt := rfl
    refine ok_if (fun c1 => ?_) (fun c1 => ?_)
    · have dc1 := tl_le tn_2 is2_1 c1
      exact ok_some ⟨(ti_bd is2_1 (by omega) (by omega)), ts2_2, fs2_2⟩
    · have dc1 := tl_nle tn_2 is2_1 c1
      refine ok_ltI (av_mul tn_16 i0 (by omega) (by omega)) (fun x6 ix6 => ?_)
      refine ok_bnd (s_at ts2_2 is2_1 ix6 (by omega) (by omega) (by omega) (by omega)) ?_
      intro y7 hyy7
      obtain ⟨ty7, gy7, iy7⟩ := hyy7
      have fy7 := fr_tr fs2_2 gy7 rfl
      refine ok_dr (tt_pic ty7) (by have q := (tt_q0b ty7 (tt_p ty7)); omega) (gk_0 ty7 (tt_p ty7)) ?_
      refine ok_ltI (av_add iy7 tn_16 (by omega) (by omega)) (fun x9 ix9 => ?_)
      refine ok_bnd (s_fillBq6 (S := [17, 19, 20]) (M0 := M) ty7 (pr_5 ty7 (tt_p ty7)) (ti_ib tn_m1 (by omega) (by omega)) iy7 ix9 (by omega) (by omega) (by omega) fy7 rfl) ?_
      intro y10 hyy10
      obtain ⟨ty10, fy10⟩ := hyy10
      refine ok_dr (tt_pic ty10) (by have q := (tt_q0b ty10 (tt_p ty10)); omega) (gk_0 ty10 (tt_p ty10)) ?_
      refine ok_ltI (av_add iy7 tn_16 (by omega) (by omega)) (fun x12 ix12 => ?_)
      refine ok_bnd (s_fillBq7 (S := [17, 19, 20]) (M0 := M) ty10 (pr_6 ty10 (tt_p ty10)) iy7 ix12 (by omega) (by omega) (by omega) fy10 rfl) ?_
      intro y13 hyy13
      obtain ⟨ty13, fy13⟩ := hyy13
      refine ok_dr (tt_pic ty13) (by have q := (tt_q0b ty13 (tt_p ty13)); omega) (gk_0 ty13 (tt_p ty13)) ?_
      refine ok_ltI (av_mul tn_2 iy7 (by omega) (by omega)) (fun x15 ix15 => ?_)
      refine ok_ltI (av_mul tn_2 iy7 (by omega) (by omega)) (fun x16 ix16 => ?_)
      refine ok_ltI (av_add ix16 tn_32 (by omega) (by omega)) (fun x17 ix17 => ?_)
      refine ok_bnd (s_fillBq8 (S := [17, 19, 20]) (M0 := M) ty13 (pr_7 ty13 (tt_p ty13)) (ti_ib tn_0 (by omega) (by omega)) ix15 ix17 (by omega) (by omega) (by omega) fy13 rfl) ?_
      intro y18 hyy18
      obtain ⟨ty18, fy18⟩ := hyy18
      refine ok_ltI (av_add is2_1 tn_1 (by omega) (by omega)) (fun x19 ix19 => ?_)
      exact ok_some ⟨⟨(ti_bd ix19 (by omega) (by omega)), ty18, fy18⟩, (mu_up ix19 (by omega) (by omega))⟩
  · exact ⟨(ti_bd tn_0 (by omega) (by omega)), t, (fr_0 p [17, 19, 20] M)⟩
  · exact mu_0 tn_0 (by omega)
  · intro y1 hyy1
    obtain ⟨ly1_1, ty1_2, fy1_2⟩ := hyy1
    have iy1_1 : TI y1.1 y1.1.toInt := rfl
    exact ok_some ⟨ty1_2, fy1_2⟩
theorem s_setQuarter {G : GG} {M : DD} {p : Nat} {w : Int} {L : List Nat} (t : TT G M p w L) {p0 : Int32} {a0 : Int} (i0 : TI p0 a0) {p1 : Int32} {a1 : Int} (i1 : TI p1 a1) {p2 : Int32} {a2 : Int} (i2 : TI p2 a2) {p3 : Int32} {a3 : Int} (i3 : TI p3 a3) {p4 : Int32} {a4 : Int} (i4 : TI p4 a4) {p5 : Int32} {a5 : Int} (i5 : TI p5 a5) (h0 : 0 ≤ a0) (h1 : a0 < 2 * w) (h2 : 0 ≤ a1) (h3 : a1 ≤ 1) (h4 : 0 ≤ a2) (h5 : a2 ≤ 3) (h6 : -1 ≤ a3) (h7 : a3 ≤ 7) (h8 : -2048 ≤ a4) (h9 : a4 ≤ 2047) (h10 : -2048 ≤ a5) (h11 : a5 ≤ 2047) : OK (FX9_setQuarter G M 125 p0 p1 p2 p3 p4 p5) (fun y => TT G y p w L ∧ Fr p [17, 19, 20] M y) := by
  unfold FX9_setQuarter
  have hw12 : 1 ≤ w ∧ w ≤ 2 := by rcases tt_w t with h | h <;> omega
  refine ok_bnd (Q := fun (z : Option Nat) => (z = none ∨ ∃ q, q ∈ L ∧ z = some q)) ?_ ?_
  · refine ok_if (fun c1 => ?_) (fun c1 => ?_)
    · have dc1 := tl_le tn_0 i3 c1
      refine ok_ltI (av_mul tn_9 i1 (by omega) (by omega)) (fun x34 ix34 => ?_)
      refine ok_ltI (av_add ix34 i3 (by omega) (by omega)) (fun x35 ix35 => ?_)
      refine ok_dr (f_r (b := 126) t rfl (by decide)) (g_lt t (by decide)) (g_k t (by decide) rfl) ?_
      refine ok_chk (nxg (g_n (i := 126) (n := 18) t (by decide) rfl) ix35 (by omega) (by omega)) ?_
      exact ok_some (tt_l7 t _)
    · have dc1 := tl_nle tn_0 i3 c1
      exact ok_some (Or.inl rfl)
  · intro y1 hyy1
    have oy1 := hyy1
    refine ok_bnd (Q := fun (z : Int32 × DD) => (0 ≤ z.1.toInt ∧ z.1.toInt ≤ 4) ∧ TT G z.2 p w L ∧ Fr p [17, 19, 20] M z.2) (ok_itr (fun (z : Int32 × DD) => (0 ≤ z.1.toInt ∧ z.1.toInt ≤ 4) ∧ TT G z.2 p w L ∧ Fr p [17, 19, 20] M z.2) (fun z => (4 - z.1.toInt).toNat) ?_ _ _ ?_ ?_) ?_
    · intro s3 hys3
      obtain ⟨ls3_1, ts3_2, fs3_2⟩ := hys3
      have is3_1 : TI s3.1 s3.1.toInt := rfl
      refine ok_if (fun c2 => ?_) (fun c2 => ?_)
      · have dc2 := tl_le tn_4 is3_1 c2
        exact ok_some ⟨(ti_bd is3_1 (by omega) (by omega)), ts3_2, fs3_2⟩
      · have dc2 := tl_nle tn_4 is3_1 c2
        refine ok_ltI (av_mul tn_512 i1 (by omega) (by omega)) (fun x7 ix7 => ?_)
        refine ok_ltI (av_mul tn_16 i0 (by omega) (by omega)) (fun x8 ix8 => ?_)
        refine ok_ltI (av_add ix7 ix8 (by omega) (by omega)) (fun x9 ix9 => ?_)
        refine ok_ltI (av_mul tn_4 i2 (by omega) (by omega)) (fun x10 ix10 => ?_)
        refine ok_ltI (av_add ix9 ix10 (by omega) (by omega)) (fun x11 ix11 => ?_)
        refine ok_ltI (av_add ix11 is3_1 (by omega) (by omega)) (fun x12 ix12 => ?_)
        refine ok_dr (tt_pic ts3_2) (by have q := (tt_q0b ts3_2 (tt_p ts3_2)); omega) (gk_0 ts3_2 (tt_p ts3_2)) ?_
        refine ok_dr (pr_5 ts3_2 (tt_p ts3_2)) (by have q := (tt_q0b ts3_2 (tt_p ts3_2)); omega) (gk_6 ts3_2 (tt_p ts3_2)) ?_
        refine ok_chk (nxg (gl_6 ts3_2 (tt_p ts3_2)) ix12 (by omega) (by omega)) ?_
        refine ok_ltt (fun M15 eM15 => ?_)
        have tM15 : TT G M15 p w L := by rw [eM15]; exact (tt_w6 ts3_2 (ti_ib i3 (by omega) (by omega)))
        have fM15 : Fr p [17, 19, 20] M M15 := by rw [eM15]; exact (fr_w6 fs3_2 (tt_p0 ts3_2) rfl)
        clear eM15
        refine ok_dr (tt_pic tM15) (by have q := (tt_q0b tM15 (tt_p tM15)); omega) (gk_0 tM15 (tt_p tM15)) ?_
        refine ok_bnd (Q := fun (z : Int32) => True) ?_ ?_
        · refine ok_if (fun c3 => ?_) (fun c3 => ?_)
          · exact ok_some trivial
          · obtain ⟨qc3, hqc3, eqc3⟩ := oj_ne oy1 c3
            refine ok_dr eqc3 (by have q := (tt_q0b tM15 hqc3); omega) (gk_0 tM15 hqc3) ?_
            refine ok_ltA (fun x32 => ?_)
            exact ok_some trivial
        · intro y17 hyy17
          have u_y17 := hyy17
          refine ok_dr (pr_6 tM15 (tt_p tM15)) (by have q := (tt_q0b tM15 (tt_p tM15)); omega) (gk_7 tM15 (tt_p tM15)) ?_
          refine ok_chk (nxg (gl_7 tM15 (tt_p tM15)) ix12 (by omega) (by omega)) ?_
          refine ok_ltt (fun M19 eM19 => ?_)
          have tM19 : TT G M19 p w L := by rw [eM19]; exact (tt_w7 tM15)
          have fM19 : Fr p [17, 19, 20] M M19 := by rw [eM19]; exact (fr_w7 fM15 (tt_p0 tM15) rfl)
          clear eM19
          refine ok_dr (tt_pic tM19) (by have q := (tt_q0b tM19 (tt_p tM19)); omega) (gk_0 tM19 (tt_p tM19)) ?_
          refine ok_ltI (av_mul tn_2 ix12 (by omega) (by omega)) (fun x21 ix21 => ?_)
          refine ok_dr (pr_7 tM19 (tt_p tM19)) (by have q := (tt_q0b tM19 (tt_p tM19)); omega) (gk_8 tM19 (tt_p tM19)) ?_
          refine ok_chk (nxg (gl_8 tM19 (tt_p tM19)) ix21 (by omega) (by omega)) ?_
          refine ok_ltt (fun M23 eM23 => ?_)
          have tM23 : TT G M23 p w L := by rw [eM23]; exact (tt_w8 tM19 (ti_ib i4 (by omega) (by omega)))
          have fM23 : Fr p [17, 19, 20] M M23 := by rw [eM23]; exact (fr_w8 fM19 (tt_p0 tM19) rfl)
          clear eM23
          refine ok_dr (tt_pic tM23) (by have q := (tt_q0b tM23 (tt_p tM23)); omega) (gk_0 tM23 (tt_p tM23)) ?_
          refine ok_ltI (av_mul tn_2 ix12 (by omega) (by omega)) (fun x25 ix25 => ?_)
          refine ok_ltI (av_add ix25 tn_1 (by omega) (by omega)) (fun x26 ix26 => ?_)
          refine ok_dr (pr_7 tM23 (tt_p tM23)) (by have q := (tt_q0b tM23 (tt_p tM23)); omega) (gk_8 tM23 (tt_p tM23)) ?_
          refine ok_chk (nxg (gl_8 tM23 (tt_p tM23)) ix26 (by omega) (by omega)) ?_
          refine ok_ltt (fun M28 eM28 => ?_)
          have tM28 : TT G M28 p w L := by rw [eM28]; exact (tt_w8 tM23 (ti_ib i5 (by omega) (by omega)))
          have fM28 : Fr p [17, 19, 20] M M28 := by rw [eM28]; exact (fr_w8 fM23 (tt_p0 tM23) rfl)
          clear eM28
          refine ok_ltI (av_add is3_1 tn_1 (by omega) (by omega)) (fun x29 ix29 => ?_)
          exact ok_some ⟨⟨(ti_bd ix29 (by omega) (by omega)), tM28, fM28⟩, (mu_up ix29 (by omega) (by omega))⟩
    · exact ⟨(ti_bd tn_0 (by omega) (by omega)), t, (fr_0 p [17, 19, 20] M)⟩
    · exact mu_0 tn_0 (by omega)
    · intro y2 hyy2
      obtain ⟨ly2_1, ty2_2, fy2_2⟩ := hyy2
      have iy2_1 : TI y2.1 y2.1.toInt := rfl
      exact ok_some ⟨ty2_2, fy2_2⟩
theorem s_setMove {G : GG} {M : DD} {p : Nat} {w : Int} {L : List Nat} (t : TT G M p w L) {p0 : Int32} {a0 : Int} (i0 : TI p0 a0) {p1 : Int32} {a1 : Int} (i1 : TI p1 a1) {p2 : Int32} {a2 : Int} (i2 : TI p2 a2) {p3 : Int32} {a3 : Int} (i3 : TI p3 a3) {p4 : Int32} {a4 : Int} (i4 : TI p4 a4) (h0 : 0 ≤ a0) (h1 : a0 < 2 * w) (h2 : 0 ≤ a1) (h3 : a1 ≤ 1) (h4 : 0 ≤ a2) (h5 : a2 ≤ 15) (h6 : -2048 ≤ a3) (h7 : a3 ≤ 2047) (h8 : -2048 ≤ a4) (h9 : a4 ≤ 2047) : OK (FX9_setMove G M 125 p0 p1 p2 p3 p4) (fun y => TT G y p w L ∧ Fr p [20] M y) := by
  unfold FX9_setMove
  have hw12 : 1 ≤ w ∧ w ≤ 2 := by rcases tt_w t with h | h <;> omega
  refine ok_ltI (av_mul tn_5 i2 (by omega) (by omega)) (fun x1 ix1 => ?_)
  refine ok_dr (f_r (b := 135) t rfl (by decide)) (g_lt t (by decide)) (g_k t (by decide) rfl) ?_
  refine ok_chk (nxg (g_n (i := 135) (n := 80) t (by decide) rfl) ix1 (by omega) (by omega)) ?_
  refine ok_ltB (ib_t t (by simp [TYL] : (135, 0, 16) ∈ TYL) _) (fun x3 lx3 => ?_)
  have ix3 : TI x3 x3.toInt := rfl
  refine ok_bnd (s_pieceX t ix3 (by omega) (by omega)) ?_
  intro y4 hyy4
  obtain ⟨ty4, gy4, iy4⟩ := hyy4
  have fy4 := fr_tr (fr_0 p [20] M) gy4 rfl
  refine ok_ltI (av_mul tn_5 i2 (by omega) (by omega)) (fun x5 ix5 => ?_)
  refine ok_dr (f_r (b := 135) ty4 rfl (by decide)) (g_lt ty4 (by decide)) (g_k ty4 (by decide) rfl) ?_
  refine ok_chk (nxg (g_n (i := 135) (n := 80) ty4 (by decide) rfl) ix5 (by omega) (by omega)) ?_
  refine ok_ltB (ib_t ty4 (by simp [TYL] : (135, 0, 16) ∈ TYL) _) (fun x7 lx7 => ?_)
  have ix7 : TI x7 x7.toInt := rfl
  refine ok_bnd (s_pieceY ty4 ix7 (by omega) (by omega)) ?_
  intro y8 hyy8
  obtain ⟨ty8, gy8, iy8⟩ := hyy8
  have fy8 := fr_tr fy4 gy8 rfl
  refine ok_bnd (Q := fun (z : Int32 × DD) => (0 ≤ z.1.toInt ∧ z.1.toInt ≤ 16) ∧ TT G z.2 p w L ∧ Fr p [20] M z.2) (ok_itr (fun (z : Int32 × DD) => (0 ≤ z.1.toInt ∧ z.1.toInt ≤ 16) ∧ TT G z.2 p w L ∧ Fr p [20] M z.2) (fun z => (16 - z.1.toInt).toNat) ?_ _ _ ?_ ?_) ?_
  · intro s10 hys10
    obtain ⟨ls10_1, ts10_2, fs10_2⟩ := hys10
    have is10_1 : TI s10.1 s10.1.toInt := rfl
    refine ok_if (fun c1 => ?_) (fun c1 => ?_)
    · have dc1 := tl_le tn_16 is10_1 c1
      exact ok_some ⟨(ti_bd is10_1 (by omega) (by omega)), ts10_2, fs10_2⟩
    · have dc1 := tl_nle tn_16 is10_1 c1
      refine ok_bnd (s_pieceX ts10_2 is10_1 (by omega) (by omega)) ?_
      intro y14 hyy14
      obtain ⟨ty14, gy14, iy14⟩ := hyy14
      have fy14 := fr_tr fs10_2 gy14 rfl
      refine ok_ltI (av_sub iy14 iy4 (by omega) (by omega)) (fun x15 ix15 => ?_)
      refine ok_bnd (s_pieceY ty14 is10_1 (by omega) (by omega)) ?_
      intro y16 hyy16
      obtain ⟨ty16, gy16, iy16⟩ := hyy16
      have fy16 := fr_tr fy14 gy16 rfl
      refine ok_ltI (av_sub iy16 iy8 (by omega) (by omega)) (fun x17 ix17 => ?_)
      refine ok_bnd (Q := fun (z : DD) => TT G z p w L ∧ Fr p [20] M z) ?_ ?_
      · refine ok_if (fun c2 => ?_) (fun c2 => ?_)
        · exact ok_some ⟨ty16, fy16⟩
        · refine ok_ltI (av_mul tn_5 i2 (by omega) (by omega)) (fun x21 ix21 => ?_)
          refine ok_ltI (av_add ix21 tn_1 (by omega) (by omega)) (fun x22 ix22 => ?_)
          refine ok_dr (f_r (b := 135) ty16 rfl (by decide)) (g_lt ty16 (by decide)) (g_k ty16 (by decide) rfl) ?_
          refine ok_chk (nxg (g_n (i := 135) (n := 80) ty16 (by decide) rfl) ix22 (by omega) (by omega)) ?_
          refine ok_ltB (ib_t ty16 (by simp [TYL] : (135, 0, 16) ∈ TYL) _) (fun x24 lx24 => ?_)
          have ix24 : TI x24 x24.toInt := rfl
          refine ok_bnd (Q := fun (z : DD) => TT G z p w L ∧ Fr p [20] M z) ?_ ?_
          · refine ok_if (fun c3 => ?_) (fun c3 => ?_)
            · exact ok_some ⟨ty16, fy16⟩
            · refine ok_bnd (Q := fun (z : DD) => TT G z p w L ∧ Fr p [20] M z) ?_ ?_
              · refine ok_if (fun c4 => ?_) (fun c4 => ?_)
                · exact ok_some ⟨ty16, fy16⟩
                · refine ok_ltI (av_mul tn_5 i2 (by omega) (by omega)) (fun x29 ix29 => ?_)
                  refine ok_ltI (av_add ix29 tn_2 (by omega) (by omega)) (fun x30 ix30 => ?_)
                  refine ok_chk (nxg (g_n (i := 135) (n := 80) ty16 (by decide) rfl) ix30 (by omega) (by omega)) ?_
                  refine ok_ltB (ib_t ty16 (by simp [TYL] : (135, 0, 16) ∈ TYL) _) (fun x31 lx31 => ?_)
                  have ix31 : TI x31 x31.toInt := rfl
                  refine ok_bnd (Q := fun (z : DD) => TT G z p w L ∧ Fr p [20] M z) ?_ ?_
                  · refine ok_if (fun c5 => ?_) (fun c5 => ?_)
                    · exact ok_some ⟨ty16, fy16⟩
                    · refine ok_ltI (av_mul tn_16 i0 (by omega) (by omega)) (fun x34 ix34 => ?_)
                      refine ok_ltI (av_add ix34 is10_1 (by omega) (by omega)) (fun x35 ix35 => ?_)
                      refine ok_bnd (s_at ty16 i1 ix35 (by omega) (by omega) (by omega) (by omega)) ?_
                      intro y36 hyy36
                      obtain ⟨ty36, gy36, iy36⟩ := hyy36
                      have fy36 := fr_tr fy16 gy36 rfl
                      refine ok_ltI (av_mul tn_2 iy36 (by omega) (by omega)) (fun x37 ix37 => ?_)
                      refine ok_dr (tt_pic ty36) (by have q := (tt_q0b ty36 (tt_p ty36)); omega) (gk_0 ty36 (tt_p ty36)) ?_
                      refine ok_dr (pr_7 ty36 (tt_p ty36)) (by have q := (tt_q0b ty36 (tt_p ty36)); omega) (gk_8 ty36 (tt_p ty36)) ?_
                      refine ok_chk (nxg (gl_8 ty36 (tt_p ty36)) ix37 (by omega) (by omega)) ?_
                      refine ok_ltt (fun M40 eM40 => ?_)
                      have tM40 : TT G M40 p w L := by rw [eM40]; exact (tt_w8 ty36 (ti_ib i3 (by omega) (by omega)))
                      have fM40 : Fr p [20] M M40 := by rw [eM40]; exact (fr_w8 fy36 (tt_p0 ty36) rfl)
                      clear eM40
                      refine ok_dr (tt_pic tM40) (by have q := (tt_q0b tM40 (tt_p tM40)); omega) (gk_0 tM40 (tt_p tM40)) ?_
                      refine ok_ltI (av_add ix37 tn_1 (by omega) (by omega)) (fun x42 ix42 => ?_)
                      refine ok_dr (pr_7 tM40 (tt_p tM40)) (by have q := (tt_q0b tM40 (tt_p tM40)); omega) (gk_8 tM40 (tt_p tM40)) ?_
                      refine ok_chk (nxg (gl_8 tM40 (tt_p tM40)) ix42 (by omega) (by omega)) ?_
                      refine ok_ltt (fun M44 eM44 => ?_)
                      have tM44 : TT G M44 p w L := by rw [eM44]; exact (tt_w8 tM40 (ti_ib i4 (by omega) (by omega)))
                      have fM44 : Fr p [20] M M44 := by rw [eM44]; exact (fr_w8 fM40 (tt_p0 tM40) rfl)
                      clear eM44
                      exact ok_some ⟨tM44, fM44⟩
                  · intro y32 hyy32
                    obtain ⟨ty32, fy32⟩ := hyy32
                    exact ok_some ⟨ty32, fy32⟩
              · intro y27 hyy27
                obtain ⟨ty27, fy27⟩ := hyy27
                exact ok_some ⟨ty27, fy27⟩
          · intro y25 hyy25
            obtain ⟨ty25, fy25⟩ := hyy25
            exact ok_some ⟨ty25, fy25⟩
      · intro y18 hyy18
        obtain ⟨ty18, fy18⟩ := hyy18
        refine ok_ltI (av_add is10_1 tn_1 (by omega) (by omega)) (fun x19 ix19 => ?_)
        exact ok_some ⟨⟨(ti_bd ix19 (by omega) (by omega)), ty18, fy18⟩, (mu_up ix19 (by omega) (by omega))⟩
  · exact ⟨(ti_bd tn_0 (by omega) (by omega)), ty8, fy8⟩
  · exact mu_0 tn_0 (by omega)
  · intro y9 hyy9
    obtain ⟨ly9_1, ty9_2, fy9_2⟩ := hyy9
    have iy9_1 : TI y9.1 y9.1.toInt := rfl
    exact ok_some ⟨ty9_2, fy9_2⟩
theorem s_setReference {G : GG} {M : DD} {p : Nat} {w : Int} {L : List Nat} (t : TT G M p w L) {p0 : Int32} {a0 : Int} (i0 : TI p0 a0) {p1 : Int32} {a1 : Int} (i1 : TI p1 a1) {p2 : Int32} {a2 : Int} (i2 : TI p2 a2) {p3 : Int32} {a3 : Int} (i3 : TI p3 a3) (h0 : 0 ≤ a0) (h1 : a0 < 2 * w) (h2 : 0 ≤ a1) (h3 : a1 ≤ 1) (h4 : 0 ≤ a2) (h5 : a2 ≤ 3) (h6 : 0 ≤ a3) (h7 : a3 ≤ 7) : OK (FX9_setReference G M 125 p0 p1 p2 p3) (fun y => TT G y p w L ∧ Fr p [17, 19] M y) := by
  unfold FX9_setReference
  have hw12 : 1 ≤ w ∧ w ≤ 2 := by rcases tt_w t with h | h <;> omega
  refine ok_ltI (av_mul tn_9 i1 (by omega) (by omega)) (fun x1 ix1 => ?_)
  refine ok_ltI (av_add ix1 i3 (by omega) (by omega)) (fun x2 ix2 => ?_)
  refine ok_dr (f_r (b := 126) t rfl (by decide)) (g_lt t (by decide)) (g_k t (by decide) rfl) ?_
  refine ok_chk (nxg (g_n (i := 126) (n := 18) t (by decide) rfl) ix2 (by omega) (by omega)) ?_
  refine ok_ltI (av_mul tn_4 i2 (by omega) (by omega)) (fun x4 ix4 => ?_)
  refine ok_dr (f_r (b := 136) t rfl (by decide)) (g_lt t (by decide)) (g_k t (by decide) rfl) ?_
  refine ok_chk (nxg (g_n (i := 136) (n := 16) t (by decide) rfl) ix4 (by omega) (by omega)) ?_
  refine ok_ltB (ib_t t (by simp [TYL] : (136, 0, 16) ∈ TYL) _) (fun x6 lx6 => ?_)
  have ix6 : TI x6 x6.toInt := rfl
  refine ok_bnd (s_pieceX t ix6 (by omega) (by omega)) ?_
  intro y7 hyy7
  obtain ⟨ty7, gy7, iy7⟩ := hyy7
  have fy7 := fr_tr (fr_0 p [17, 19] M) gy7 rfl
  refine ok_ltI (av_mul tn_4 i2 (by omega) (by omega)) (fun x8 ix8 => ?_)
  refine ok_dr (f_r (b := 136) ty7 rfl (by decide)) (g_lt ty7 (by decide)) (g_k ty7 (by decide) rfl) ?_
  refine ok_chk (nxg (g_n (i := 136) (n := 16) ty7 (by decide) rfl) ix8 (by omega) (by omega)) ?_
  refine ok_ltB (ib_t ty7 (by simp [TYL] : (136, 0, 16) ∈ TYL) _) (fun x10 lx10 => ?_)
  have ix10 : TI x10 x10.toInt := rfl
  refine ok_bnd (s_pieceY ty7 ix10 (by omega) (by omega)) ?_
  intro y11 hyy11
  obtain ⟨ty11, gy11, iy11⟩ := hyy11
  have fy11 := fr_tr fy7 gy11 rfl
  refine ok_bnd (Q := fun (z : Int32 × DD) => (0 ≤ z.1.toInt ∧ z.1.toInt ≤ 16) ∧ TT G z.2 p w L ∧ Fr p [17, 19] M z.2) (ok_itr (fun (z : Int32 × DD) => (0 ≤ z.1.toInt ∧ z.1.toInt ≤ 16) ∧ TT G z.2 p w L ∧ Fr p [17, 19] M z.2) (fun z => (16 - z.1.toInt).toNat) ?_ _ _ ?_ ?_) ?_
  · intro s13 hys13
    obtain ⟨ls13_1, ts13_2, fs13_2⟩ := hys13
    have is13_1 : TI s13.1 s13.1.toInt := rfl
    refine ok_if (fun c1 => ?_) (fun c1 => ?_)
    · have dc1 := tl_le tn_16 is13_1 c1
      exact ok_some ⟨(ti_bd is13_1 (by omega) (by omega)), ts13_2, fs13_2⟩
    · have dc1 := tl_nle tn_16 is13_1 c1
      refine ok_bnd (s_pieceX ts13_2 is13_1 (by omega) (by omega)) ?_
      intro y17 hyy17
      obtain ⟨ty17, gy17, iy17⟩ := hyy17
      have fy17 := fr_tr fs13_2 gy17 rfl
      refine ok_ltI (av_sub iy17 iy7 (by omega) (by omega)) (fun x18 ix18 => ?_)
      refine ok_bnd (s_pieceY ty17 is13_1 (by omega) (by omega)) ?_
      intro y19 hyy19
      obtain ⟨ty19, gy19, iy19⟩ := hyy19
      have fy19 := fr_tr fy17 gy19 rfl
      refine ok_ltI (av_sub iy19 iy11 (by omega) (by omega)) (fun x20 ix20 => ?_)
      refine ok_bnd (Q := fun (z : DD) => TT G z p w L ∧ Fr p [17, 19] M z) ?_ ?_
      · refine ok_if (fun c2 => ?_) (fun c2 => ?_)
        · exact ok_some ⟨ty19, fy19⟩
        · refine ok_ltI (av_mul tn_4 i2 (by omega) (by omega)) (fun x24 ix24 => ?_)
          refine ok_ltI (av_add ix24 tn_1 (by omega) (by omega)) (fun x25 ix25 => ?_)
          refine ok_dr (f_r (b := 136) ty19 rfl (by decide)) (g_lt ty19 (by decide)) (g_k ty19 (by decide) rfl) ?_
          refine ok_chk (nxg (g_n (i := 136) (n := 16) ty19 (by decide) rfl) ix25 (by omega) (by omega)) ?_
          refine ok_ltB (ib_t ty19 (by simp [TYL] : (136, 0, 16) ∈ TYL) _) (fun x27 lx27 => ?_)
          have ix27 : TI x27 x27.toInt := rfl
          refine ok_bnd (Q := fun (z : DD) => TT G z p w L ∧ Fr p [17, 19] M z) ?_ ?_
          · refine ok_if (fun c3 => ?_) (fun c3 => ?_)
            · exact ok_some ⟨ty19, fy19⟩
            · refine ok_bnd (Q := fun (z : DD) => TT G z p w L ∧ Fr p [17, 19] M z) ?_ ?_
              · refine ok_if (fun c4 => ?_) (fun c4 => ?_)
                · exact ok_some ⟨ty19, fy19⟩
                · refine ok_ltI (av_mul tn_4 i2 (by omega) (by omega)) (fun x32 ix32 => ?_)
                  refine ok_ltI (av_add ix32 tn_2 (by omega) (by omega)) (fun x33 ix33 => ?_)
                  refine ok_chk (nxg (g_n (i := 136) (n := 16) ty19 (by decide) rfl) ix33 (by omega) (by omega)) ?_
                  refine ok_ltB (ib_t ty19 (by simp [TYL] : (136, 0, 16) ∈ TYL) _) (fun x34 lx34 => ?_)
                  have ix34 : TI x34 x34.toInt := rfl
                  refine ok_bnd (Q := fun (z : DD) => TT G z p w L ∧ Fr p [17, 19] M z) ?_ ?_
                  · refine ok_if (fun c5 => ?_) (fun c5 => ?_)
                    · exact ok_some ⟨ty19, fy19⟩
                    · refine ok_ltI (av_mul tn_16 i0 (by omega) (by omega)) (fun x37 ix37 => ?_)
                      refine ok_ltI (av_add ix37 is13_1 (by omega) (by omega)) (fun x38 ix38 => ?_)
                      refine ok_bnd (s_at ty19 i1 ix38 (by omega) (by omega) (by omega) (by omega)) ?_
                      intro y39 hyy39
                      obtain ⟨ty39, gy39, iy39⟩ := hyy39
                      have fy39 := fr_tr fy19 gy39 rfl
                      refine ok_dr (tt_pic ty39) (by have q := (tt_q0b ty39 (tt_p ty39)); omega) (gk_0 ty39 (tt_p ty39)) ?_
                      refine ok_dr (pr_5 ty39 (tt_p ty39)) (by have q := (tt_q0b ty39 (tt_p ty39)); omega) (gk_6 ty39 (tt_p ty39)) ?_
                      refine ok_chk (nxg (gl_6 ty39 (tt_p ty39)) iy39 (by omega) (by omega)) ?_
                      refine ok_ltt (fun M42 eM42 => ?_)
                      have tM42 : TT G M42 p w L := by rw [eM42]; exact (tt_w6 ty39 (ti_ib i3 (by omega) (by omega)))
                      have fM42 : Fr p [17, 19] M M42 := by rw [eM42]; exact (fr_w6 fy39 (tt_p0 ty39) rfl)
                      clear eM42
                      refine ok_dr (tt_pic tM42) (by have q := (tt_q0b tM42 (tt_p tM42)); omega) (gk_0 tM42 (tt_p tM42)) ?_
                      refine ok_bnd (Q := fun (z : Int32) => True) ?_ ?_
                      · refine ok_if (fun c6 => ?_) (fun c6 => ?_)
                        · exact ok_some trivial
                        · obtain ⟨qc6, hqc6, eqc6⟩ := tt_lst t (fr_0 p [17, 19] M).1 c6
                          refine ok_drL t hqc6 (e := eqc6) rfl (by rw [(fr_0 p [17, 19] M).1]) ?_
                          refine ok_ltA (fun x49 => ?_)
                          exact ok_some trivial
                      · intro y44 hyy44
                        have u_y44 := hyy44
                        refine ok_dr (pr_6 tM42 (tt_p tM42)) (by have q := (tt_q0b tM42 (tt_p tM42)); omega) (gk_7 tM42 (tt_p tM42)) ?_
                        refine ok_chk (nxg (gl_7 tM42 (tt_p tM42)) iy39 (by omega) (by omega)) ?_
                        refine ok_ltt (fun M46 eM46 => ?_)
                        have tM46 : TT G M46 p w L := by rw [eM46]; exact (tt_w7 tM42)
                        have fM46 : Fr p [17, 19] M M46 := by rw [eM46]; exact (fr_w7 fM42 (tt_p0 tM42) rfl)
                        clear eM46
                        exact ok_some ⟨tM46, fM46⟩
                  · intro y35 hyy35
                    obtain ⟨ty35, fy35⟩ := hyy35
                    exact ok_some ⟨ty35, fy35⟩
              · intro y30 hyy30
                obtain ⟨ty30, fy30⟩ := hyy30
                exact ok_some ⟨ty30, fy30⟩
          · intro y28 hyy28
            obtain ⟨ty28, fy28⟩ := hyy28
            exact ok_some ⟨ty28, fy28⟩
      · intro y21 hyy21
        obtain ⟨ty21, fy21⟩ := hyy21
        refine ok_ltI (av_add is13_1 tn_1 (by omega) (by omega)) (fun x22 ix22 => ?_)
        exact ok_some ⟨⟨(ti_bd ix22 (by omega) (by omega)), ty21, fy21⟩, (mu_up ix22 (by omega) (by omega))⟩
  · exact ⟨(ti_bd tn_0 (by omega) (by omega)), ty11, fy11⟩
  · exact mu_0 tn_0 (by omega)
  · intro y12 hyy12
    obtain ⟨ly12_1, ty12_2, fy12_2⟩ := hyy12
    have iy12_1 : TI y12.1 y12.1.toInt := rfl
    exact ok_some ⟨ty12_2, fy12_2⟩
theorem s_entryOf {G : GG} {M : DD} {p : Nat} {w : Int} {L : List Nat} (t : TT G M p w L) {p0 : Int32} : OK (FX9_entryOf G M 125 p0) (fun y => TT G y.1 p w L ∧ Fr p [] M y.1 ∧ (-1 ≤ y.2.toInt ∧ y.2.toInt ≤ 7)) := by
  unfold FX9_entryOf
  have hw12 : 1 ≤ w ∧ w ≤ 2 := by rcases tt_w t with h | h <;> omega
  refine ok_bnd (Q := fun (z : ( Int32 ) ⊕ ( DD × Int32 )) => match z with | .inl z => (0 ≤ z.toInt ∧ z.toInt ≤ 8) | .inr r => TT G r.1 p w L ∧ Fr p [] M r.1 ∧ (-1 ≤ r.2.toInt ∧ r.2.toInt ≤ 7)) (ok_itr (fun (z : Int32) => (0 ≤ z.toInt ∧ z.toInt ≤ 8)) (fun z => (8 - z.toInt).toNat) ?_ _ _ ?_ ?_) ?_
  · intro s2 hys2
    have ls2 := hys2
    have is2 : TI s2 s2.toInt := rfl
    refine ok_if (fun c1 => ?_) (fun c1 => ?_)
    · have dc1 := tl_le tn_8 is2 c1
      exact ok_some (ti_bd is2 (by omega) (by omega))
    · have dc1 := tl_nle tn_8 is2 c1
      refine ok_dr (f_r (b := 126) t rfl (by decide)) (g_lt t (by decide)) (g_k t (by decide) rfl) ?_
      refine ok_chk (nxg (g_n (i := 126) (n := 18) t (by decide) rfl) is2 (by omega) (by omega)) ?_
      refine ok_if (fun c2 => ?_) (fun c2 => ?_)
      · refine ok_ltI (av_add is2 tn_1 (by omega) (by omega)) (fun x8 ix8 => ?_)
        exact ok_some ⟨(ti_bd ix8 (by omega) (by omega)), (mu_up ix8 (by omega) (by omega))⟩
      · obtain ⟨qc2, hqc2, eqc2⟩ := tt_lst t (fr_0 p [] M).1 c2
        refine ok_chk (nxg (g_n (i := 126) (n := 18) t (by decide) rfl) is2 (by omega) (by omega)) ?_
        refine ok_drL t hqc2 (e := eqc2) rfl (by rw [(fr_0 p [] M).1]) ?_
        refine ok_ltA (fun x10 => ?_)
        refine ok_if (fun c3 => ?_) (fun c3 => ?_)
        · have dc3 := tl_eq (rfl : TI x10 x10.toInt) (rfl : TI p0 p0.toInt) c3
          exact ok_some ⟨t, (fr_0 p [] M), (ti_bd is2 (by omega) (by omega))⟩
        · refine ok_ltI (av_add is2 tn_1 (by omega) (by omega)) (fun x12 ix12 => ?_)
          exact ok_some ⟨(ti_bd ix12 (by omega) (by omega)), (mu_up ix12 (by omega) (by omega))⟩
  · exact (ti_bd tn_0 (by omega) (by omega))
  · exact mu_0 tn_0 (by omega)
  · intro y1 hyy1
    cases y1 with
    | inl z1k =>
      have hyz1k := hyy1
      show OK _ _
      have lz1k := hyz1k
      have iz1k : TI z1k z1k.toInt := rfl
      exact ok_some ⟨t, (fr_0 p [] M), (ti_bd tn_m1 (by omega) (by omega))⟩
    | inr r9 => exact ok_some hyy1
theorem s_guess {G : GG} {M : DD} {p : Nat} {w : Int} {L : List Nat} (t : TT G M p w L) {p0 : Int32} {a0 : Int} (i0 : TI p0 a0) {p1 : Int32} {a1 : Int} (i1 : TI p1 a1) {p2 : Int32} {a2 : Int} (i2 : TI p2 a2) {p3 : Int32} {a3 : Int} (i3 : TI p3 a3) {p4 : Int32} {a4 : Int} (i4 : TI p4 a4) {p5 : Int32} (h0 : 0 ≤ a0) (h1 : a0 < 2 * w) (h2 : 0 ≤ a1) (h3 : a1 ≤ 1) (h4 : 0 ≤ a2) (h5 : 0 ≤ a3) (h6 : a3 ≤ 16) (h7 : 0 ≤ a4) (h8 : a4 ≤ 16) : OK (FX9_guess G M 125 p0 p1 p2 p3 p4 p5) (fun y => TT G y p w L ∧ Fr p [10] M y) := by
  unfold FX9_guess
  have hw12 : 1 ≤ w ∧ w ≤ 2 := by rcases tt_w t with h | h <;> omega
  refine ok_bnd (s_pieceX t i3 (by omega) (by omega)) ?_
  intro y1 hyy1
  obtain ⟨ty1, gy1, iy1⟩ := hyy1
  have fy1 := fr_tr (fr_0 p [10] M) gy1 rfl
  refine ok_bnd (s_pieceY ty1 i3 (by omega) (by omega)) ?_
  intro y2 hyy2
  obtain ⟨ty2, gy2, iy2⟩ := hyy2
  have fy2 := fr_tr fy1 gy2 rfl
  refine ok_ltI (av_sub iy1 tn_1 (by omega) (by omega)) (fun x3 ix3 => ?_)
  refine ok_bnd (s_pieceAt ty2 i0 ix3 iy2 i3 (by omega) (by omega) (by omega) (by omega) (by omega) (by omega)) ?_
  intro y4 hyy4
  obtain ⟨ty4, gy4, ly4⟩ := hyy4
  have fy4 := fr_tr fy2 gy4 rfl
  have iy4 : TI y4.2 y4.2.toInt := rfl
  refine ok_ltI (av_sub iy2 tn_1 (by omega) (by omega)) (fun x5 ix5 => ?_)
  refine ok_bnd (s_pieceAt ty4 i0 iy1 ix5 i3 (by omega) (by omega) (by omega) (by omega) (by omega) (by omega)) ?_
  intro y6 hyy6
  obtain ⟨ty6, gy6, ly6⟩ := hyy6
  have fy6 := fr_tr fy4 gy6 rfl
  have iy6 : TI y6.2 y6.2.toInt := rfl
  refine ok_ltI (av_add iy1 i4 (by omega) (by omega)) (fun x7 ix7 => ?_)
  refine ok_ltI (av_sub iy2 tn_1 (by omega) (by omega)) (fun x8 ix8 => ?_)
  refine ok_bnd (s_pieceAt ty6 i0 ix7 ix8 i3 (by omega) (by omega) (by omega) (by omega) (by omega) (by omega)) ?_
  intro y9 hyy9
  obtain ⟨ty9, gy9, ly9⟩ := hyy9
  have fy9 := fr_tr fy6 gy9 rfl
  have iy9 : TI y9.2 y9.2.toInt := rfl
  refine ok_bnd (Q := fun (z : Int32 × DD) => (-1 ≤ z.1.toInt ∧ z.1.toInt ≤ 63) ∧ TT G z.2 p w L ∧ Fr p [10] M z.2) ?_ ?_
  · refine ok_if (fun c1 => ?_) (fun c1 => ?_)
    · have dc1 := tl_le tn_0 iy9 c1
      exact ok_some ⟨(ti_bd iy9 (by omega) (by omega)), ty9, fy9⟩
    · have dc1 := tl_nle tn_0 iy9 c1
      refine ok_ltI (av_sub iy1 tn_1 (by omega) (by omega)) (fun x456 ix456 => ?_)
      refine ok_ltI (av_sub iy2 tn_1 (by omega) (by omega)) (fun x457 ix457 => ?_)
      refine ok_bnd (s_pieceAt ty9 i0 ix456 ix457 i3 (by omega) (by omega) (by omega) (by omega) (by omega) (by omega)) ?_
      intro y458 hyy458
      obtain ⟨ty458, gy458, ly458⟩ := hyy458
      have fy458 := fr_tr fy9 gy458 rfl
      have iy458 : TI y458.2 y458.2.toInt := rfl
      exact ok_some ⟨(ti_bd iy458 (by omega) (by omega)), ty458, fy458⟩
  · intro y10 hyy10
    obtain ⟨ly10_1, ty10_2, fy10_2⟩ := hyy10
    have iy10_1 : TI y10.1 y10.1.toInt := rfl
    refine ok_bnd (s_referenceAt ty10_2 i1 iy4 (by omega) (by omega) (by omega) (by omega)) ?_
    intro y11 hyy11
    obtain ⟨ty11, gy11, ly11⟩ := hyy11
    have fy11 := fr_tr fy10_2 gy11 rfl
    have iy11 : TI y11.2 y11.2.toInt := rfl
    refine ok_bnd (Q := fun (z : Int32) => (0 ≤ z.toInt ∧ z.toInt ≤ 1) ∧ ((z.toInt = 0 ∨ z.toInt = 1) ∧ (z.toInt = 1 → 0 ≤ y4.2.toInt))) ?_ ?_
    · refine ok_if (fun c2 => ?_) (fun c2 => ?_)
      · have dc2 := tl_eq iy11 i2 c2
        exact ok_some ⟨(ti_bd tn_1 (by omega) (by omega)), (by have q : _ = _ := tn_1; (try dsimp only); omega)⟩
      · have dc2 := tl_ne iy11 i2 c2
        exact ok_some ⟨(ti_bd tn_0 (by omega) (by omega)), (by have q : _ = _ := tn_0; (try dsimp only); omega)⟩
    · intro y12 hyy12
      obtain ⟨ly12, jy12⟩ := hyy12
      have iy12 : TI y12 y12.toInt := rfl
      refine ok_bnd (s_referenceAt ty11 i1 iy6 (by omega) (by omega) (by omega) (by omega)) ?_
      intro y13 hyy13
      obtain ⟨ty13, gy13, ly13⟩ := hyy13
      have fy13 := fr_tr fy11 gy13 rfl
      have iy13 : TI y13.2 y13.2.toInt := rfl
      refine ok_bnd (Q := fun (z : Int32) => (0 ≤ z.toInt ∧ z.toInt ≤ 1) ∧ ((z.toInt = 0 ∨ z.toInt = 1) ∧ (z.toInt = 1 → 0 ≤ y6.2.toInt))) ?_ ?_
      · refine ok_if (fun c3 => ?_) (fun c3 => ?_)
        · have dc3 := tl_eq iy13 i2 c3
          exact ok_some ⟨(ti_bd tn_1 (by omega) (by omega)), (by have q : _ = _ := tn_1; (try dsimp only); omega)⟩
        · have dc3 := tl_ne iy13 i2 c3
          exact ok_some ⟨(ti_bd tn_0 (by omega) (by omega)), (by have q : _ = _ := tn_0; (try dsimp only); omega)⟩
      · intro y14 hyy14
        obtain ⟨ly14, jy14⟩ := hyy14
        have iy14 : TI y14 y14.toInt := rfl
        refine ok_bnd (s_referenceAt ty13 i1 iy10_1 (by omega) (by omega) (by omega) (by omega)) ?_
        intro y15 hyy15
        obtain ⟨ty15, gy15, ly15⟩ := hyy15
        have fy15 := fr_tr fy13 gy15 rfl
        have iy15 : TI y15.2 y15.2.toInt := rfl
        refine ok_bnd (Q := fun (z : Int32) => (0 ≤ z.toInt ∧ z.toInt ≤ 1) ∧ ((z.toInt = 0 ∨ z.toInt = 1) ∧ (z.toInt = 1 → 0 ≤ y10.1.toInt))) ?_ ?_
        · refine ok_if (fun c4 => ?_) (fun c4 => ?_)
          · have dc4 := tl_eq iy15 i2 c4
            exact ok_some ⟨(ti_bd tn_1 (by omega) (by omega)), (by have q : _ = _ := tn_1; (try dsimp only); omega)⟩
          · have dc4 := tl_ne iy15 i2 c4
            exact ok_some ⟨(ti_bd tn_0 (by omega) (by omega)), (by have q : _ = _ := tn_0; (try dsimp only); omega)⟩
        · intro y16 hyy16
          obtain ⟨ly16, jy16⟩ := hyy16
          have iy16 : TI y16 y16.toInt := rfl
          refine ok_bnd (Q := fun (z : Int32) => (0 ≤ z.toInt ∧ z.toInt ≤ 1) ∧ ((y12.toInt = 0 → z.toInt = 0) ∧ (y12.toInt ≠ 0 → z.toInt = 1))) ?_ ?_
          · refine ok_if (fun c5 => ?_) (fun c5 => ?_)
            · have dc5 := tl_eq iy12 tn_0 c5
              exact ok_some ⟨(ti_bd tn_0 (by omega) (by omega)), (by have q : _ = _ := tn_0; (try dsimp only); omega)⟩
            · have dc5 := tl_ne iy12 tn_0 c5
              exact ok_some ⟨(ti_bd tn_1 (by omega) (by omega)), (by have q : _ = _ := tn_1; (try dsimp only); omega)⟩
          · intro y17 hyy17
            obtain ⟨ly17, jy17⟩ := hyy17
            have iy17 : TI y17 y17.toInt := rfl
            refine ok_bnd (Q := fun (z : Int32) => (0 ≤ z.toInt ∧ z.toInt ≤ 1) ∧ ((y14.toInt = 0 → z.toInt = 0) ∧ (y14.toInt ≠ 0 → z.toInt = 1))) ?_ ?_
            · refine ok_if (fun c6 => ?_) (fun c6 => ?_)
              · have dc6 := tl_eq iy14 tn_0 c6
                exact ok_some ⟨(ti_bd tn_0 (by omega) (by omega)), (by have q : _ = _ := tn_0; (try dsimp only); omega)⟩
              · have dc6 := tl_ne iy14 tn_0 c6
                exact ok_some ⟨(ti_bd tn_1 (by omega) (by omega)), (by have q : _ = _ := tn_1; (try dsimp only); omega)⟩
            · intro y18 hyy18
              obtain ⟨ly18, jy18⟩ := hyy18
              have iy18 : TI y18 y18.toInt := rfl
              refine ok_ltI (av_add iy17 iy18 (by omega) (by omega)) (fun x19 ix19 => ?_)
              refine ok_bnd (Q := fun (z : Int32) => (0 ≤ z.toInt ∧ z.toInt ≤ 1) ∧ ((y16.toInt = 0 → z.toInt = 0) ∧ (y16.toInt ≠ 0 → z.toInt = 1))) ?_ ?_
              · refine ok_if (fun c7 => ?_) (fun c7 => ?_)
                · have dc7 := tl_eq iy16 tn_0 c7
                  exact ok_some ⟨(ti_bd tn_0 (by omega) (by omega)), (by have q : _ = _ := tn_0; (try dsimp only); omega)⟩
                · have dc7 := tl_ne iy16 tn_0 c7
                  exact ok_some ⟨(ti_bd tn_1 (by omega) (by omega)), (by have q : _ = _ := tn_1; (try dsimp only); omega)⟩
              · intro y20 hyy20
                obtain ⟨ly20, jy20⟩ := hyy20
                have iy20 : TI y20 y20.toInt := rfl
                refine ok_ltI (av_add ix19 iy20 (by omega) (by omega)) (fun x21 ix21 => ?_)
                refine ok_bnd (Q := fun (z : DD) => TT G z p w L ∧ Fr p [10] M z) ?_ ?_
                · refine ok_if (fun c8 => ?_) (fun c8 => ?_)
                  · have dc8 := tl_eq (rfl : TI p5 p5.toInt) tn_1 c8
                    refine ok_bnd (Q := fun (z : DD) => TT G z p w L ∧ Fr p [10] M z) ?_ ?_
                    · refine ok_if (fun c9 => ?_) (fun c9 => ?_)
                      · have dc9 := tl_eq iy14 tn_0 c9
                        refine ok_bnd (Q := fun (z : DD) => TT G z p w L ∧ Fr p [10] M z) ?_ ?_
                        · refine ok_if (fun c10 => ?_) (fun c10 => ?_)
                          · have dc10 := tl_eq (rfl : TI p5 p5.toInt) tn_2 c10
                            exfalso
                            omega
                          · have dc10 := tl_ne (rfl : TI p5 p5.toInt) tn_2 c10
                            refine ok_bnd (Q := fun (z : DD) => TT G z p w L ∧ Fr p [10] M z) ?_ ?_
                            · refine ok_if (fun c11 => ?_) (fun c11 => ?_)
                              · have dc11 := tl_eq (rfl : TI p5 p5.toInt) tn_3 c11
                                exfalso
                                omega
                              · have dc11 := tl_ne (rfl : TI p5 p5.toInt) tn_3 c11
                                refine ok_bnd (Q := fun (z : DD) => TT G z p w L ∧ Fr p [10] M z) ?_ ?_
                                · refine ok_if (fun c12 => ?_) (fun c12 => ?_)
                                  · have dc12 := tl_eq (rfl : TI p5 p5.toInt) tn_4 c12
                                    exfalso
                                    omega
                                  · have dc12 := tl_ne (rfl : TI p5 p5.toInt) tn_4 c12
                                    refine ok_bnd (Q := fun (z : DD) => TT G z p w L ∧ Fr p [10] M z) ?_ ?_
                                    · refine ok_if (fun c13 => ?_) (fun c13 => ?_)
                                      · have dc13 := tl_le tn_0 iy6 c13
                                        refine ok_bnd (Q := fun (z : DD) => TT G z p w L ∧ Fr p [10] M z) ?_ ?_
                                        · refine ok_if (fun c14 => ?_) (fun c14 => ?_)
                                          · have dc14 := tl_eq ix21 tn_1 c14
                                            refine ok_bnd (Q := fun (z : Int32) => (-1 ≤ z.toInt ∧ z.toInt ≤ 63) ∧ (0 ≤ z.toInt)) ?_ ?_
                                            · refine ok_if (fun c15 => ?_) (fun c15 => ?_)
                                              · have dc15 := tl_eq iy12 tn_0 c15
                                                refine ok_bnd (Q := fun (z : Int32) => (-1 ≤ z.toInt ∧ z.toInt ≤ 63) ∧ (0 ≤ z.toInt)) ?_ ?_
                                                · refine ok_if (fun c16 => ?_) (fun c16 => ?_)
                                                  · have dc16 := tl_eq iy14 tn_0 c16
                                                    exact ok_some ⟨(ti_bd iy10_1 (by omega) (by omega)), (by have q : _ = _ := iy10_1; (try dsimp only); omega)⟩
                                                  · have dc16 := tl_ne iy14 tn_0 c16
                                                    exfalso
                                                    omega
                                                · intro y321 hyy321
                                                  obtain ⟨ly321, jy321⟩ := hyy321
                                                  have iy321 : TI y321 y321.toInt := rfl
                                                  exact ok_some ⟨(ti_bd iy321 (by omega) (by omega)), (by have q : _ = _ := iy321; (try dsimp only); omega)⟩
                                              · have dc15 := tl_ne iy12 tn_0 c15
                                                exact ok_some ⟨(ti_bd iy4 (by omega) (by omega)), (by have q : _ = _ := iy4; (try dsimp only); omega)⟩
                                            · intro y318 hyy318
                                              obtain ⟨ly318, jy318⟩ := hyy318
                                              have iy318 : TI y318 y318.toInt := rfl
                                              refine ok_bnd (s_adopt ty15 i1 iy318 (by omega) (by omega) (by omega) (by omega)) ?_
                                              intro y319 hyy319
                                              obtain ⟨ty319, gy319⟩ := hyy319
                                              have fy319 := fr_tr fy15 gy319 rfl
                                              exact ok_some ⟨ty319, fy319⟩
                                          · have dc14 := tl_ne ix21 tn_1 c14
                                            refine ok_bnd (s_adoptMedian ty15 i1 iy4 iy6 iy10_1 (by omega) (by omega) (by omega) (by omega) (by omega) (by omega) (by omega) (by omega)) ?_
                                            intro y317 hyy317
                                            obtain ⟨ty317, gy317⟩ := hyy317
                                            have fy317 := fr_tr fy15 gy317 rfl
                                            exact ok_some ⟨ty317, fy317⟩
                                        · intro y315 hyy315
                                          obtain ⟨ty315, fy315⟩ := hyy315
                                          exact ok_some ⟨ty315, fy315⟩
                                      · have dc13 := tl_nle tn_0 iy6 c13
                                        refine ok_bnd (Q := fun (z : DD) => TT G z p w L ∧ Fr p [10] M z) ?_ ?_
                                        · refine ok_if (fun c17 => ?_) (fun c17 => ?_)
                                          · have dc17 := tl_le tn_0 iy10_1 c17
                                            refine ok_bnd (Q := fun (z : DD) => TT G z p w L ∧ Fr p [10] M z) ?_ ?_
                                            · refine ok_if (fun c18 => ?_) (fun c18 => ?_)
                                              · have dc18 := tl_eq ix21 tn_1 c18
                                                refine ok_bnd (Q := fun (z : Int32) => (-1 ≤ z.toInt ∧ z.toInt ≤ 63) ∧ (0 ≤ z.toInt)) ?_ ?_
                                                · refine ok_if (fun c19 => ?_) (fun c19 => ?_)
                                                  · have dc19 := tl_eq iy12 tn_0 c19
                                                    refine ok_bnd (Q := fun (z : Int32) => (0 ≤ z.toInt ∧ z.toInt ≤ 63) ∧ (0 ≤ z.toInt)) ?_ ?_
                                                    · refine ok_if (fun c20 => ?_) (fun c20 => ?_)
                                                      · have dc20 := tl_eq iy14 tn_0 c20
                                                        exact ok_some ⟨(ti_bd iy10_1 (by omega) (by omega)), (by have q : _ = _ := iy10_1; (try dsimp only); omega)⟩
                                                      · have dc20 := tl_ne iy14 tn_0 c20
                                                        exfalso
                                                        omega
                                                    · intro y331 hyy331
                                                      obtain ⟨ly331, jy331⟩ := hyy331
                                                      have iy331 : TI y331 y331.toInt := rfl
                                                      exact ok_some ⟨(ti_bd iy331 (by omega) (by omega)), (by have q : _ = _ := iy331; (try dsimp only); omega)⟩
                                                  · have dc19 := tl_ne iy12 tn_0 c19
                                                    exact ok_some ⟨(ti_bd iy4 (by omega) (by omega)), (by have q : _ = _ := iy4; (try dsimp only); omega)⟩
                                                · intro y328 hyy328
                                                  obtain ⟨ly328, jy328⟩ := hyy328
                                                  have iy328 : TI y328 y328.toInt := rfl
                                                  refine ok_bnd (s_adopt ty15 i1 iy328 (by omega) (by omega) (by omega) (by omega)) ?_
                                                  intro y329 hyy329
                                                  obtain ⟨ty329, gy329⟩ := hyy329
                                                  have fy329 := fr_tr fy15 gy329 rfl
                                                  exact ok_some ⟨ty329, fy329⟩
                                              · have dc18 := tl_ne ix21 tn_1 c18
                                                refine ok_bnd (s_adoptMedian ty15 i1 iy4 iy6 iy10_1 (by omega) (by omega) (by omega) (by omega) (by omega) (by omega) (by omega) (by omega)) ?_
                                                intro y327 hyy327
                                                obtain ⟨ty327, gy327⟩ := hyy327
                                                have fy327 := fr_tr fy15 gy327 rfl
                                                exact ok_some ⟨ty327, fy327⟩
                                            · intro y325 hyy325
                                              obtain ⟨ty325, fy325⟩ := hyy325
                                              exact ok_some ⟨ty325, fy325⟩
                                          · have dc17 := tl_nle tn_0 iy10_1 c17
                                            refine ok_bnd (Q := fun (z : DD) => TT G z p w L ∧ Fr p [10] M z) ?_ ?_
                                            · refine ok_if (fun c21 => ?_) (fun c21 => ?_)
                                              · have dc21 := tl_lt iy4 tn_0 c21
                                                refine ok_bnd (Q := fun (z : DD) => TT G z p w L ∧ Fr p [10] M z) ?_ ?_
                                                · refine ok_if (fun c22 => ?_) (fun c22 => ?_)
                                                  · have dc22 := tl_eq ix21 tn_1 c22
                                                    refine ok_bnd (Q := fun (z : Int32) => (-1 ≤ z.toInt ∧ z.toInt ≤ -1) ∧ (0 ≤ z.toInt)) ?_ ?_
                                                    · refine ok_if (fun c23 => ?_) (fun c23 => ?_)
                                                      · have dc23 := tl_eq iy12 tn_0 c23
                                                        refine ok_bnd (Q := fun (z : Int32) => (-1 ≤ z.toInt ∧ z.toInt ≤ -1) ∧ (0 ≤ z.toInt)) ?_ ?_
                                                        · refine ok_if (fun c24 => ?_) (fun c24 => ?_)
                                                          · have dc24 := tl_eq iy14 tn_0 c24
                                                            exact ok_some ⟨(ti_bd iy10_1 (by omega) (by omega)), (by have q : _ = _ := iy10_1; (try dsimp only); omega)⟩
                                                          · have dc24 := tl_ne iy14 tn_0 c24
                                                            exfalso
                                                            omega
                                                        · intro y341 hyy341
                                                          obtain ⟨ly341, jy341⟩ := hyy341
                                                          have iy341 : TI y341 (-1) := ti_c ly341
                                                          exact ok_some ⟨(ti_bd iy341 (by omega) (by omega)), (by have q : _ = _ := iy341; (try dsimp only); omega)⟩
                                                      · have dc23 := tl_ne iy12 tn_0 c23
                                                        exact ok_some ⟨(ti_bd iy4 (by omega) (by omega)), (by have q : _ = _ := iy4; (try dsimp only); omega)⟩
                                                    · intro y338 hyy338
                                                      obtain ⟨ly338, jy338⟩ := hyy338
                                                      have iy338 : TI y338 (-1) := ti_c ly338
                                                      refine ok_bnd (s_adopt ty15 i1 iy338 (by omega) (by omega) (by omega) (by omega)) ?_
                                                      intro y339 hyy339
                                                      obtain ⟨ty339, gy339⟩ := hyy339
                                                      have fy339 := fr_tr fy15 gy339 rfl
                                                      exact ok_some ⟨ty339, fy339⟩
                                                  · have dc22 := tl_ne ix21 tn_1 c22
                                                    refine ok_bnd (s_adoptMedian ty15 i1 iy4 iy6 iy10_1 (by omega) (by omega) (by omega) (by omega) (by omega) (by omega) (by omega) (by omega)) ?_
                                                    intro y337 hyy337
                                                    obtain ⟨ty337, gy337⟩ := hyy337
                                                    have fy337 := fr_tr fy15 gy337 rfl
                                                    exact ok_some ⟨ty337, fy337⟩
                                                · intro y335 hyy335
                                                  obtain ⟨ty335, fy335⟩ := hyy335
                                                  exact ok_some ⟨ty335, fy335⟩
                                              · have dc21 := tl_nlt iy4 tn_0 c21
                                                refine ok_bnd (s_adopt ty15 i1 iy4 (by omega) (by omega) (by omega) (by omega)) ?_
                                                intro y343 hyy343
                                                obtain ⟨ty343, gy343⟩ := hyy343
                                                have fy343 := fr_tr fy15 gy343 rfl
                                                exact ok_some ⟨ty343, fy343⟩
                                            · intro y333 hyy333
                                              obtain ⟨ty333, fy333⟩ := hyy333
                                              exact ok_some ⟨ty333, fy333⟩
                                        · intro y323 hyy323
                                          obtain ⟨ty323, fy323⟩ := hyy323
                                          exact ok_some ⟨ty323, fy323⟩
                                    · intro y313 hyy313
                                      obtain ⟨ty313, fy313⟩ := hyy313
                                      exact ok_some ⟨ty313, fy313⟩
                                · intro y311 hyy311
                                  obtain ⟨ty311, fy311⟩ := hyy311
                                  exact ok_some ⟨ty311, fy311⟩
                            · intro y309 hyy309
                              obtain ⟨ty309, fy309⟩ := hyy309
                              exact ok_some ⟨ty309, fy309⟩
                        · intro y237 hyy237
                          obtain ⟨ty237, fy237⟩ := hyy237
                          exact ok_some ⟨ty237, fy237⟩
                      · have dc9 := tl_ne iy14 tn_0 c9
                        refine ok_bnd (s_adopt ty15 i1 iy6 (by omega) (by omega) (by omega) (by omega)) ?_
                        intro y448 hyy448
                        obtain ⟨ty448, gy448⟩ := hyy448
                        have fy448 := fr_tr fy15 gy448 rfl
                        exact ok_some ⟨ty448, fy448⟩
                    · intro y235 hyy235
                      obtain ⟨ty235, fy235⟩ := hyy235
                      exact ok_some ⟨ty235, fy235⟩
                  · have dc8 := tl_ne (rfl : TI p5 p5.toInt) tn_1 c8
                    refine ok_bnd (Q := fun (z : DD) => TT G z p w L ∧ Fr p [10] M z) ?_ ?_
                    · refine ok_if (fun c25 => ?_) (fun c25 => ?_)
                      · have dc25 := tl_eq (rfl : TI p5 p5.toInt) tn_2 c25
                        refine ok_bnd (Q := fun (z : DD) => TT G z p w L ∧ Fr p [10] M z) ?_ ?_
                        · refine ok_if (fun c26 => ?_) (fun c26 => ?_)
                          · have dc26 := tl_eq iy12 tn_0 c26
                            refine ok_bnd (Q := fun (z : DD) => TT G z p w L ∧ Fr p [10] M z) ?_ ?_
                            · refine ok_if (fun c27 => ?_) (fun c27 => ?_)
                              · have dc27 := tl_eq (rfl : TI p5 p5.toInt) tn_4 c27
                                exfalso
                                omega
                              · have dc27 := tl_ne (rfl : TI p5 p5.toInt) tn_4 c27
                                refine ok_bnd (Q := fun (z : DD) => TT G z p w L ∧ Fr p [10] M z) ?_ ?_
                                · refine ok_if (fun c28 => ?_) (fun c28 => ?_)
                                  · have dc28 := tl_le tn_0 iy6 c28
                                    refine ok_bnd (Q := fun (z : DD) => TT G z p w L ∧ Fr p [10] M z) ?_ ?_
                                    · refine ok_if (fun c29 => ?_) (fun c29 => ?_)
                                      · have dc29 := tl_eq ix21 tn_1 c29
                                        refine ok_bnd (Q := fun (z : Int32) => (-1 ≤ z.toInt ∧ z.toInt ≤ 63) ∧ (0 ≤ z.toInt)) ?_ ?_
                                        · refine ok_if (fun c30 => ?_) (fun c30 => ?_)
                                          · have dc30 := tl_eq iy12 tn_0 c30
                                            refine ok_bnd (Q := fun (z : Int32) => (-1 ≤ z.toInt ∧ z.toInt ≤ 63) ∧ (0 ≤ z.toInt)) ?_ ?_
                                            · refine ok_if (fun c31 => ?_) (fun c31 => ?_)
                                              · have dc31 := tl_eq iy14 tn_0 c31
                                                exact ok_some ⟨(ti_bd iy10_1 (by omega) (by omega)), (by have q : _ = _ := iy10_1; (try dsimp only); omega)⟩
                                              · have dc31 := tl_ne iy14 tn_0 c31
                                                exact ok_some ⟨(ti_bd iy6 (by omega) (by omega)), (by have q : _ = _ := iy6; (try dsimp only); omega)⟩
                                            · intro y38 hyy38
                                              obtain ⟨ly38, jy38⟩ := hyy38
                                              have iy38 : TI y38 y38.toInt := rfl
                                              exact ok_some ⟨(ti_bd iy38 (by omega) (by omega)), (by have q : _ = _ := iy38; (try dsimp only); omega)⟩
                                          · have dc30 := tl_ne iy12 tn_0 c30
                                            exfalso
                                            omega
                                        · intro y35 hyy35
                                          obtain ⟨ly35, jy35⟩ := hyy35
                                          have iy35 : TI y35 y35.toInt := rfl
                                          refine ok_bnd (s_adopt ty15 i1 iy35 (by omega) (by omega) (by omega) (by omega)) ?_
                                          intro y36 hyy36
                                          obtain ⟨ty36, gy36⟩ := hyy36
                                          have fy36 := fr_tr fy15 gy36 rfl
                                          exact ok_some ⟨ty36, fy36⟩
                                      · have dc29 := tl_ne ix21 tn_1 c29
                                        refine ok_bnd (s_adoptMedian ty15 i1 iy4 iy6 iy10_1 (by omega) (by omega) (by omega) (by omega) (by omega) (by omega) (by omega) (by omega)) ?_
                                        intro y34 hyy34
                                        obtain ⟨ty34, gy34⟩ := hyy34
                                        have fy34 := fr_tr fy15 gy34 rfl
                                        exact ok_some ⟨ty34, fy34⟩
                                    · intro y32 hyy32
                                      obtain ⟨ty32, fy32⟩ := hyy32
                                      exact ok_some ⟨ty32, fy32⟩
                                  · have dc28 := tl_nle tn_0 iy6 c28
                                    refine ok_bnd (Q := fun (z : DD) => TT G z p w L ∧ Fr p [10] M z) ?_ ?_
                                    · refine ok_if (fun c32 => ?_) (fun c32 => ?_)
                                      · have dc32 := tl_le tn_0 iy10_1 c32
                                        refine ok_bnd (Q := fun (z : DD) => TT G z p w L ∧ Fr p [10] M z) ?_ ?_
                                        · refine ok_if (fun c33 => ?_) (fun c33 => ?_)
                                          · have dc33 := tl_eq ix21 tn_1 c33
                                            refine ok_bnd (Q := fun (z : Int32) => (-1 ≤ z.toInt ∧ z.toInt ≤ 63) ∧ (0 ≤ z.toInt)) ?_ ?_
                                            · refine ok_if (fun c34 => ?_) (fun c34 => ?_)
                                              · have dc34 := tl_eq iy12 tn_0 c34
                                                refine ok_bnd (Q := fun (z : Int32) => (-1 ≤ z.toInt ∧ z.toInt ≤ 63) ∧ (0 ≤ z.toInt)) ?_ ?_
                                                · refine ok_if (fun c35 => ?_) (fun c35 => ?_)
                                                  · have dc35 := tl_eq iy14 tn_0 c35
                                                    exact ok_some ⟨(ti_bd iy10_1 (by omega) (by omega)), (by have q : _ = _ := iy10_1; (try dsimp only); omega)⟩
                                                  · have dc35 := tl_ne iy14 tn_0 c35
                                                    exact ok_some ⟨(ti_bd iy6 (by omega) (by omega)), (by have q : _ = _ := iy6; (try dsimp only); omega)⟩
                                                · intro y48 hyy48
                                                  obtain ⟨ly48, jy48⟩ := hyy48
                                                  have iy48 : TI y48 y48.toInt := rfl
                                                  exact ok_some ⟨(ti_bd iy48 (by omega) (by omega)), (by have q : _ = _ := iy48; (try dsimp only); omega)⟩
                                              · have dc34 := tl_ne iy12 tn_0 c34
                                                exfalso
                                                omega
                                            · intro y45 hyy45
                                              obtain ⟨ly45, jy45⟩ := hyy45
                                              have iy45 : TI y45 y45.toInt := rfl
                                              refine ok_bnd (s_adopt ty15 i1 iy45 (by omega) (by omega) (by omega) (by omega)) ?_
                                              intro y46 hyy46
                                              obtain ⟨ty46, gy46⟩ := hyy46
                                              have fy46 := fr_tr fy15 gy46 rfl
                                              exact ok_some ⟨ty46, fy46⟩
                                          · have dc33 := tl_ne ix21 tn_1 c33
                                            refine ok_bnd (s_adoptMedian ty15 i1 iy4 iy6 iy10_1 (by omega) (by omega) (by omega) (by omega) (by omega) (by omega) (by omega) (by omega)) ?_
                                            intro y44 hyy44
                                            obtain ⟨ty44, gy44⟩ := hyy44
                                            have fy44 := fr_tr fy15 gy44 rfl
                                            exact ok_some ⟨ty44, fy44⟩
                                        · intro y42 hyy42
                                          obtain ⟨ty42, fy42⟩ := hyy42
                                          exact ok_some ⟨ty42, fy42⟩
                                      · have dc32 := tl_nle tn_0 iy10_1 c32
                                        refine ok_bnd (Q := fun (z : DD) => TT G z p w L ∧ Fr p [10] M z) ?_ ?_
                                        · refine ok_if (fun c36 => ?_) (fun c36 => ?_)
                                          · have dc36 := tl_lt iy4 tn_0 c36
                                            refine ok_bnd (Q := fun (z : DD) => TT G z p w L ∧ Fr p [10] M z) ?_ ?_
                                            · refine ok_if (fun c37 => ?_) (fun c37 => ?_)
                                              · have dc37 := tl_eq ix21 tn_1 c37
                                                refine ok_bnd (Q := fun (z : Int32) => (-1 ≤ z.toInt ∧ z.toInt ≤ -1) ∧ (0 ≤ z.toInt)) ?_ ?_
                                                · refine ok_if (fun c38 => ?_) (fun c38 => ?_)
                                                  · have dc38 := tl_eq iy12 tn_0 c38
                                                    refine ok_bnd (Q := fun (z : Int32) => (-1 ≤ z.toInt ∧ z.toInt ≤ -1) ∧ (0 ≤ z.toInt)) ?_ ?_
                                                    · refine ok_if (fun c39 => ?_) (fun c39 => ?_)
                                                      · have dc39 := tl_eq iy14 tn_0 c39
                                                        exact ok_some ⟨(ti_bd iy10_1 (by omega) (by omega)), (by have q : _ = _ := iy10_1; (try dsimp only); omega)⟩
                                                      · have dc39 := tl_ne iy14 tn_0 c39
                                                        exact ok_some ⟨(ti_bd iy6 (by omega) (by omega)), (by have q : _ = _ := iy6; (try dsimp only); omega)⟩
                                                    · intro y58 hyy58
                                                      obtain ⟨ly58, jy58⟩ := hyy58
                                                      have iy58 : TI y58 (-1) := ti_c ly58
                                                      exact ok_some ⟨(ti_bd iy58 (by omega) (by omega)), (by have q : _ = _ := iy58; (try dsimp only); omega)⟩
                                                  · have dc38 := tl_ne iy12 tn_0 c38
                                                    exfalso
                                                    omega
                                                · intro y55 hyy55
                                                  obtain ⟨ly55, jy55⟩ := hyy55
                                                  have iy55 : TI y55 (-1) := ti_c ly55
                                                  refine ok_bnd (s_adopt ty15 i1 iy55 (by omega) (by omega) (by omega) (by omega)) ?_
                                                  intro y56 hyy56
                                                  obtain ⟨ty56, gy56⟩ := hyy56
                                                  have fy56 := fr_tr fy15 gy56 rfl
                                                  exact ok_some ⟨ty56, fy56⟩
                                              · have dc37 := tl_ne ix21 tn_1 c37
                                                refine ok_bnd (s_adoptMedian ty15 i1 iy4 iy6 iy10_1 (by omega) (by omega) (by omega) (by omega) (by omega) (by omega) (by omega) (by omega)) ?_
                                                intro y54 hyy54
                                                obtain ⟨ty54, gy54⟩ := hyy54
                                                have fy54 := fr_tr fy15 gy54 rfl
                                                exact ok_some ⟨ty54, fy54⟩
                                            · intro y52 hyy52
                                              obtain ⟨ty52, fy52⟩ := hyy52
                                              exact ok_some ⟨ty52, fy52⟩
                                          · have dc36 := tl_nlt iy4 tn_0 c36
                                            refine ok_bnd (s_adopt ty15 i1 iy4 (by omega) (by omega) (by omega) (by omega)) ?_
                                            intro y60 hyy60
                                            obtain ⟨ty60, gy60⟩ := hyy60
                                            have fy60 := fr_tr fy15 gy60 rfl
                                            exact ok_some ⟨ty60, fy60⟩
                                        · intro y50 hyy50
                                          obtain ⟨ty50, fy50⟩ := hyy50
                                          exact ok_some ⟨ty50, fy50⟩
                                    · intro y40 hyy40
                                      obtain ⟨ty40, fy40⟩ := hyy40
                                      exact ok_some ⟨ty40, fy40⟩
                                · intro y30 hyy30
                                  obtain ⟨ty30, fy30⟩ := hyy30
                                  exact ok_some ⟨ty30, fy30⟩
                            · intro y28 hyy28
                              obtain ⟨ty28, fy28⟩ := hyy28
                              exact ok_some ⟨ty28, fy28⟩
                          · have dc26 := tl_ne iy12 tn_0 c26
                            refine ok_bnd (s_adopt ty15 i1 iy4 (by omega) (by omega) (by omega) (by omega)) ?_
                            intro y95 hyy95
                            obtain ⟨ty95, gy95⟩ := hyy95
                            have fy95 := fr_tr fy15 gy95 rfl
                            exact ok_some ⟨ty95, fy95⟩
                        · intro y26 hyy26
                          obtain ⟨ty26, fy26⟩ := hyy26
                          exact ok_some ⟨ty26, fy26⟩
                      · have dc25 := tl_ne (rfl : TI p5 p5.toInt) tn_2 c25
                        refine ok_bnd (Q := fun (z : DD) => TT G z p w L ∧ Fr p [10] M z) ?_ ?_
                        · refine ok_if (fun c40 => ?_) (fun c40 => ?_)
                          · have dc40 := tl_eq (rfl : TI p5 p5.toInt) tn_3 c40
                            refine ok_bnd (Q := fun (z : DD) => TT G z p w L ∧ Fr p [10] M z) ?_ ?_
                            · refine ok_if (fun c41 => ?_) (fun c41 => ?_)
                              · have dc41 := tl_eq iy12 tn_0 c41
                                refine ok_bnd (Q := fun (z : DD) => TT G z p w L ∧ Fr p [10] M z) ?_ ?_
                                · refine ok_if (fun c42 => ?_) (fun c42 => ?_)
                                  · have dc42 := tl_eq (rfl : TI p5 p5.toInt) tn_4 c42
                                    exfalso
                                    omega
                                  · have dc42 := tl_ne (rfl : TI p5 p5.toInt) tn_4 c42
                                    refine ok_bnd (Q := fun (z : DD) => TT G z p w L ∧ Fr p [10] M z) ?_ ?_
                                    · refine ok_if (fun c43 => ?_) (fun c43 => ?_)
                                      · have dc43 := tl_le tn_0 iy6 c43
                                        refine ok_bnd (Q := fun (z : DD) => TT G z p w L ∧ Fr p [10] M z) ?_ ?_
                                        · refine ok_if (fun c44 => ?_) (fun c44 => ?_)
                                          · have dc44 := tl_eq ix21 tn_1 c44
                                            refine ok_bnd (Q := fun (z : Int32) => (-1 ≤ z.toInt ∧ z.toInt ≤ 63) ∧ (0 ≤ z.toInt)) ?_ ?_
                                            · refine ok_if (fun c45 => ?_) (fun c45 => ?_)
                                              · have dc45 := tl_eq iy12 tn_0 c45
                                                refine ok_bnd (Q := fun (z : Int32) => (-1 ≤ z.toInt ∧ z.toInt ≤ 63) ∧ (0 ≤ z.toInt)) ?_ ?_
                                                · refine ok_if (fun c46 => ?_) (fun c46 => ?_)
                                                  · have dc46 := tl_eq iy14 tn_0 c46
                                                    exact ok_some ⟨(ti_bd iy10_1 (by omega) (by omega)), (by have q : _ = _ := iy10_1; (try dsimp only); omega)⟩
                                                  · have dc46 := tl_ne iy14 tn_0 c46
                                                    exact ok_some ⟨(ti_bd iy6 (by omega) (by omega)), (by have q : _ = _ := iy6; (try dsimp only); omega)⟩
                                                · intro y177 hyy177
                                                  obtain ⟨ly177, jy177⟩ := hyy177
                                                  have iy177 : TI y177 y177.toInt := rfl
                                                  exact ok_some ⟨(ti_bd iy177 (by omega) (by omega)), (by have q : _ = _ := iy177; (try dsimp only); omega)⟩
                                              · have dc45 := tl_ne iy12 tn_0 c45
                                                exfalso
                                                omega
                                            · intro y174 hyy174
                                              obtain ⟨ly174, jy174⟩ := hyy174
                                              have iy174 : TI y174 y174.toInt := rfl
                                              refine ok_bnd (s_adopt ty15 i1 iy174 (by omega) (by omega) (by omega) (by omega)) ?_
                                              intro y175 hyy175
                                              obtain ⟨ty175, gy175⟩ := hyy175
                                              have fy175 := fr_tr fy15 gy175 rfl
                                              exact ok_some ⟨ty175, fy175⟩
                                          · have dc44 := tl_ne ix21 tn_1 c44
                                            refine ok_bnd (s_adoptMedian ty15 i1 iy4 iy6 iy10_1 (by omega) (by omega) (by omega) (by omega) (by omega) (by omega) (by omega) (by omega)) ?_
                                            intro y173 hyy173
                                            obtain ⟨ty173, gy173⟩ := hyy173
                                            have fy173 := fr_tr fy15 gy173 rfl
                                            exact ok_some ⟨ty173, fy173⟩
                                        · intro y171 hyy171
                                          obtain ⟨ty171, fy171⟩ := hyy171
                                          exact ok_some ⟨ty171, fy171⟩
                                      · have dc43 := tl_nle tn_0 iy6 c43
                                        refine ok_bnd (Q := fun (z : DD) => TT G z p w L ∧ Fr p [10] M z) ?_ ?_
                                        · refine ok_if (fun c47 => ?_) (fun c47 => ?_)
                                          · have dc47 := tl_le tn_0 iy10_1 c47
                                            refine ok_bnd (Q := fun (z : DD) => TT G z p w L ∧ Fr p [10] M z) ?_ ?_
                                            · refine ok_if (fun c48 => ?_) (fun c48 => ?_)
                                              · have dc48 := tl_eq ix21 tn_1 c48
                                                refine ok_bnd (Q := fun (z : Int32) => (-1 ≤ z.toInt ∧ z.toInt ≤ 63) ∧ (0 ≤ z.toInt)) ?_ ?_
                                                · refine ok_if (fun c49 => ?_) (fun c49 => ?_)
                                                  · have dc49 := tl_eq iy12 tn_0 c49
                                                    refine ok_bnd (Q := fun (z : Int32) => (-1 ≤ z.toInt ∧ z.toInt ≤ 63) ∧ (0 ≤ z.toInt)) ?_ ?_
                                                    · refine ok_if (fun c50 => ?_) (fun c50 => ?_)
                                                      · have dc50 := tl_eq iy14 tn_0 c50
                                                        exact ok_some ⟨(ti_bd iy10_1 (by omega) (by omega)), (by have q : _ = _ := iy10_1; (try dsimp only); omega)⟩
                                                      · have dc50 := tl_ne iy14 tn_0 c50
                                                        exact ok_some ⟨(ti_bd iy6 (by omega) (by omega)), (by have q : _ = _ := iy6; (try dsimp only); omega)⟩
                                                    · intro y187 hyy187
                                                      obtain ⟨ly187, jy187⟩ := hyy187
                                                      have iy187 : TI y187 y187.toInt := rfl
                                                      exact ok_some ⟨(ti_bd iy187 (by omega) (by omega)), (by have q : _ = _ := iy187; (try dsimp only); omega)⟩
                                                  · have dc49 := tl_ne iy12 tn_0 c49
                                                    exfalso
                                                    omega
                                                · intro y184 hyy184
                                                  obtain ⟨ly184, jy184⟩ := hyy184
                                                  have iy184 : TI y184 y184.toInt := rfl
                                                  refine ok_bnd (s_adopt ty15 i1 iy184 (by omega) (by omega) (by omega) (by omega)) ?_
                                                  intro y185 hyy185
                                                  obtain ⟨ty185, gy185⟩ := hyy185
                                                  have fy185 := fr_tr fy15 gy185 rfl
                                                  exact ok_some ⟨ty185, fy185⟩
                                              · have dc48 := tl_ne ix21 tn_1 c48
                                                refine ok_bnd (s_adoptMedian ty15 i1 iy4 iy6 iy10_1 (by omega) (by omega) (by omega) (by omega) (by omega) (by omega) (by omega) (by omega)) ?_
                                                intro y183 hyy183
                                                obtain ⟨ty183, gy183⟩ := hyy183
                                                have fy183 := fr_tr fy15 gy183 rfl
                                                exact ok_some ⟨ty183, fy183⟩
                                            · intro y181 hyy181
                                              obtain ⟨ty181, fy181⟩ := hyy181
                                              exact ok_some ⟨ty181, fy181⟩
                                          · have dc47 := tl_nle tn_0 iy10_1 c47
                                            refine ok_bnd (Q := fun (z : DD) => TT G z p w L ∧ Fr p [10] M z) ?_ ?_
                                            · refine ok_if (fun c51 => ?_) (fun c51 => ?_)
                                              · have dc51 := tl_lt iy4 tn_0 c51
                                                refine ok_bnd (Q := fun (z : DD) => TT G z p w L ∧ Fr p [10] M z) ?_ ?_
                                                · refine ok_if (fun c52 => ?_) (fun c52 => ?_)
                                                  · have dc52 := tl_eq ix21 tn_1 c52
                                                    refine ok_bnd (Q := fun (z : Int32) => (-1 ≤ z.toInt ∧ z.toInt ≤ -1) ∧ (0 ≤ z.toInt)) ?_ ?_
                                                    · refine ok_if (fun c53 => ?_) (fun c53 => ?_)
                                                      · have dc53 := tl_eq iy12 tn_0 c53
                                                        refine ok_bnd (Q := fun (z : Int32) => (-1 ≤ z.toInt ∧ z.toInt ≤ -1) ∧ (0 ≤ z.toInt)) ?_ ?_
                                                        · refine ok_if (fun c54 => ?_) (fun c54 => ?_)
                                                          · have dc54 := tl_eq iy14 tn_0 c54
                                                            exact ok_some ⟨(ti_bd iy10_1 (by omega) (by omega)), (by have q : _ = _ := iy10_1; (try dsimp only); omega)⟩
                                                          · have dc54 := tl_ne iy14 tn_0 c54
                                                            exact ok_some ⟨(ti_bd iy6 (by omega) (by omega)), (by have q : _ = _ := iy6; (try dsimp only); omega)⟩
                                                        · intro y197 hyy197
                                                          obtain ⟨ly197, jy197⟩ := hyy197
                                                          have iy197 : TI y197 (-1) := ti_c ly197
                                                          exact ok_some ⟨(ti_bd iy197 (by omega) (by omega)), (by have q : _ = _ := iy197; (try dsimp only); omega)⟩
                                                      · have dc53 := tl_ne iy12 tn_0 c53
                                                        exfalso
                                                        omega
                                                    · intro y194 hyy194
                                                      obtain ⟨ly194, jy194⟩ := hyy194
                                                      have iy194 : TI y194 (-1) := ti_c ly194
                                                      refine ok_bnd (s_adopt ty15 i1 iy194 (by omega) (by omega) (by omega) (by omega)) ?_
                                                      intro y195 hyy195
                                                      obtain ⟨ty195, gy195⟩ := hyy195
                                                      have fy195 := fr_tr fy15 gy195 rfl
                                                      exact ok_some ⟨ty195, fy195⟩
                                                  · have dc52 := tl_ne ix21 tn_1 c52
                                                    refine ok_bnd (s_adoptMedian ty15 i1 iy4 iy6 iy10_1 (by omega) (by omega) (by omega) (by omega) (by omega) (by omega) (by omega) (by omega)) ?_
                                                    intro y193 hyy193
                                                    obtain ⟨ty193, gy193⟩ := hyy193
                                                    have fy193 := fr_tr fy15 gy193 rfl
                                                    exact ok_some ⟨ty193, fy193⟩
                                                · intro y191 hyy191
                                                  obtain ⟨ty191, fy191⟩ := hyy191
                                                  exact ok_some ⟨ty191, fy191⟩
                                              · have dc51 := tl_nlt iy4 tn_0 c51
                                                refine ok_bnd (s_adopt ty15 i1 iy4 (by omega) (by omega) (by omega) (by omega)) ?_
                                                intro y199 hyy199
                                                obtain ⟨ty199, gy199⟩ := hyy199
                                                have fy199 := fr_tr fy15 gy199 rfl
                                                exact ok_some ⟨ty199, fy199⟩
                                            · intro y189 hyy189
                                              obtain ⟨ty189, fy189⟩ := hyy189
                                              exact ok_some ⟨ty189, fy189⟩
                                        · intro y179 hyy179
                                          obtain ⟨ty179, fy179⟩ := hyy179
                                          exact ok_some ⟨ty179, fy179⟩
                                    · intro y169 hyy169
                                      obtain ⟨ty169, fy169⟩ := hyy169
                                      exact ok_some ⟨ty169, fy169⟩
                                · intro y167 hyy167
                                  obtain ⟨ty167, fy167⟩ := hyy167
                                  exact ok_some ⟨ty167, fy167⟩
                              · have dc41 := tl_ne iy12 tn_0 c41
                                refine ok_bnd (s_adopt ty15 i1 iy4 (by omega) (by omega) (by omega) (by omega)) ?_
                                intro y234 hyy234
                                obtain ⟨ty234, gy234⟩ := hyy234
                                have fy234 := fr_tr fy15 gy234 rfl
                                exact ok_some ⟨ty234, fy234⟩
                            · intro y165 hyy165
                              obtain ⟨ty165, fy165⟩ := hyy165
                              exact ok_some ⟨ty165, fy165⟩
                          · have dc40 := tl_ne (rfl : TI p5 p5.toInt) tn_3 c40
                            refine ok_bnd (Q := fun (z : DD) => TT G z p w L ∧ Fr p [10] M z) ?_ ?_
                            · refine ok_if (fun c55 => ?_) (fun c55 => ?_)
                              · have dc55 := tl_eq (rfl : TI p5 p5.toInt) tn_4 c55
                                refine ok_bnd (Q := fun (z : DD) => TT G z p w L ∧ Fr p [10] M z) ?_ ?_
                                · refine ok_if (fun c56 => ?_) (fun c56 => ?_)
                                  · have dc56 := tl_eq iy16 tn_0 c56
                                    refine ok_bnd (Q := fun (z : DD) => TT G z p w L ∧ Fr p [10] M z) ?_ ?_
                                    · refine ok_if (fun c57 => ?_) (fun c57 => ?_)
                                      · have dc57 := tl_le tn_0 iy6 c57
                                        refine ok_bnd (Q := fun (z : DD) => TT G z p w L ∧ Fr p [10] M z) ?_ ?_
                                        · refine ok_if (fun c58 => ?_) (fun c58 => ?_)
                                          · have dc58 := tl_eq ix21 tn_1 c58
                                            refine ok_bnd (Q := fun (z : Int32) => (-1 ≤ z.toInt ∧ z.toInt ≤ 63) ∧ (0 ≤ z.toInt)) ?_ ?_
                                            · refine ok_if (fun c59 => ?_) (fun c59 => ?_)
                                              · have dc59 := tl_eq iy12 tn_0 c59
                                                refine ok_bnd (Q := fun (z : Int32) => (-1 ≤ z.toInt ∧ z.toInt ≤ 63) ∧ (0 ≤ z.toInt)) ?_ ?_
                                                · refine ok_if (fun c60 => ?_) (fun c60 => ?_)
                                                  · have dc60 := tl_eq iy14 tn_0 c60
                                                    exact ok_some ⟨(ti_bd iy10_1 (by omega) (by omega)), (by have q : _ = _ := iy10_1; (try dsimp only); omega)⟩
                                                  · have dc60 := tl_ne iy14 tn_0 c60
                                                    exact ok_some ⟨(ti_bd iy6 (by omega) (by omega)), (by have q : _ = _ := iy6; (try dsimp only); omega)⟩
                                                · intro y141 hyy141
                                                  obtain ⟨ly141, jy141⟩ := hyy141
                                                  have iy141 : TI y141 y141.toInt := rfl
                                                  exact ok_some ⟨(ti_bd iy141 (by omega) (by omega)), (by have q : _ = _ := iy141; (try dsimp only); omega)⟩
                                              · have dc59 := tl_ne iy12 tn_0 c59
                                                exact ok_some ⟨(ti_bd iy4 (by omega) (by omega)), (by have q : _ = _ := iy4; (try dsimp only); omega)⟩
                                            · intro y138 hyy138
                                              obtain ⟨ly138, jy138⟩ := hyy138
                                              have iy138 : TI y138 y138.toInt := rfl
                                              refine ok_bnd (s_adopt ty15 i1 iy138 (by omega) (by omega) (by omega) (by omega)) ?_
                                              intro y139 hyy139
                                              obtain ⟨ty139, gy139⟩ := hyy139
                                              have fy139 := fr_tr fy15 gy139 rfl
                                              exact ok_some ⟨ty139, fy139⟩
                                          · have dc58 := tl_ne ix21 tn_1 c58
                                            refine ok_bnd (s_adoptMedian ty15 i1 iy4 iy6 iy10_1 (by omega) (by omega) (by omega) (by omega) (by omega) (by omega) (by omega) (by omega)) ?_
                                            intro y137 hyy137
                                            obtain ⟨ty137, gy137⟩ := hyy137
                                            have fy137 := fr_tr fy15 gy137 rfl
                                            exact ok_some ⟨ty137, fy137⟩
                                        · intro y135 hyy135
                                          obtain ⟨ty135, fy135⟩ := hyy135
                                          exact ok_some ⟨ty135, fy135⟩
                                      · have dc57 := tl_nle tn_0 iy6 c57
                                        refine ok_bnd (Q := fun (z : DD) => TT G z p w L ∧ Fr p [10] M z) ?_ ?_
                                        · refine ok_if (fun c61 => ?_) (fun c61 => ?_)
                                          · have dc61 := tl_le tn_0 iy10_1 c61
                                            refine ok_bnd (Q := fun (z : DD) => TT G z p w L ∧ Fr p [10] M z) ?_ ?_
                                            · refine ok_if (fun c62 => ?_) (fun c62 => ?_)
                                              · have dc62 := tl_eq ix21 tn_1 c62
                                                refine ok_bnd (Q := fun (z : Int32) => (-1 ≤ z.toInt ∧ z.toInt ≤ 63) ∧ (0 ≤ z.toInt)) ?_ ?_
                                                · refine ok_if (fun c63 => ?_) (fun c63 => ?_)
                                                  · have dc63 := tl_eq iy12 tn_0 c63
                                                    refine ok_bnd (Q := fun (z : Int32) => (-1 ≤ z.toInt ∧ z.toInt ≤ 63) ∧ (0 ≤ z.toInt)) ?_ ?_
                                                    · refine ok_if (fun c64 => ?_) (fun c64 => ?_)
                                                      · have dc64 := tl_eq iy14 tn_0 c64
                                                        exact ok_some ⟨(ti_bd iy10_1 (by omega) (by omega)), (by have q : _ = _ := iy10_1; (try dsimp only); omega)⟩
                                                      · have dc64 := tl_ne iy14 tn_0 c64
                                                        exact ok_some ⟨(ti_bd iy6 (by omega) (by omega)), (by have q : _ = _ := iy6; (try dsimp only); omega)⟩
                                                    · intro y151 hyy151
                                                      obtain ⟨ly151, jy151⟩ := hyy151
                                                      have iy151 : TI y151 y151.toInt := rfl
                                                      exact ok_some ⟨(ti_bd iy151 (by omega) (by omega)), (by have q : _ = _ := iy151; (try dsimp only); omega)⟩
                                                  · have dc63 := tl_ne iy12 tn_0 c63
                                                    exact ok_some ⟨(ti_bd iy4 (by omega) (by omega)), (by have q : _ = _ := iy4; (try dsimp only); omega)⟩
                                                · intro y148 hyy148
                                                  obtain ⟨ly148, jy148⟩ := hyy148
                                                  have iy148 : TI y148 y148.toInt := rfl
                                                  refine ok_bnd (s_adopt ty15 i1 iy148 (by omega) (by omega) (by omega) (by omega)) ?_
                                                  intro y149 hyy149
                                                  obtain ⟨ty149, gy149⟩ := hyy149
                                                  have fy149 := fr_tr fy15 gy149 rfl
                                                  exact ok_some ⟨ty149, fy149⟩
                                              · have dc62 := tl_ne ix21 tn_1 c62
                                                refine ok_bnd (s_adoptMedian ty15 i1 iy4 iy6 iy10_1 (by omega) (by omega) (by omega) (by omega) (by omega) (by omega) (by omega) (by omega)) ?_
                                                intro y147 hyy147
                                                obtain ⟨ty147, gy147⟩ := hyy147
                                                have fy147 := fr_tr fy15 gy147 rfl
                                                exact ok_some ⟨ty147, fy147⟩
                                            · intro y145 hyy145
                                              obtain ⟨ty145, fy145⟩ := hyy145
                                              exact ok_some ⟨ty145, fy145⟩
                                          · have dc61 := tl_nle tn_0 iy10_1 c61
                                            refine ok_bnd (Q := fun (z : DD) => TT G z p w L ∧ Fr p [10] M z) ?_ ?_
                                            · refine ok_if (fun c65 => ?_) (fun c65 => ?_)
                                              · have dc65 := tl_lt iy4 tn_0 c65
                                                refine ok_bnd (Q := fun (z : DD) => TT G z p w L ∧ Fr p [10] M z) ?_ ?_
                                                · refine ok_if (fun c66 => ?_) (fun c66 => ?_)
                                                  · have dc66 := tl_eq ix21 tn_1 c66
                                                    refine ok_bnd (Q := fun (z : Int32) => (-1 ≤ z.toInt ∧ z.toInt ≤ -1) ∧ (0 ≤ z.toInt)) ?_ ?_
                                                    · refine ok_if (fun c67 => ?_) (fun c67 => ?_)
                                                      · have dc67 := tl_eq iy12 tn_0 c67
                                                        refine ok_bnd (Q := fun (z : Int32) => (-1 ≤ z.toInt ∧ z.toInt ≤ -1) ∧ (0 ≤ z.toInt)) ?_ ?_
                                                        · refine ok_if (fun c68 => ?_) (fun c68 => ?_)
                                                          · have dc68 := tl_eq iy14 tn_0 c68
                                                            exact ok_some ⟨(ti_bd iy10_1 (by omega) (by omega)), (by have q : _ = _ := iy10_1; (try dsimp only); omega)⟩
                                                          · have dc68 := tl_ne iy14 tn_0 c68
                                                            exact ok_some ⟨(ti_bd iy6 (by omega) (by omega)), (by have q : _ = _ := iy6; (try dsimp only); omega)⟩
                                                        · intro y161 hyy161
                                                          obtain ⟨ly161, jy161⟩ := hyy161
                                                          have iy161 : TI y161 (-1) := ti_c ly161
                                                          exact ok_some ⟨(ti_bd iy161 (by omega) (by omega)), (by have q : _ = _ := iy161; (try dsimp only); omega)⟩
                                                      · have dc67 := tl_ne iy12 tn_0 c67
                                                        exact ok_some ⟨(ti_bd iy4 (by omega) (by omega)), (by have q : _ = _ := iy4; (try dsimp only); omega)⟩
                                                    · intro y158 hyy158
                                                      obtain ⟨ly158, jy158⟩ := hyy158
                                                      have iy158 : TI y158 (-1) := ti_c ly158
                                                      refine ok_bnd (s_adopt ty15 i1 iy158 (by omega) (by omega) (by omega) (by omega)) ?_
                                                      intro y159 hyy159
                                                      obtain ⟨ty159, gy159⟩ := hyy159
                                                      have fy159 := fr_tr fy15 gy159 rfl
                                                      exact ok_some ⟨ty159, fy159⟩
                                                  · have dc66 := tl_ne ix21 tn_1 c66
                                                    refine ok_bnd (s_adoptMedian ty15 i1 iy4 iy6 iy10_1 (by omega) (by omega) (by omega) (by omega) (by omega) (by omega) (by omega) (by omega)) ?_
                                                    intro y157 hyy157
                                                    obtain ⟨ty157, gy157⟩ := hyy157
                                                    have fy157 := fr_tr fy15 gy157 rfl
                                                    exact ok_some ⟨ty157, fy157⟩
                                                · intro y155 hyy155
                                                  obtain ⟨ty155, fy155⟩ := hyy155
                                                  exact ok_some ⟨ty155, fy155⟩
                                              · have dc65 := tl_nlt iy4 tn_0 c65
                                                refine ok_bnd (s_adopt ty15 i1 iy4 (by omega) (by omega) (by omega) (by omega)) ?_
                                                intro y163 hyy163
                                                obtain ⟨ty163, gy163⟩ := hyy163
                                                have fy163 := fr_tr fy15 gy163 rfl
                                                exact ok_some ⟨ty163, fy163⟩
                                            · intro y153 hyy153
                                              obtain ⟨ty153, fy153⟩ := hyy153
                                              exact ok_some ⟨ty153, fy153⟩
                                        · intro y143 hyy143
                                          obtain ⟨ty143, fy143⟩ := hyy143
                                          exact ok_some ⟨ty143, fy143⟩
                                    · intro y133 hyy133
                                      obtain ⟨ty133, fy133⟩ := hyy133
                                      exact ok_some ⟨ty133, fy133⟩
                                  · have dc56 := tl_ne iy16 tn_0 c56
                                    refine ok_bnd (s_adopt ty15 i1 iy10_1 (by omega) (by omega) (by omega) (by omega)) ?_
                                    intro y164 hyy164
                                    obtain ⟨ty164, gy164⟩ := hyy164
                                    have fy164 := fr_tr fy15 gy164 rfl
                                    exact ok_some ⟨ty164, fy164⟩
                                · intro y131 hyy131
                                  obtain ⟨ty131, fy131⟩ := hyy131
                                  exact ok_some ⟨ty131, fy131⟩
                              · have dc55 := tl_ne (rfl : TI p5 p5.toInt) tn_4 c55
                                refine ok_bnd (Q := fun (z : DD) => TT G z p w L ∧ Fr p [10] M z) ?_ ?_
                                · refine ok_if (fun c69 => ?_) (fun c69 => ?_)
                                  · have dc69 := tl_le tn_0 iy6 c69
                                    refine ok_bnd (Q := fun (z : DD) => TT G z p w L ∧ Fr p [10] M z) ?_ ?_
                                    · refine ok_if (fun c70 => ?_) (fun c70 => ?_)
                                      · have dc70 := tl_eq ix21 tn_1 c70
                                        refine ok_bnd (Q := fun (z : Int32) => (-1 ≤ z.toInt ∧ z.toInt ≤ 63) ∧ (0 ≤ z.toInt)) ?_ ?_
                                        · refine ok_if (fun c71 => ?_) (fun c71 => ?_)
                                          · have dc71 := tl_eq iy12 tn_0 c71
                                            refine ok_bnd (Q := fun (z : Int32) => (-1 ≤ z.toInt ∧ z.toInt ≤ 63) ∧ (0 ≤ z.toInt)) ?_ ?_
                                            · refine ok_if (fun c72 => ?_) (fun c72 => ?_)
                                              · have dc72 := tl_eq iy14 tn_0 c72
                                                exact ok_some ⟨(ti_bd iy10_1 (by omega) (by omega)), (by have q : _ = _ := iy10_1; (try dsimp only); omega)⟩
                                              · have dc72 := tl_ne iy14 tn_0 c72
                                                exact ok_some ⟨(ti_bd iy6 (by omega) (by omega)), (by have q : _ = _ := iy6; (try dsimp only); omega)⟩
                                            · intro y108 hyy108
                                              obtain ⟨ly108, jy108⟩ := hyy108
                                              have iy108 : TI y108 y108.toInt := rfl
                                              exact ok_some ⟨(ti_bd iy108 (by omega) (by omega)), (by have q : _ = _ := iy108; (try dsimp only); omega)⟩
                                          · have dc71 := tl_ne iy12 tn_0 c71
                                            exact ok_some ⟨(ti_bd iy4 (by omega) (by omega)), (by have q : _ = _ := iy4; (try dsimp only); omega)⟩
                                        · intro y105 hyy105
                                          obtain ⟨ly105, jy105⟩ := hyy105
                                          have iy105 : TI y105 y105.toInt := rfl
                                          refine ok_bnd (s_adopt ty15 i1 iy105 (by omega) (by omega) (by omega) (by omega)) ?_
                                          intro y106 hyy106
                                          obtain ⟨ty106, gy106⟩ := hyy106
                                          have fy106 := fr_tr fy15 gy106 rfl
                                          exact ok_some ⟨ty106, fy106⟩
                                      · have dc70 := tl_ne ix21 tn_1 c70
                                        refine ok_bnd (s_adoptMedian ty15 i1 iy4 iy6 iy10_1 (by omega) (by omega) (by omega) (by omega) (by omega) (by omega) (by omega) (by omega)) ?_
                                        intro y104 hyy104
                                        obtain ⟨ty104, gy104⟩ := hyy104
                                        have fy104 := fr_tr fy15 gy104 rfl
                                        exact ok_some ⟨ty104, fy104⟩
                                    · intro y102 hyy102
                                      obtain ⟨ty102, fy102⟩ := hyy102
                                      exact ok_some ⟨ty102, fy102⟩
                                  · have dc69 := tl_nle tn_0 iy6 c69
                                    refine ok_bnd (Q := fun (z : DD) => TT G z p w L ∧ Fr p [10] M z) ?_ ?_
                                    · refine ok_if (fun c73 => ?_) (fun c73 => ?_)
                                      · have dc73 := tl_le tn_0 iy10_1 c73
                                        refine ok_bnd (Q := fun (z : DD) => TT G z p w L ∧ Fr p [10] M z) ?_ ?_
                                        · refine ok_if (fun c74 => ?_) (fun c74 => ?_)
                                          · have dc74 := tl_eq ix21 tn_1 c74
                                            refine ok_bnd (Q := fun (z : Int32) => (-1 ≤ z.toInt ∧ z.toInt ≤ 63) ∧ (0 ≤ z.toInt)) ?_ ?_
                                            · refine ok_if (fun c75 => ?_) (fun c75 => ?_)
                                              · have dc75 := tl_eq iy12 tn_0 c75
                                                refine ok_bnd (Q := fun (z : Int32) => (-1 ≤ z.toInt ∧ z.toInt ≤ 63) ∧ (0 ≤ z.toInt)) ?_ ?_
                                                · refine ok_if (fun c76 => ?_) (fun c76 => ?_)
                                                  · have dc76 := tl_eq iy14 tn_0 c76
                                                    exact ok_some ⟨(ti_bd iy10_1 (by omega) (by omega)), (by have q : _ = _ := iy10_1; (try dsimp only); omega)⟩
                                                  · have dc76 := tl_ne iy14 tn_0 c76
                                                    exact ok_some ⟨(ti_bd iy6 (by omega) (by omega)), (by have q : _ = _ := iy6; (try dsimp only); omega)⟩
                                                · intro y118 hyy118
                                                  obtain ⟨ly118, jy118⟩ := hyy118
                                                  have iy118 : TI y118 y118.toInt := rfl
                                                  exact ok_some ⟨(ti_bd iy118 (by omega) (by omega)), (by have q : _ = _ := iy118; (try dsimp only); omega)⟩
                                              · have dc75 := tl_ne iy12 tn_0 c75
                                                exact ok_some ⟨(ti_bd iy4 (by omega) (by omega)), (by have q : _ = _ := iy4; (try dsimp only); omega)⟩
                                            · intro y115 hyy115
                                              obtain ⟨ly115, jy115⟩ := hyy115
                                              have iy115 : TI y115 y115.toInt := rfl
                                              refine ok_bnd (s_adopt ty15 i1 iy115 (by omega) (by omega) (by omega) (by omega)) ?_
                                              intro y116 hyy116
                                              obtain ⟨ty116, gy116⟩ := hyy116
                                              have fy116 := fr_tr fy15 gy116 rfl
                                              exact ok_some ⟨ty116, fy116⟩
                                          · have dc74 := tl_ne ix21 tn_1 c74
                                            refine ok_bnd (s_adoptMedian ty15 i1 iy4 iy6 iy10_1 (by omega) (by omega) (by omega) (by omega) (by omega) (by omega) (by omega) (by omega)) ?_
                                            intro y114 hyy114
                                            obtain ⟨ty114, gy114⟩ := hyy114
                                            have fy114 := fr_tr fy15 gy114 rfl
                                            exact ok_some ⟨ty114, fy114⟩
                                        · intro y112 hyy112
                                          obtain ⟨ty112, fy112⟩ := hyy112
                                          exact ok_some ⟨ty112, fy112⟩
                                      · have dc73 := tl_nle tn_0 iy10_1 c73
                                        refine ok_bnd (Q := fun (z : DD) => TT G z p w L ∧ Fr p [10] M z) ?_ ?_
                                        · refine ok_if (fun c77 => ?_) (fun c77 => ?_)
                                          · have dc77 := tl_lt iy4 tn_0 c77
                                            refine ok_bnd (Q := fun (z : DD) => TT G z p w L ∧ Fr p [10] M z) ?_ ?_
                                            · refine ok_if (fun c78 => ?_) (fun c78 => ?_)
                                              · have dc78 := tl_eq ix21 tn_1 c78
                                                refine ok_bnd (Q := fun (z : Int32) => (-1 ≤ z.toInt ∧ z.toInt ≤ -1) ∧ (0 ≤ z.toInt)) ?_ ?_
                                                · refine ok_if (fun c79 => ?_) (fun c79 => ?_)
                                                  · have dc79 := tl_eq iy12 tn_0 c79
                                                    refine ok_bnd (Q := fun (z : Int32) => (-1 ≤ z.toInt ∧ z.toInt ≤ -1) ∧ (0 ≤ z.toInt)) ?_ ?_
                                                    · refine ok_if (fun c80 => ?_) (fun c80 => ?_)
                                                      · have dc80 := tl_eq iy14 tn_0 c80
                                                        exact ok_some ⟨(ti_bd iy10_1 (by omega) (by omega)), (by have q : _ = _ := iy10_1; (try dsimp only); omega)⟩
                                                      · have dc80 := tl_ne iy14 tn_0 c80
                                                        exact ok_some ⟨(ti_bd iy6 (by omega) (by omega)), (by have q : _ = _ := iy6; (try dsimp only); omega)⟩
                                                    · intro y128 hyy128
                                                      obtain ⟨ly128, jy128⟩ := hyy128
                                                      have iy128 : TI y128 (-1) := ti_c ly128
                                                      exact ok_some ⟨(ti_bd iy128 (by omega) (by omega)), (by have q : _ = _ := iy128; (try dsimp only); omega)⟩
                                                  · have dc79 := tl_ne iy12 tn_0 c79
                                                    exact ok_some ⟨(ti_bd iy4 (by omega) (by omega)), (by have q : _ = _ := iy4; (try dsimp only); omega)⟩
                                                · intro y125 hyy125
                                                  obtain ⟨ly125, jy125⟩ := hyy125
                                                  have iy125 : TI y125 (-1) := ti_c ly125
                                                  refine ok_bnd (s_adopt ty15 i1 iy125 (by omega) (by omega) (by omega) (by omega)) ?_
                                                  intro y126 hyy126
                                                  obtain ⟨ty126, gy126⟩ := hyy126
                                                  have fy126 := fr_tr fy15 gy126 rfl
                                                  exact ok_some ⟨ty126, fy126⟩
                                              · have dc78 := tl_ne ix21 tn_1 c78
                                                refine ok_bnd (s_adoptMedian ty15 i1 iy4 iy6 iy10_1 (by omega) (by omega) (by omega) (by omega) (by omega) (by omega) (by omega) (by omega)) ?_
                                                intro y124 hyy124
                                                obtain ⟨ty124, gy124⟩ := hyy124
                                                have fy124 := fr_tr fy15 gy124 rfl
                                                exact ok_some ⟨ty124, fy124⟩
                                            · intro y122 hyy122
                                              obtain ⟨ty122, fy122⟩ := hyy122
                                              exact ok_some ⟨ty122, fy122⟩
                                          · have dc77 := tl_nlt iy4 tn_0 c77
                                            refine ok_bnd (s_adopt ty15 i1 iy4 (by omega) (by omega) (by omega) (by omega)) ?_
                                            intro y130 hyy130
                                            obtain ⟨ty130, gy130⟩ := hyy130
                                            have fy130 := fr_tr fy15 gy130 rfl
                                            exact ok_some ⟨ty130, fy130⟩
                                        · intro y120 hyy120
                                          obtain ⟨ty120, fy120⟩ := hyy120
                                          exact ok_some ⟨ty120, fy120⟩
                                    · intro y110 hyy110
                                      obtain ⟨ty110, fy110⟩ := hyy110
                                      exact ok_some ⟨ty110, fy110⟩
                                · intro y100 hyy100
                                  obtain ⟨ty100, fy100⟩ := hyy100
                                  exact ok_some ⟨ty100, fy100⟩
                            · intro y98 hyy98
                              obtain ⟨ty98, fy98⟩ := hyy98
                              exact ok_some ⟨ty98, fy98⟩
                        · intro y96 hyy96
                          obtain ⟨ty96, fy96⟩ := hyy96
                          exact ok_some ⟨ty96, fy96⟩
                    · intro y24 hyy24
                      obtain ⟨ty24, fy24⟩ := hyy24
                      exact ok_some ⟨ty24, fy24⟩
                · intro y22 hyy22
                  obtain ⟨ty22, fy22⟩ := hyy22
                  exact ok_some ⟨ty22, fy22⟩
theorem s_guessSkipped {G : GG} {M : DD} {p : Nat} {w : Int} {L : List Nat} (t : TT G M p w L) {p0 : Int32} {a0 : Int} (i0 : TI p0 a0) (h0 : 0 ≤ a0) (h1 : a0 < 2 * w) : OK (FX9_guessSkipped G M 125 p0) (fun y => TT G y p w L ∧ Fr p [10] M y) := by
  unfold FX9_guessSkipped
  have hw12 : 1 ≤ w ∧ w ≤ 2 := by rcases tt_w t with h | h <;> omega
  refine ok_bnd (s_pieceAt t i0 tn_m1 tn_0 tn_0 (by omega) (by omega) (by omega) (by omega) (by omega) (by omega)) ?_
  intro y1 hyy1
  obtain ⟨ty1, gy1, ly1⟩ := hyy1
  have fy1 := fr_tr (fr_0 p [10] M) gy1 rfl
  have iy1 : TI y1.2 y1.2.toInt := rfl
  refine ok_bnd (s_pieceAt ty1 i0 tn_0 tn_m1 tn_0 (by omega) (by omega) (by omega) (by omega) (by omega) (by omega)) ?_
  intro y2 hyy2
  obtain ⟨ty2, gy2, ly2⟩ := hyy2
  have fy2 := fr_tr fy1 gy2 rfl
  have iy2 : TI y2.2 y2.2.toInt := rfl
  refine ok_ltt (fun M3 eM3 => ?_)
  have tM3 : TT G M3 p w L := by rw [eM3]; exact (tt_gx ty2 (ti_ib tn_0 (by omega) (by omega)))
  have fM3 : Fr p [10] M M3 := by rw [eM3]; exact (fr_w fy2 rfl)
  clear eM3
  refine ok_ltt (fun M4 eM4 => ?_)
  have tM4 : TT G M4 p w L := by rw [eM4]; exact (tt_gy tM3 (ti_ib tn_0 (by omega) (by omega)))
  have fM4 : Fr p [10] M M4 := by rw [eM4]; exact (fr_w fM3 rfl)
  clear eM4
  refine ok_bnd (Q := fun (z : DD) => TT G z p w L ∧ Fr p [10] M z) ?_ ?_
  · refine ok_if (fun c1 => ?_) (fun c1 => ?_)
    · have dc1 := tl_lt iy1 tn_0 c1
      exact ok_some ⟨tM4, fM4⟩
    · have dc1 := tl_nlt iy1 tn_0 c1
      refine ok_bnd (Q := fun (z : DD) => TT G z p w L ∧ Fr p [10] M z) ?_ ?_
      · refine ok_if (fun c2 => ?_) (fun c2 => ?_)
        · have dc2 := tl_lt iy2 tn_0 c2
          exact ok_some ⟨tM4, fM4⟩
        · have dc2 := tl_nlt iy2 tn_0 c2
          refine ok_bnd (s_isAtRest tM4 iy1 (by omega) (by omega)) ?_
          intro y9 hyy9
          obtain ⟨ty9, gy9, _⟩ := hyy9
          have fy9 := fr_tr fM4 gy9 rfl
          refine ok_bnd (Q := fun (z : DD) => TT G z p w L ∧ Fr p [10] M z) ?_ ?_
          · refine ok_if (fun c3 => ?_) (fun c3 => ?_)
            · have dc3 := tl_eq (rfl : TI y9.2 y9.2.toInt) tn_0 c3
              refine ok_bnd (s_isAtRest ty9 iy2 (by omega) (by omega)) ?_
              intro y12 hyy12
              obtain ⟨ty12, gy12, _⟩ := hyy12
              have fy12 := fr_tr fy9 gy12 rfl
              refine ok_bnd (Q := fun (z : DD) => TT G z p w L ∧ Fr p [10] M z) ?_ ?_
              · refine ok_if (fun c4 => ?_) (fun c4 => ?_)
                · have dc4 := tl_eq (rfl : TI y12.2 y12.2.toInt) tn_0 c4
                  refine ok_bnd (s_guess ty12 i0 tn_0 tn_0 tn_0 tn_16 (by omega) (by omega) (by omega) (by omega) (by omega) (by omega) (by omega) (by omega) (by omega)) ?_
                  intro y15 hyy15
                  obtain ⟨ty15, gy15⟩ := hyy15
                  have fy15 := fr_tr fy12 gy15 rfl
                  exact ok_some ⟨ty15, fy15⟩
                · exact ok_some ⟨ty12, fy12⟩
              · intro y13 hyy13
                obtain ⟨ty13, fy13⟩ := hyy13
                exact ok_some ⟨ty13, fy13⟩
            · exact ok_some ⟨ty9, fy9⟩
          · intro y10 hyy10
            obtain ⟨ty10, fy10⟩ := hyy10
            exact ok_some ⟨ty10, fy10⟩
      · intro y7 hyy7
        obtain ⟨ty7, fy7⟩ := hyy7
        exact ok_some ⟨ty7, fy7⟩
  · intro y5 hyy5
    obtain ⟨ty5, fy5⟩ := hyy5
    exact ok_some ⟨ty5, fy5⟩
theorem s_setVector {G : GG} {M : DD} {p : Nat} {w : Int} {L : List Nat} (t : TT G M p w L) {p0 : Int32} {a0 : Int} (i0 : TI p0 a0) {p1 : Int32} {a1 : Int} (i1 : TI p1 a1) {p2 : Int32} {a2 : Int} (i2 : TI p2 a2) {p3 : Int32} {a3 : Int} (i3 : TI p3 a3) {p4 : Int32} {a4 : Int} (i4 : TI p4 a4) (h0 : 0 ≤ a0) (h1 : a0 < 2 * w) (h2 : 0 ≤ a1) (h3 : a1 ≤ 1) (h4 : 0 ≤ a2) (h5 : a2 ≤ 15) (h6 : -2048 ≤ a3) (h7 : a3 ≤ 2047) (h8 : -2048 ≤ a4) (h9 : a4 ≤ 2047) : OK (FX0_setVector G M 116 p0 p1 p2 p3 p4) (fun y => TT G y p w L ∧ Fr p [20, 22] M y) := by
  unfold FX0_setVector
  have hw12 : 1 ≤ w ∧ w ≤ 2 := by rcases tt_w t with h | h <;> omega
  refine ok_dr (f_r (b := 125) t rfl (by decide)) (g_lt t (by decide)) (g_k t (by decide) rfl) ?_
  refine ok_ltI (av_mul tn_16 i1 (by omega) (by omega)) (fun x3 ix3 => ?_)
  refine ok_ltI (av_add ix3 i2 (by omega) (by omega)) (fun x4 ix4 => ?_)
  refine ok_ltI (av_mul tn_2 ix4 (by omega) (by omega)) (fun x5 ix5 => ?_)
  refine ok_ltB (ib_p t (by simp [PYL] : (125, 18, -2048, 2047) ∈ PYL)) (fun x6 lx6 => ?_)
  have ix6 : TI x6 x6.toInt := rfl
  refine ok_ltI (av_sub i3 ix6 (by omega) (by omega)) (fun x7 ix7 => ?_)
  refine ok_dr (f_r (b := 137) t rfl (by decide)) (g_lt t (by decide)) (g_k t (by decide) rfl) ?_
  refine ok_chk (nxg (g_n (i := 137) (n := 64) t (by decide) rfl) ix5 (by omega) (by omega)) ?_
  refine ok_ltt (fun M9 eM9 => ?_)
  have tM9 : TT G M9 p w L := by rw [eM9]; exact (tt_w0 t rfl)
  have fM9 : Fr p [20, 22] M M9 := by rw [eM9]; exact (fr_w (fr_0 p [20, 22] M) rfl)
  clear eM9
  refine ok_dr (f_r (b := 125) tM9 rfl (by decide)) (g_lt tM9 (by decide)) (g_k tM9 (by decide) rfl) ?_
  refine ok_ltI (av_mul tn_16 i1 (by omega) (by omega)) (fun x11 ix11 => ?_)
  refine ok_ltI (av_add ix11 i2 (by omega) (by omega)) (fun x12 ix12 => ?_)
  refine ok_ltI (av_mul tn_2 ix12 (by omega) (by omega)) (fun x13 ix13 => ?_)
  refine ok_ltI (av_add ix13 tn_1 (by omega) (by omega)) (fun x14 ix14 => ?_)
  refine ok_ltB (ib_p tM9 (by simp [PYL] : (125, 19, -2048, 2047) ∈ PYL)) (fun x15 lx15 => ?_)
  have ix15 : TI x15 x15.toInt := rfl
  refine ok_ltI (av_sub i4 ix15 (by omega) (by omega)) (fun x16 ix16 => ?_)
  refine ok_dr (f_r (b := 137) tM9 rfl (by decide)) (g_lt tM9 (by decide)) (g_k tM9 (by decide) rfl) ?_
  refine ok_chk (nxg (g_n (i := 137) (n := 64) tM9 (by decide) rfl) ix14 (by omega) (by omega)) ?_
  refine ok_ltt (fun M18 eM18 => ?_)
  have tM18 : TT G M18 p w L := by rw [eM18]; exact (tt_w0 tM9 rfl)
  have fM18 : Fr p [20, 22] M M18 := by rw [eM18]; exact (fr_w fM9 rfl)
  clear eM18
  refine ok_dr (f_r (b := 125) tM18 rfl (by decide)) (g_lt tM18 (by decide)) (g_k tM18 (by decide) rfl) ?_
  refine ok_bnd (s_setMove tM18 i0 i1 i2 i3 i4 (by omega) (by omega) (by omega) (by omega) (by omega) (by omega) (by omega) (by omega) (by omega) (by omega)) ?_
  intro y20 hyy20
  obtain ⟨ty20, gy20⟩ := hyy20
  have fy20 := fr_tr fM18 gy20 rfl
  exact ok_some ⟨ty20, fy20⟩
theorem s_addGroup {G : GG} {M : DD} {p : Nat} {w : Int} {L : List Nat} (t : TT G M p w L) {p0 : Int32} {a0 : Int} (i0 : TI p0 a0) {p1 : Int32} {a1 : Int} (i1 : TI p1 a1) {p2 : Int32} {a2 : Int} (i2 : TI p2 a2) {p3 : Int32} {a3 : Int} (i3 : TI p3 a3) (h0 : (M.1 125 16).toInt ≤ 3) (h1 : 0 ≤ a0) (h2 : a0 ≤ 16) (h3 : 0 ≤ a1) (h4 : a1 ≤ 16) (h5 : 0 ≤ a2) (h6 : a2 ≤ 16) (h7 : 0 ≤ a3) (h8 : a3 ≤ 16) : OK (FX9_addGroup G M 125 p0 p1 p2 p3) (fun y => TT G y p w L ∧ Fr p [9, 21] M y ∧ ((y.1 125 16).toInt = (M.1 125 16).toInt + 1 ∧ (y.1 125 14).toInt = (M.1 125 14).toInt ∧ 1 ≤ (y.1 125 16).toInt)) := by
  unfold FX9_addGroup
  have hw12 : 1 ≤ w ∧ w ≤ 2 := by rcases tt_w t with h | h <;> omega
  have lx1 := (ib_p t (by simp [PYL] : (125, 16, 0, 4) ∈ PYL))
  refine ok_ltI (rfl : TI (M.1 125 16) (M.1 125 16).toInt) (fun x1 ix1 => ?_)
  refine ok_ltI (av_mul tn_4 ix1 (by omega) (by omega)) (fun x2 ix2 => ?_)
  refine ok_dr (f_r (b := 136) t rfl (by decide)) (g_lt t (by decide)) (g_k t (by decide) rfl) ?_
  refine ok_chk (nxg (g_n (i := 136) (n := 16) t (by decide) rfl) ix2 (by omega) (by omega)) ?_
  refine ok_ltt (fun M4 eM4 => ?_)
  have tM4 : TT G M4 p w L := by rw [eM4]; exact (tt_wt t (0) (16) rfl (by simp [TYL]) (ti_ib i0 (by omega) (by omega)))
  have fM4 : Fr p [9, 21] M M4 := by rw [eM4]; exact (fr_w (fr_0 p [9, 21] M) rfl)
  have w14_M4 : (M4.1 125 14).toInt = (M.1 125 14).toInt := by rw [eM4, uI_n _ _ (by intro h; first | exact absurd h.1 (by decide) | exact absurd h.2 (by decide) | (have := tt_p0 t; omega))]
  have w16_M4 : (M4.1 125 16).toInt = (M.1 125 16).toInt := by rw [eM4, uI_n _ _ (by intro h; first | exact absurd h.1 (by decide) | exact absurd h.2 (by decide) | (have := tt_p0 t; omega))]
  clear eM4
  refine ok_ltI (av_add ix2 tn_1 (by omega) (by omega)) (fun x5 ix5 => ?_)
  refine ok_dr (f_r (b := 136) tM4 rfl (by decide)) (g_lt tM4 (by decide)) (g_k tM4 (by decide) rfl) ?_
  refine ok_chk (nxg (g_n (i := 136) (n := 16) tM4 (by decide) rfl) ix5 (by omega) (by omega)) ?_
  refine ok_ltt (fun M7 eM7 => ?_)
  have tM7 : TT G M7 p w L := by rw [eM7]; exact (tt_wt tM4 (0) (16) rfl (by simp [TYL]) (ti_ib i1 (by omega) (by omega)))
  have fM7 : Fr p [9, 21] M M7 := by rw [eM7]; exact (fr_w fM4 rfl)
  have w14_M7 : (M7.1 125 14).toInt = (M4.1 125 14).toInt := by rw [eM7, uI_n _ _ (by intro h; first | exact absurd h.1 (by decide) | exact absurd h.2 (by decide) | (have := tt_p0 tM4; omega))]
  have w16_M7 : (M7.1 125 16).toInt = (M4.1 125 16).toInt := by rw [eM7, uI_n _ _ (by intro h; first | exact absurd h.1 (by decide) | exact absurd h.2 (by decide) | (have := tt_p0 tM4; omega))]
  clear eM7
  refine ok_ltI (av_add ix2 tn_2 (by omega) (by omega)) (fun x8 ix8 => ?_)
  refine ok_dr (f_r (b := 136) tM7 rfl (by decide)) (g_lt tM7 (by decide)) (g_k tM7 (by decide) rfl) ?_
  refine ok_chk (nxg (g_n (i := 136) (n := 16) tM7 (by decide) rfl) ix8 (by omega) (by omega)) ?_
  refine ok_ltt (fun M10 eM10 => ?_)
  have tM10 : TT G M10 p w L := by rw [eM10]; exact (tt_wt tM7 (0) (16) rfl (by simp [TYL]) (ti_ib i2 (by omega) (by omega)))
  have fM10 : Fr p [9, 21] M M10 := by rw [eM10]; exact (fr_w fM7 rfl)
  have w14_M10 : (M10.1 125 14).toInt = (M7.1 125 14).toInt := by rw [eM10, uI_n _ _ (by intro h; first | exact absurd h.1 (by decide) | exact absurd h.2 (by decide) | (have := tt_p0 tM7; omega))]
  have w16_M10 : (M10.1 125 16).toInt = (M7.1 125 16).toInt := by rw [eM10, uI_n _ _ (by intro h; first | exact absurd h.1 (by decide) | exact absurd h.2 (by decide) | (have := tt_p0 tM7; omega))]
  clear eM10
  refine ok_ltI (av_add ix2 tn_3 (by omega) (by omega)) (fun x11 ix11 => ?_)
  refine ok_dr (f_r (b := 136) tM10 rfl (by decide)) (g_lt tM10 (by decide)) (g_k tM10 (by decide) rfl) ?_
  refine ok_chk (nxg (g_n (i := 136) (n := 16) tM10 (by decide) rfl) ix11 (by omega) (by omega)) ?_
  refine ok_ltt (fun M13 eM13 => ?_)
  have tM13 : TT G M13 p w L := by rw [eM13]; exact (tt_wt tM10 (0) (16) rfl (by simp [TYL]) (ti_ib i3 (by omega) (by omega)))
  have fM13 : Fr p [9, 21] M M13 := by rw [eM13]; exact (fr_w fM10 rfl)
  have w14_M13 : (M13.1 125 14).toInt = (M10.1 125 14).toInt := by rw [eM13, uI_n _ _ (by intro h; first | exact absurd h.1 (by decide) | exact absurd h.2 (by decide) | (have := tt_p0 tM10; omega))]
  have w16_M13 : (M13.1 125 16).toInt = (M10.1 125 16).toInt := by rw [eM13, uI_n _ _ (by intro h; first | exact absurd h.1 (by decide) | exact absurd h.2 (by decide) | (have := tt_p0 tM10; omega))]
  clear eM13
  have lx14 := (ib_p tM13 (by simp [PYL] : (125, 16, 0, 4) ∈ PYL))
  refine ok_ltI (rfl : TI (M13.1 125 16) (M13.1 125 16).toInt) (fun x14 ix14 => ?_)
  refine ok_ltI (av_add ix14 tn_1 (by omega) (by omega)) (fun x15 ix15 => ?_)
  refine ok_ltt (fun M16 eM16 => ?_)
  have tM16 : TT G M16 p w L := by rw [eM16]; exact (tt_groups tM13 (ti_ib ix15 (by omega) (by omega)))
  have fM16 : Fr p [9, 21] M M16 := by rw [eM16]; exact (fr_w fM13 rfl)
  have w14_M16 : (M16.1 125 14).toInt = (M13.1 125 14).toInt := by rw [eM16, uI_n _ _ (by intro h; first | exact absurd h.1 (by decide) | exact absurd h.2 (by decide) | (have := tt_p0 tM13; omega))]
  have w16_M16 := wat eM16 ix15
  clear eM16
  exact ok_some ⟨tM16, fM16, (by (try dsimp only); omega)⟩
theorem s_addPart {G : GG} {M : DD} {p : Nat} {w : Int} {L : List Nat} (t : TT G M p w L) {p0 : Int32} {a0 : Int} (i0 : TI p0 a0) {p1 : Int32} {a1 : Int} (i1 : TI p1 a1) {p2 : Int32} {a2 : Int} (i2 : TI p2 a2) {p3 : Int32} {a3 : Int} (i3 : TI p3 a3) (h0 : (M.1 125 14).toInt ≤ 15) (h1 : 1 ≤ (M.1 125 16).toInt) (h2 : 0 ≤ a0) (h3 : a0 ≤ 16) (h4 : 0 ≤ a1) (h5 : a1 ≤ 16) (h6 : 0 ≤ a2) (h7 : a2 ≤ 16) (h8 : 0 ≤ a3) (h9 : a3 ≤ 16) : OK (FX9_addPart G M 125 p0 p1 p2 p3) (fun y => TT G y p w L ∧ Fr p [9, 21] M y ∧ ((y.1 125 14).toInt = (M.1 125 14).toInt + 1 ∧ (y.1 125 16).toInt = (M.1 125 16).toInt)) := by
  unfold FX9_addPart
  have hw12 : 1 ≤ w ∧ w ≤ 2 := by rcases tt_w t with h | h <;> omega
  have lx1 := (ib_p t (by simp [PYL] : (125, 14, 0, 16) ∈ PYL))
  refine ok_ltI (rfl : TI (M.1 125 14) (M.1 125 14).toInt) (fun x1 ix1 => ?_)
  refine ok_ltI (av_mul tn_5 ix1 (by omega) (by omega)) (fun x2 ix2 => ?_)
  refine ok_dr (f_r (b := 135) t rfl (by decide)) (g_lt t (by decide)) (g_k t (by decide) rfl) ?_
  refine ok_chk (nxg (g_n (i := 135) (n := 80) t (by decide) rfl) ix2 (by omega) (by omega)) ?_
  refine ok_ltt (fun M4 eM4 => ?_)
  have tM4 : TT G M4 p w L := by rw [eM4]; exact (tt_wt t (0) (16) rfl (by simp [TYL]) (ti_ib i0 (by omega) (by omega)))
  have fM4 : Fr p [9, 21] M M4 := by rw [eM4]; exact (fr_w (fr_0 p [9, 21] M) rfl)
  have w14_M4 : (M4.1 125 14).toInt = (M.1 125 14).toInt := by rw [eM4, uI_n _ _ (by intro h; first | exact absurd h.1 (by decide) | exact absurd h.2 (by decide) | (have := tt_p0 t; omega))]
  have w16_M4 : (M4.1 125 16).toInt = (M.1 125 16).toInt := by rw [eM4, uI_n _ _ (by intro h; first | exact absurd h.1 (by decide) | exact absurd h.2 (by decide) | (have := tt_p0 t; omega))]
  clear eM4
  refine ok_ltI (av_add ix2 tn_1 (by omega) (by omega)) (fun x5 ix5 => ?_)
  refine ok_dr (f_r (b := 135) tM4 rfl (by decide)) (g_lt tM4 (by decide)) (g_k tM4 (by decide) rfl) ?_
  refine ok_chk (nxg (g_n (i := 135) (n := 80) tM4 (by decide) rfl) ix5 (by omega) (by omega)) ?_
  refine ok_ltt (fun M7 eM7 => ?_)
  have tM7 : TT G M7 p w L := by rw [eM7]; exact (tt_wt tM4 (0) (16) rfl (by simp [TYL]) (ti_ib i1 (by omega) (by omega)))
  have fM7 : Fr p [9, 21] M M7 := by rw [eM7]; exact (fr_w fM4 rfl)
  have w14_M7 : (M7.1 125 14).toInt = (M4.1 125 14).toInt := by rw [eM7, uI_n _ _ (by intro h; first | exact absurd h.1 (by decide) | exact absurd h.2 (by decide) | (have := tt_p0 tM4; omega))]
  have w16_M7 : (M7.1 125 16).toInt = (M4.1 125 16).toInt := by rw [eM7, uI_n _ _ (by intro h; first | exact absurd h.1 (by decide) | exact absurd h.2 (by decide) | (have := tt_p0 tM4; omega))]
  clear eM7
  refine ok_ltI (av_add ix2 tn_2 (by omega) (by omega)) (fun x8 ix8 => ?_)
  refine ok_dr (f_r (b := 135) tM7 rfl (by decide)) (g_lt tM7 (by decide)) (g_k tM7 (by decide) rfl) ?_
  refine ok_chk (nxg (g_n (i := 135) (n := 80) tM7 (by decide) rfl) ix8 (by omega) (by omega)) ?_
  refine ok_ltt (fun M10 eM10 => ?_)
  have tM10 : TT G M10 p w L := by rw [eM10]; exact (tt_wt tM7 (0) (16) rfl (by simp [TYL]) (ti_ib i2 (by omega) (by omega)))
  have fM10 : Fr p [9, 21] M M10 := by rw [eM10]; exact (fr_w fM7 rfl)
  have w14_M10 : (M10.1 125 14).toInt = (M7.1 125 14).toInt := by rw [eM10, uI_n _ _ (by intro h; first | exact absurd h.1 (by decide) | exact absurd h.2 (by decide) | (have := tt_p0 tM7; omega))]
  have w16_M10 : (M10.1 125 16).toInt = (M7.1 125 16).toInt := by rw [eM10, uI_n _ _ (by intro h; first | exact absurd h.1 (by decide) | exact absurd h.2 (by decide) | (have := tt_p0 tM7; omega))]
  clear eM10
  refine ok_ltI (av_add ix2 tn_3 (by omega) (by omega)) (fun x11 ix11 => ?_)
  have lx12 := (ib_p tM10 (by simp [PYL] : (125, 16, 0, 4) ∈ PYL))
  refine ok_ltI (rfl : TI (M10.1 125 16) (M10.1 125 16).toInt) (fun x12 ix12 => ?_)
  refine ok_ltI (av_mul tn_4 ix12 (by omega) (by omega)) (fun x13 ix13 => ?_)
  refine ok_ltI (av_sub ix13 tn_1 (by omega) (by omega)) (fun x14 ix14 => ?_)
  refine ok_dr (f_r (b := 136) tM10 rfl (by decide)) (g_lt tM10 (by decide)) (g_k tM10 (by decide) rfl) ?_
  refine ok_chk (nxg (g_n (i := 136) (n := 16) tM10 (by decide) rfl) ix14 (by omega) (by omega)) ?_
  refine ok_ltB (ib_t tM10 (by simp [TYL] : (136, 0, 16) ∈ TYL) _) (fun x16 lx16 => ?_)
  have ix16 : TI x16 x16.toInt := rfl
  refine ok_dr (f_r (b := 135) tM10 rfl (by decide)) (g_lt tM10 (by decide)) (g_k tM10 (by decide) rfl) ?_
  refine ok_chk (nxg (g_n (i := 135) (n := 80) tM10 (by decide) rfl) ix11 (by omega) (by omega)) ?_
  refine ok_ltt (fun M18 eM18 => ?_)
  have tM18 : TT G M18 p w L := by rw [eM18]; exact (tt_wt tM10 (0) (16) rfl (by simp [TYL]) (ti_ib ix16 (by omega) (by omega)))
  have fM18 : Fr p [9, 21] M M18 := by rw [eM18]; exact (fr_w fM10 rfl)
  have w14_M18 : (M18.1 125 14).toInt = (M10.1 125 14).toInt := by rw [eM18, uI_n _ _ (by intro h; first | exact absurd h.1 (by decide) | exact absurd h.2 (by decide) | (have := tt_p0 tM10; omega))]
  have w16_M18 : (M18.1 125 16).toInt = (M10.1 125 16).toInt := by rw [eM18, uI_n _ _ (by intro h; first | exact absurd h.1 (by decide) | exact absurd h.2 (by decide) | (have := tt_p0 tM10; omega))]
  clear eM18
  refine ok_ltI (av_add ix2 tn_4 (by omega) (by omega)) (fun x19 ix19 => ?_)
  refine ok_dr (f_r (b := 135) tM18 rfl (by decide)) (g_lt tM18 (by decide)) (g_k tM18 (by decide) rfl) ?_
  refine ok_chk (nxg (g_n (i := 135) (n := 80) tM18 (by decide) rfl) ix19 (by omega) (by omega)) ?_
  refine ok_ltt (fun M21 eM21 => ?_)
  have tM21 : TT G M21 p w L := by rw [eM21]; exact (tt_wt tM18 (0) (16) rfl (by simp [TYL]) (ti_ib i3 (by omega) (by omega)))
  have fM21 : Fr p [9, 21] M M21 := by rw [eM21]; exact (fr_w fM18 rfl)
  have w14_M21 : (M21.1 125 14).toInt = (M18.1 125 14).toInt := by rw [eM21, uI_n _ _ (by intro h; first | exact absurd h.1 (by decide) | exact absurd h.2 (by decide) | (have := tt_p0 tM18; omega))]
  have w16_M21 : (M21.1 125 16).toInt = (M18.1 125 16).toInt := by rw [eM21, uI_n _ _ (by intro h; first | exact absurd h.1 (by decide) | exact absurd h.2 (by decide) | (have := tt_p0 tM18; omega))]
  clear eM21
  have lx22 := (ib_p tM21 (by simp [PYL] : (125, 14, 0, 16) ∈ PYL))
  refine ok_ltI (rfl : TI (M21.1 125 14) (M21.1 125 14).toInt) (fun x22 ix22 => ?_)
  refine ok_ltI (av_add ix22 tn_1 (by omega) (by omega)) (fun x23 ix23 => ?_)
  refine ok_ltt (fun M24 eM24 => ?_)
  have tM24 : TT G M24 p w L := by rw [eM24]; exact (tt_parts tM21 (ti_ib ix23 (by omega) (by omega)))
  have fM24 : Fr p [9, 21] M M24 := by rw [eM24]; exact (fr_w fM21 rfl)
  have w14_M24 := wat eM24 ix23
  have w16_M24 : (M24.1 125 16).toInt = (M21.1 125 16).toInt := by rw [eM24, uI_n _ _ (by intro h; first | exact absurd h.1 (by decide) | exact absurd h.2 (by decide) | (have := tt_p0 tM21; omega))]
  clear eM24
  exact ok_some ⟨tM24, fM24, (by (try dsimp only); omega)⟩
theorem s_planQuarter {G : GG} {M : DD} {p : Nat} {w : Int} {L : List Nat} (t : TT G M p w L) {p0 : Int32} {p1 : Int32} {a1 : Int} (i1 : TI p1 a1) (h0 : 0 ≤ a1) (h1 : a1 ≤ 3) (h2 : (M.1 125 16).toInt ≤ a1) (h3 : (M.1 125 14).toInt ≤ 4 * a1) : OK (FX9_planQuarter G M 125 p0 p1) (fun y => TT G y p w L ∧ Fr p [9, 21] M y ∧ ((y.1 125 16).toInt ≤ a1 + 1 ∧ (y.1 125 14).toInt ≤ 4 * a1 + 4)) := by
  unfold FX9_planQuarter
  have hw12 : 1 ≤ w ∧ w ≤ 2 := by rcases tt_w t with h | h <;> omega
  refine ok_dr (f_r (b := 134) t rfl (by decide)) (g_lt t (by decide)) (g_k t (by decide) rfl) ?_
  refine ok_chk (nxg (g_n (i := 134) (n := 4) t (by decide) rfl) i1 (by omega) (by omega)) ?_
  refine ok_ltB (ib_t t (by simp [TYL] : (134, 0, 12) ∈ TYL) _) (fun x3 lx3 => ?_)
  have ix3 : TI x3 x3.toInt := rfl
  refine ok_bnd (Q := fun (z : Int32) => (0 ≤ z.toInt ∧ z.toInt ≤ 12)) ?_ ?_
  · refine ok_if (fun c1 => ?_) (fun c1 => ?_)
    · have dc1 := tl_eq (rfl : TI p0 p0.toInt) tn_0 c1
      exact ok_some (ti_bd ix3 (by omega) (by omega))
    · refine ok_chk (nx ix3 (by omega) (by omega)) ?_
      refine ok_ltB (tb_17 _) (fun x49 lx49 => ?_)
      have ix49 : TI x49 x49.toInt := rfl
      exact ok_some (ti_bd ix49 (by omega) (by omega))
  · intro y4 hyy4
    have ly4 := hyy4
    have iy4 : TI y4 y4.toInt := rfl
    refine ok_bnd (Q := fun (z : Int32) => (0 ≤ z.toInt ∧ z.toInt ≤ 3)) ?_ ?_
    · refine ok_if (fun c2 => ?_) (fun c2 => ?_)
      · have dc2 := tl_eq (rfl : TI p0 p0.toInt) tn_0 c2
        exact ok_some (ti_bd tn_1 (by omega) (by omega))
      · refine ok_chk (nx ix3 (by omega) (by omega)) ?_
        refine ok_ltB (tb_18 _) (fun x47 lx47 => ?_)
        have ix47 : TI x47 x47.toInt := rfl
        exact ok_some (ti_bd ix47 (by omega) (by omega))
    · intro y5 hyy5
      have ly5 := hyy5
      have iy5 : TI y5 y5.toInt := rfl
      refine ok_if (fun c3 => ?_) (fun c3 => ?_)
      · have dc3 := tl_eq iy5 tn_0 c3
        exact ok_some ⟨t, (fr_0 p [9, 21] M), (by (try dsimp only); omega)⟩
      · refine ok_ltI (av_mul tn_4 i1 (by omega) (by omega)) (fun x7 ix7 => ?_)
        refine ok_bnd (s_addGroup t ix7 tn_8 tn_8 iy5 (by omega) (by omega) (by omega) (by omega) (by omega) (by omega) (by omega) (by omega) (by omega)) ?_
        intro y8 hyy8
        obtain ⟨ty8, gy8, xpy8⟩ := hyy8
        have fy8 := fr_tr (fr_0 p [9, 21] M) gy8 rfl
        refine ok_bnd (Q := fun (z : Int32) => (4 ≤ z.toInt ∧ z.toInt ≤ 8)) ?_ ?_
        · refine ok_if (fun c4 => ?_) (fun c4 => ?_)
          · have dc4 := tl_le iy4 tn_1 c4
            exact ok_some (ti_bd tn_8 (by omega) (by omega))
          · have dc4 := tl_nle iy4 tn_1 c4
            exact ok_some (ti_bd tn_4 (by omega) (by omega))
        · intro y9 hyy9
          have ly9 := hyy9
          have iy9 : TI y9 y9.toInt := rfl
          refine ok_ltI (av_mod iy4 tn_2 (by omega) (by omega)) (fun x10 ix10 => ?_)
          refine ok_bnd (Q := fun (z : Int32) => (4 ≤ z.toInt ∧ z.toInt ≤ 8)) ?_ ?_
          · refine ok_if (fun c5 => ?_) (fun c5 => ?_)
            · have dc5 := tl_eq ix10 tn_1 c5
              exact ok_some (ti_bd tn_4 (by omega) (by omega))
            · exact ok_some (ti_bd tn_8 (by omega) (by omega))
          · intro y11 hyy11
            have ly11 := hyy11
            have iy11 : TI y11 y11.toInt := rfl
            refine ok_bnd (Q := fun (z : Int32 × DD) => (0 ≤ z.1.toInt ∧ z.1.toInt ≤ 5) ∧ TT G z.2 p w L ∧ Fr p [9, 21] M z.2 ∧ ((z.2.1 125 14).toInt ≤ 4 * a1 + z.1.toInt ∧ (z.2.1 125 14).toInt ≤ 4 * a1 + 4 ∧ (z.2.1 125 16).toInt ≤ a1 + 1 ∧ 1 ≤ (z.2.1 125 16).toInt)) (ok_itr (fun (z : Int32 × DD) => (0 ≤ z.1.toInt ∧ z.1.toInt ≤ 5) ∧ TT G z.2 p w L ∧ Fr p [9, 21] M z.2 ∧ ((z.2.1 125 14).toInt ≤ 4 * a1 + z.1.toInt ∧ (z.2.1 125 14).toInt ≤ 4 * a1 + 4 ∧ (z.2.1 125 16).toInt ≤ a1 + 1 ∧ 1 ≤ (z.2.1 125 16).toInt)) (fun z => (4 - z.1.toInt).toNat) ?_ _ _ ?_ ?_) ?_
            · intro s13 hys13
              obtain ⟨ls13_1, ts13_2, fs13_2, hts13⟩ := hys13
              have is13_1 : TI s13.1 s13.1.toInt := rfl
              refine ok_if (fun c6 => ?_) (fun c6 => ?_)
              · have dc6 := tl_le tn_4 is13_1 c6
                exact ok_some ⟨(ti_bd is13_1 (by omega) (by omega)), ts13_2, fs13_2, hts13⟩
              · have dc6 := tl_nle tn_4 is13_1 c6
                refine ok_bnd (Q := fun (z : DD) => TT G z p w L ∧ Fr p [9, 21] M z ∧ ((z.1 125 14).toInt ≤ (s13.2.1 125 14).toInt + 1 ∧ (z.1 125 16).toInt = (s13.2.1 125 16).toInt)) ?_ ?_
                · refine ok_if (fun c7 => ?_) (fun c7 => ?_)
                  · have dc7 := tl_eq iy4 tn_0 c7
                    refine ok_bnd (Q := fun (z : DD) => TT G z p w L ∧ Fr p [9, 21] M z ∧ ((z.1 125 14).toInt ≤ (s13.2.1 125 14).toInt + 1 ∧ (z.1 125 16).toInt = (s13.2.1 125 16).toInt)) ?_ ?_
                    · refine ok_if (fun c8 => ?_) (fun c8 => ?_)
                      · have dc8 := tl_lt tn_0 is13_1 c8
                        exact ok_some ⟨ts13_2, fs13_2, (by (try dsimp only); omega)⟩
                      · have dc8 := tl_nlt tn_0 is13_1 c8
                        refine ok_bnd (Q := fun (z : DD) => TT G z p w L ∧ Fr p [9, 21] M z ∧ ((z.1 125 14).toInt ≤ (s13.2.1 125 14).toInt + 1 ∧ (z.1 125 16).toInt = (s13.2.1 125 16).toInt)) ?_ ?_
                        · refine ok_if (fun c9 => ?_) (fun c9 => ?_)
                          · have dc9 := tl_eq iy4 tn_2 c9
                            exfalso
                            omega
                          · refine ok_ltI (av_mul tn_4 i1 (by omega) (by omega)) (fun x36 ix36 => ?_)
                            refine ok_ltI (av_add ix36 is13_1 (by omega) (by omega)) (fun x37 ix37 => ?_)
                            refine ok_bnd (s_addPart ts13_2 ix37 iy9 iy11 tn_0 (by omega) (by omega) (by omega) (by omega) (by omega) (by omega) (by omega) (by omega) (by omega) (by omega)) ?_
                            intro y38 hyy38
                            obtain ⟨ty38, gy38, xpy38⟩ := hyy38
                            have fy38 := fr_tr fs13_2 gy38 rfl
                            exact ok_some ⟨ty38, fy38, (by (try dsimp only); omega)⟩
                        · intro y34 hyy34
                          obtain ⟨ty34, fy34, jy34⟩ := hyy34
                          exact ok_some ⟨ty34, fy34, (by (try dsimp only); omega)⟩
                    · intro y32 hyy32
                      obtain ⟨ty32, fy32, jy32⟩ := hyy32
                      exact ok_some ⟨ty32, fy32, (by (try dsimp only); omega)⟩
                  · refine ok_bnd (Q := fun (z : DD) => TT G z p w L ∧ Fr p [9, 21] M z ∧ ((z.1 125 14).toInt ≤ (s13.2.1 125 14).toInt + 1 ∧ (z.1 125 16).toInt = (s13.2.1 125 16).toInt)) ?_ ?_
                    · refine ok_if (fun c10 => ?_) (fun c10 => ?_)
                      · have dc10 := tl_eq iy4 tn_2 c10
                        refine ok_bnd (Q := fun (z : DD) => TT G z p w L ∧ Fr p [9, 21] M z ∧ ((z.1 125 14).toInt ≤ (s13.2.1 125 14).toInt + 1 ∧ (z.1 125 16).toInt = (s13.2.1 125 16).toInt)) ?_ ?_
                        · refine ok_if (fun c11 => ?_) (fun c11 => ?_)
                          · have dc11 := tl_le is13_1 tn_1 c11
                            refine ok_ltI (av_mul tn_4 i1 (by omega) (by omega)) (fun x29 ix29 => ?_)
                            refine ok_ltI (av_add ix29 is13_1 (by omega) (by omega)) (fun x30 ix30 => ?_)
                            refine ok_bnd (s_addPart ts13_2 ix30 iy9 iy11 tn_0 (by omega) (by omega) (by omega) (by omega) (by omega) (by omega) (by omega) (by omega) (by omega) (by omega)) ?_
                            intro y31 hyy31
                            obtain ⟨ty31, gy31, xpy31⟩ := hyy31
                            have fy31 := fr_tr fs13_2 gy31 rfl
                            exact ok_some ⟨ty31, fy31, (by (try dsimp only); omega)⟩
                          · have dc11 := tl_nle is13_1 tn_1 c11
                            exact ok_some ⟨ts13_2, fs13_2, (by (try dsimp only); omega)⟩
                        · intro y27 hyy27
                          obtain ⟨ty27, fy27, jy27⟩ := hyy27
                          exact ok_some ⟨ty27, fy27, (by (try dsimp only); omega)⟩
                      · refine ok_ltI (av_mul tn_4 i1 (by omega) (by omega)) (fun x24 ix24 => ?_)
                        refine ok_ltI (av_add ix24 is13_1 (by omega) (by omega)) (fun x25 ix25 => ?_)
                        refine ok_bnd (s_addPart ts13_2 ix25 iy9 iy11 tn_0 (by omega) (by omega) (by omega) (by omega) (by omega) (by omega) (by omega) (by omega) (by omega) (by omega)) ?_
                        intro y26 hyy26
                        obtain ⟨ty26, gy26, xpy26⟩ := hyy26
                        have fy26 := fr_tr fs13_2 gy26 rfl
                        exact ok_some ⟨ty26, fy26, (by (try dsimp only); omega)⟩
                    · intro y22 hyy22
                      obtain ⟨ty22, fy22, jy22⟩ := hyy22
                      exact ok_some ⟨ty22, fy22, (by (try dsimp only); omega)⟩
                · intro y17 hyy17
                  obtain ⟨ty17, fy17, jy17⟩ := hyy17
                  refine ok_bnd (Q := fun (z : Int32) => (1 ≤ z.toInt ∧ z.toInt ≤ 2)) ?_ ?_
                  · refine ok_if (fun c12 => ?_) (fun c12 => ?_)
                    · have dc12 := tl_eq iy4 tn_1 c12
                      exact ok_some (ti_bd tn_2 (by omega) (by omega))
                    · exact ok_some (ti_bd tn_1 (by omega) (by omega))
                  · intro y18 hyy18
                    have ly18 := hyy18
                    have iy18 : TI y18 y18.toInt := rfl
                    refine ok_ltI (av_add is13_1 iy18 (by omega) (by omega)) (fun x19 ix19 => ?_)
                    exact ok_some ⟨⟨(ti_bd ix19 (by omega) (by omega)), ty17, fy17, (by have q : _ = _ := ix19; (try dsimp only); omega)⟩, (mu_up ix19 (by omega) (by omega))⟩
            · exact ⟨(ti_bd tn_0 (by omega) (by omega)), ty8, fy8, (by have q : _ = _ := tn_0; (try dsimp only); omega)⟩
            · exact mu_0 tn_0 (by omega)
            · intro y12 hyy12
              obtain ⟨ly12_1, ty12_2, fy12_2, hty12⟩ := hyy12
              have iy12_1 : TI y12.1 y12.1.toInt := rfl
              exact ok_some ⟨ty12_2, fy12_2, (by (try dsimp only); omega)⟩
theorem s_plan {G : GG} {M : DD} {p : Nat} {w : Int} {L : List Nat} (t : TT G M p w L) {p0 : Int32} {p1 : Int32} {a1 : Int} (i1 : TI p1 a1) (h0 : 0 ≤ a1) (h1 : a1 ≤ 22) : OK (FX9_plan G M 125 p0 p1) (fun y => TT G y p w L ∧ Fr p [9, 21] M y) := by
  unfold FX9_plan
  have hw12 : 1 ≤ w ∧ w ≤ 2 := by rcases tt_w t with h | h <;> omega
  refine ok_ltt (fun M1 eM1 => ?_)
  have tM1 : TT G M1 p w L := by rw [eM1]; exact (tt_parts t (ti_ib tn_0 (by omega) (by omega)))
  have fM1 : Fr p [9, 21] M M1 := by rw [eM1]; exact (fr_w (fr_0 p [9, 21] M) rfl)
  have w14_M1 := wat eM1 tn_0
  have w16_M1 : (M1.1 125 16).toInt = (M.1 125 16).toInt := by rw [eM1, uI_n _ _ (by intro h; first | exact absurd h.1 (by decide) | exact absurd h.2 (by decide) | (have := tt_p0 t; omega))]
  clear eM1
  refine ok_ltt (fun M2 eM2 => ?_)
  have tM2 : TT G M2 p w L := by rw [eM2]; exact (tt_groups tM1 (ti_ib tn_0 (by omega) (by omega)))
  have fM2 : Fr p [9, 21] M M2 := by rw [eM2]; exact (fr_w fM1 rfl)
  have w14_M2 : (M2.1 125 14).toInt = (M1.1 125 14).toInt := by rw [eM2, uI_n _ _ (by intro h; first | exact absurd h.1 (by decide) | exact absurd h.2 (by decide) | (have := tt_p0 tM1; omega))]
  have w16_M2 := wat eM2 tn_0
  clear eM2
  refine ok_if (fun c1 => ?_) (fun c1 => ?_)
  · have dc1 := tl_eq (rfl : TI p0 p0.toInt) tn_0 c1
    refine ok_if (fun c2 => ?_) (fun c2 => ?_)
    · have dc2 := tl_le i1 tn_2 c2
      refine ok_bnd (Q := fun (z : Int32) => (0 ≤ z.toInt ∧ z.toInt ≤ 2)) ?_ ?_
      · refine ok_if (fun c3 => ?_) (fun c3 => ?_)
        · have dc3 := tl_eq (rfl : TI p0 p0.toInt) tn_0 c3
          exact ok_some (ti_bd i1 (by omega) (by omega))
        · have dc3 := tl_ne (rfl : TI p0 p0.toInt) tn_0 c3
          exfalso
          omega
      · intro y46 hyy46
        have ly46 := hyy46
        have iy46 : TI y46 y46.toInt := rfl
        refine ok_ltI (av_sub i1 tn_4 (by omega) (by omega)) (fun x47 ix47 => ?_)
        refine ok_ltI (av_m2 ix47 (by omega) (by omega)) (fun x48 ix48 => ?_)
        refine ok_bnd (Q := fun (z : Int32) => (1 ≤ z.toInt ∧ z.toInt ≤ 1)) ?_ ?_
        · refine ok_if (fun c4 => ?_) (fun c4 => ?_)
          · have dc4 := tl_eq (rfl : TI p0 p0.toInt) tn_0 c4
            exact ok_some (ti_bd tn_1 (by omega) (by omega))
          · have dc4 := tl_ne (rfl : TI p0 p0.toInt) tn_0 c4
            exfalso
            omega
        · intro y49 hyy49
          have ly49 := hyy49
          have iy49 : TI y49 (1) := ti_c ly49
          refine ok_bnd (Q := fun (z : Int32) => (1 ≤ z.toInt ∧ z.toInt ≤ 1)) ?_ ?_
          · refine ok_if (fun c5 => ?_) (fun c5 => ?_)
            · have dc5 := tl_eq (rfl : TI p0 p0.toInt) tn_0 c5
              exact ok_some (ti_bd iy49 (by omega) (by omega))
            · have dc5 := tl_ne (rfl : TI p0 p0.toInt) tn_0 c5
              exfalso
              omega
          · intro y50 hyy50
            have ly50 := hyy50
            have iy50 : TI y50 (1) := ti_c ly50
            refine ok_bnd (Q := fun (z : DD) => TT G z p w L ∧ Fr p [9, 21] M z) ?_ ?_
            · refine ok_if (fun c6 => ?_) (fun c6 => ?_)
              · have dc6 := tl_eq iy46 tn_0 c6
                refine ok_bnd (s_addGroup tM2 tn_0 tn_16 tn_16 iy49 (by omega) (by omega) (by omega) (by omega) (by omega) (by omega) (by omega) (by omega) (by omega)) ?_
                intro y63 hyy63
                obtain ⟨ty63, gy63, xpy63⟩ := hyy63
                have fy63 := fr_tr fM2 gy63 rfl
                refine ok_bnd (s_addPart ty63 tn_0 tn_16 tn_16 tn_0 (by omega) (by omega) (by omega) (by omega) (by omega) (by omega) (by omega) (by omega) (by omega) (by omega)) ?_
                intro y64 hyy64
                obtain ⟨ty64, gy64, xpy64⟩ := hyy64
                have fy64 := fr_tr fy63 gy64 rfl
                exact ok_some ⟨ty64, fy64⟩
              · have dc6 := tl_ne iy46 tn_0 c6
                refine ok_bnd (Q := fun (z : DD) => TT G z p w L ∧ Fr p [9, 21] M z) ?_ ?_
                · refine ok_if (fun c7 => ?_) (fun c7 => ?_)
                  · have dc7 := tl_eq iy46 tn_1 c7
                    refine ok_bnd (s_addGroup tM2 tn_0 tn_16 tn_8 iy49 (by omega) (by omega) (by omega) (by omega) (by omega) (by omega) (by omega) (by omega) (by omega)) ?_
                    intro y59 hyy59
                    obtain ⟨ty59, gy59, xpy59⟩ := hyy59
                    have fy59 := fr_tr fM2 gy59 rfl
                    refine ok_bnd (s_addPart ty59 tn_0 tn_16 tn_8 tn_1 (by omega) (by omega) (by omega) (by omega) (by omega) (by omega) (by omega) (by omega) (by omega) (by omega)) ?_
                    intro y60 hyy60
                    obtain ⟨ty60, gy60, xpy60⟩ := hyy60
                    have fy60 := fr_tr fy59 gy60 rfl
                    refine ok_bnd (s_addGroup ty60 tn_8 tn_16 tn_8 iy50 (by omega) (by omega) (by omega) (by omega) (by omega) (by omega) (by omega) (by omega) (by omega)) ?_
                    intro y61 hyy61
                    obtain ⟨ty61, gy61, xpy61⟩ := hyy61
                    have fy61 := fr_tr fy60 gy61 rfl
                    refine ok_bnd (s_addPart ty61 tn_8 tn_16 tn_8 tn_2 (by omega) (by omega) (by omega) (by omega) (by omega) (by omega) (by omega) (by omega) (by omega) (by omega)) ?_
                    intro y62 hyy62
                    obtain ⟨ty62, gy62, xpy62⟩ := hyy62
                    have fy62 := fr_tr fy61 gy62 rfl
                    exact ok_some ⟨ty62, fy62⟩
                  · have dc7 := tl_ne iy46 tn_1 c7
                    refine ok_bnd (s_addGroup tM2 tn_0 tn_8 tn_16 iy49 (by omega) (by omega) (by omega) (by omega) (by omega) (by omega) (by omega) (by omega) (by omega)) ?_
                    intro y55 hyy55
                    obtain ⟨ty55, gy55, xpy55⟩ := hyy55
                    have fy55 := fr_tr fM2 gy55 rfl
                    refine ok_bnd (s_addPart ty55 tn_0 tn_8 tn_16 tn_3 (by omega) (by omega) (by omega) (by omega) (by omega) (by omega) (by omega) (by omega) (by omega) (by omega)) ?_
                    intro y56 hyy56
                    obtain ⟨ty56, gy56, xpy56⟩ := hyy56
                    have fy56 := fr_tr fy55 gy56 rfl
                    refine ok_bnd (s_addGroup ty56 tn_4 tn_8 tn_16 iy50 (by omega) (by omega) (by omega) (by omega) (by omega) (by omega) (by omega) (by omega) (by omega)) ?_
                    intro y57 hyy57
                    obtain ⟨ty57, gy57, xpy57⟩ := hyy57
                    have fy57 := fr_tr fy56 gy57 rfl
                    refine ok_bnd (s_addPart ty57 tn_4 tn_8 tn_16 tn_4 (by omega) (by omega) (by omega) (by omega) (by omega) (by omega) (by omega) (by omega) (by omega) (by omega)) ?_
                    intro y58 hyy58
                    obtain ⟨ty58, gy58, xpy58⟩ := hyy58
                    have fy58 := fr_tr fy57 gy58 rfl
                    exact ok_some ⟨ty58, fy58⟩
                · intro y53 hyy53
                  obtain ⟨ty53, fy53⟩ := hyy53
                  exact ok_some ⟨ty53, fy53⟩
            · intro y51 hyy51
              obtain ⟨ty51, fy51⟩ := hyy51
              exact ok_some ⟨ty51, fy51⟩
    · have dc2 := tl_nle i1 tn_2 c2
      refine ok_bnd (Q := fun (z : Int32 × DD) => (0 ≤ z.1.toInt ∧ z.1.toInt ≤ 4) ∧ TT G z.2 p w L ∧ Fr p [9, 21] M z.2) (ok_itr (fun (z : Int32 × DD) => (0 ≤ z.1.toInt ∧ z.1.toInt ≤ 4) ∧ TT G z.2 p w L ∧ Fr p [9, 21] M z.2 ∧ ((z.2.1 125 16).toInt ≤ z.1.toInt ∧ (z.2.1 125 14).toInt ≤ 4 * z.1.toInt)) (fun z => (4 - z.1.toInt).toNat) ?_ _ _ ?_ ?_) ?_
      · intro s80 hys80
        obtain ⟨ls80_1, ts80_2, fs80_2, hts80⟩ := hys80
        have is80_1 : TI s80.1 s80.1.toInt := rfl
        refine ok_if (fun c8 => ?_) (fun c8 => ?_)
        · have dc8 := tl_le tn_4 is80_1 c8
          exact ok_some ⟨(ti_bd is80_1 (by omega) (by omega)), ts80_2, fs80_2⟩
        · have dc8 := tl_nle tn_4 is80_1 c8
          refine ok_bnd (s_planQuarter ts80_2 is80_1 (by omega) (by omega) (by omega) (by omega)) ?_
          intro y84 hyy84
          obtain ⟨ty84, gy84, xpy84⟩ := hyy84
          have fy84 := fr_tr fs80_2 gy84 rfl
          refine ok_ltI (av_add is80_1 tn_1 (by omega) (by omega)) (fun x85 ix85 => ?_)
          exact ok_some ⟨⟨(ti_bd ix85 (by omega) (by omega)), ty84, fy84, (by have q : _ = _ := ix85; (try dsimp only); omega)⟩, (mu_up ix85 (by omega) (by omega))⟩
      · exact ⟨(ti_bd tn_0 (by omega) (by omega)), tM2, fM2, (by have q : _ = _ := tn_0; (try dsimp only); omega)⟩
      · exact mu_0 tn_0 (by omega)
      · intro y79 hyy79
        obtain ⟨ly79_1, ty79_2, fy79_2⟩ := hyy79
        have iy79_1 : TI y79.1 y79.1.toInt := rfl
        exact ok_some ⟨ty79_2, fy79_2⟩
  · have dc1 := tl_ne (rfl : TI p0 p0.toInt) tn_0 c1
    refine ok_if (fun c9 => ?_) (fun c9 => ?_)
    · have dc9 := tl_eq i1 tn_22 c9
      refine ok_bnd (Q := fun (z : Int32 × DD) => (0 ≤ z.1.toInt ∧ z.1.toInt ≤ 4) ∧ TT G z.2 p w L ∧ Fr p [9, 21] M z.2) (ok_itr (fun (z : Int32 × DD) => (0 ≤ z.1.toInt ∧ z.1.toInt ≤ 4) ∧ TT G z.2 p w L ∧ Fr p [9, 21] M z.2 ∧ ((z.2.1 125 16).toInt ≤ z.1.toInt ∧ (z.2.1 125 14).toInt ≤ 4 * z.1.toInt)) (fun z => (4 - z.1.toInt).toNat) ?_ _ _ ?_ ?_) ?_
      · intro s39 hys39
        obtain ⟨ls39_1, ts39_2, fs39_2, hts39⟩ := hys39
        have is39_1 : TI s39.1 s39.1.toInt := rfl
        refine ok_if (fun c10 => ?_) (fun c10 => ?_)
        · have dc10 := tl_le tn_4 is39_1 c10
          exact ok_some ⟨(ti_bd is39_1 (by omega) (by omega)), ts39_2, fs39_2⟩
        · have dc10 := tl_nle tn_4 is39_1 c10
          refine ok_bnd (s_planQuarter ts39_2 is39_1 (by omega) (by omega) (by omega) (by omega)) ?_
          intro y43 hyy43
          obtain ⟨ty43, gy43, xpy43⟩ := hyy43
          have fy43 := fr_tr fs39_2 gy43 rfl
          refine ok_ltI (av_add is39_1 tn_1 (by omega) (by omega)) (fun x44 ix44 => ?_)
          exact ok_some ⟨⟨(ti_bd ix44 (by omega) (by omega)), ty43, fy43, (by have q : _ = _ := ix44; (try dsimp only); omega)⟩, (mu_up ix44 (by omega) (by omega))⟩
      · exact ⟨(ti_bd tn_0 (by omega) (by omega)), tM2, fM2, (by have q : _ = _ := tn_0; (try dsimp only); omega)⟩
      · exact mu_0 tn_0 (by omega)
      · intro y38 hyy38
        obtain ⟨ly38_1, ty38_2, fy38_2⟩ := hyy38
        have iy38_1 : TI y38.1 y38.1.toInt := rfl
        exact ok_some ⟨ty38_2, fy38_2⟩
    · have dc9 := tl_ne i1 tn_22 c9
      refine ok_bnd (Q := fun (z : Int32) => (0 ≤ z.toInt ∧ z.toInt ≤ 21)) ?_ ?_
      · refine ok_if (fun c11 => ?_) (fun c11 => ?_)
        · have dc11 := tl_eq (rfl : TI p0 p0.toInt) tn_0 c11
          exact ok_some (ti_bd i1 (by omega) (by omega))
        · have dc11 := tl_ne (rfl : TI p0 p0.toInt) tn_0 c11
          refine ok_bnd (Q := fun (z : Int32) => (0 ≤ z.toInt ∧ z.toInt ≤ 2)) ?_ ?_
          · refine ok_if (fun c12 => ?_) (fun c12 => ?_)
            · have dc12 := tl_le tn_4 i1 c12
              refine ok_ltI (av_mod i1 tn_2 (by omega) (by omega)) (fun x36 ix36 => ?_)
              refine ok_ltI (av_add tn_1 ix36 (by omega) (by omega)) (fun x37 ix37 => ?_)
              exact ok_some (ti_bd ix37 (by omega) (by omega))
            · have dc12 := tl_nle tn_4 i1 c12
              exact ok_some (ti_bd tn_0 (by omega) (by omega))
          · intro y34 hyy34
            have ly34 := hyy34
            have iy34 : TI y34 y34.toInt := rfl
            exact ok_some (ti_bd iy34 (by omega) (by omega))
      · intro y5 hyy5
        have ly5 := hyy5
        have iy5 : TI y5 y5.toInt := rfl
        refine ok_ltI (av_sub i1 tn_4 (by omega) (by omega)) (fun x6 ix6 => ?_)
        refine ok_ltI (av_m2 ix6 (by omega) (by omega)) (fun x7 ix7 => ?_)
        refine ok_bnd (Q := fun (z : Int32) => (0 ≤ z.toInt ∧ z.toInt ≤ 3)) ?_ ?_
        · refine ok_if (fun c13 => ?_) (fun c13 => ?_)
          · have dc13 := tl_eq (rfl : TI p0 p0.toInt) tn_0 c13
            exact ok_some (ti_bd tn_1 (by omega) (by omega))
          · have dc13 := tl_ne (rfl : TI p0 p0.toInt) tn_0 c13
            refine ok_bnd (Q := fun (z : Int32) => (0 ≤ z.toInt ∧ z.toInt ≤ 3)) ?_ ?_
            · refine ok_if (fun c14 => ?_) (fun c14 => ?_)
              · have dc14 := tl_le tn_4 i1 c14
                refine ok_chk (nx ix7 (by omega) (by omega)) ?_
                refine ok_ltB (tb_16 _) (fun x32 lx32 => ?_)
                have ix32 : TI x32 x32.toInt := rfl
                exact ok_some (ti_bd ix32 (by omega) (by omega))
              · have dc14 := tl_nle tn_4 i1 c14
                exact ok_some (ti_bd i1 (by omega) (by omega))
            · intro y30 hyy30
              have ly30 := hyy30
              have iy30 : TI y30 y30.toInt := rfl
              exact ok_some (ti_bd iy30 (by omega) (by omega))
        · intro y8 hyy8
          have ly8 := hyy8
          have iy8 : TI y8 y8.toInt := rfl
          refine ok_bnd (Q := fun (z : Int32) => (0 ≤ z.toInt ∧ z.toInt ≤ 3)) ?_ ?_
          · refine ok_if (fun c15 => ?_) (fun c15 => ?_)
            · have dc15 := tl_eq (rfl : TI p0 p0.toInt) tn_0 c15
              exact ok_some (ti_bd iy8 (by omega) (by omega))
            · have dc15 := tl_ne (rfl : TI p0 p0.toInt) tn_0 c15
              refine ok_bnd (Q := fun (z : Int32) => (0 ≤ z.toInt ∧ z.toInt ≤ 3)) ?_ ?_
              · refine ok_if (fun c16 => ?_) (fun c16 => ?_)
                · have dc16 := tl_le tn_4 i1 c16
                  refine ok_ltI (av_add ix7 tn_1 (by omega) (by omega)) (fun x27 ix27 => ?_)
                  refine ok_chk (nx ix27 (by omega) (by omega)) ?_
                  refine ok_ltB (tb_16 _) (fun x28 lx28 => ?_)
                  have ix28 : TI x28 x28.toInt := rfl
                  exact ok_some (ti_bd ix28 (by omega) (by omega))
                · have dc16 := tl_nle tn_4 i1 c16
                  exact ok_some (ti_bd iy8 (by omega) (by omega))
              · intro y25 hyy25
                have ly25 := hyy25
                have iy25 : TI y25 y25.toInt := rfl
                exact ok_some (ti_bd iy25 (by omega) (by omega))
          · intro y9 hyy9
            have ly9 := hyy9
            have iy9 : TI y9 y9.toInt := rfl
            refine ok_bnd (Q := fun (z : DD) => TT G z p w L ∧ Fr p [9, 21] M z) ?_ ?_
            · refine ok_if (fun c17 => ?_) (fun c17 => ?_)
              · have dc17 := tl_eq iy5 tn_0 c17
                refine ok_bnd (s_addGroup tM2 tn_0 tn_16 tn_16 iy8 (by omega) (by omega) (by omega) (by omega) (by omega) (by omega) (by omega) (by omega) (by omega)) ?_
                intro y22 hyy22
                obtain ⟨ty22, gy22, xpy22⟩ := hyy22
                have fy22 := fr_tr fM2 gy22 rfl
                refine ok_bnd (s_addPart ty22 tn_0 tn_16 tn_16 tn_0 (by omega) (by omega) (by omega) (by omega) (by omega) (by omega) (by omega) (by omega) (by omega) (by omega)) ?_
                intro y23 hyy23
                obtain ⟨ty23, gy23, xpy23⟩ := hyy23
                have fy23 := fr_tr fy22 gy23 rfl
                exact ok_some ⟨ty23, fy23⟩
              · have dc17 := tl_ne iy5 tn_0 c17
                refine ok_bnd (Q := fun (z : DD) => TT G z p w L ∧ Fr p [9, 21] M z) ?_ ?_
                · refine ok_if (fun c18 => ?_) (fun c18 => ?_)
                  · have dc18 := tl_eq iy5 tn_1 c18
                    refine ok_bnd (s_addGroup tM2 tn_0 tn_16 tn_8 iy8 (by omega) (by omega) (by omega) (by omega) (by omega) (by omega) (by omega) (by omega) (by omega)) ?_
                    intro y18 hyy18
                    obtain ⟨ty18, gy18, xpy18⟩ := hyy18
                    have fy18 := fr_tr fM2 gy18 rfl
                    refine ok_bnd (s_addPart ty18 tn_0 tn_16 tn_8 tn_1 (by omega) (by omega) (by omega) (by omega) (by omega) (by omega) (by omega) (by omega) (by omega) (by omega)) ?_
                    intro y19 hyy19
                    obtain ⟨ty19, gy19, xpy19⟩ := hyy19
                    have fy19 := fr_tr fy18 gy19 rfl
                    refine ok_bnd (s_addGroup ty19 tn_8 tn_16 tn_8 iy9 (by omega) (by omega) (by omega) (by omega) (by omega) (by omega) (by omega) (by omega) (by omega)) ?_
                    intro y20 hyy20
                    obtain ⟨ty20, gy20, xpy20⟩ := hyy20
                    have fy20 := fr_tr fy19 gy20 rfl
                    refine ok_bnd (s_addPart ty20 tn_8 tn_16 tn_8 tn_2 (by omega) (by omega) (by omega) (by omega) (by omega) (by omega) (by omega) (by omega) (by omega) (by omega)) ?_
                    intro y21 hyy21
                    obtain ⟨ty21, gy21, xpy21⟩ := hyy21
                    have fy21 := fr_tr fy20 gy21 rfl
                    exact ok_some ⟨ty21, fy21⟩
                  · have dc18 := tl_ne iy5 tn_1 c18
                    refine ok_bnd (s_addGroup tM2 tn_0 tn_8 tn_16 iy8 (by omega) (by omega) (by omega) (by omega) (by omega) (by omega) (by omega) (by omega) (by omega)) ?_
                    intro y14 hyy14
                    obtain ⟨ty14, gy14, xpy14⟩ := hyy14
                    have fy14 := fr_tr fM2 gy14 rfl
                    refine ok_bnd (s_addPart ty14 tn_0 tn_8 tn_16 tn_3 (by omega) (by omega) (by omega) (by omega) (by omega) (by omega) (by omega) (by omega) (by omega) (by omega)) ?_
                    intro y15 hyy15
                    obtain ⟨ty15, gy15, xpy15⟩ := hyy15
                    have fy15 := fr_tr fy14 gy15 rfl
                    refine ok_bnd (s_addGroup ty15 tn_4 tn_8 tn_16 iy9 (by omega) (by omega) (by omega) (by omega) (by omega) (by omega) (by omega) (by omega) (by omega)) ?_
                    intro y16 hyy16
                    obtain ⟨ty16, gy16, xpy16⟩ := hyy16
                    have fy16 := fr_tr fy15 gy16 rfl
                    refine ok_bnd (s_addPart ty16 tn_4 tn_8 tn_16 tn_4 (by omega) (by omega) (by omega) (by omega) (by omega) (by omega) (by omega) (by omega) (by omega) (by omega)) ?_
                    intro y17 hyy17
                    obtain ⟨ty17, gy17, xpy17⟩ := hyy17
                    have fy17 := fr_tr fy16 gy17 rfl
                    exact ok_some ⟨ty17, fy17⟩
                · intro y12 hyy12
                  obtain ⟨ty12, fy12⟩ := hyy12
                  exact ok_some ⟨ty12, fy12⟩
            · intro y10 hyy10
              obtain ⟨ty10, fy10⟩ := hyy10
              exact ok_some ⟨ty10, fy10⟩
theorem s_skip {G : GG} {M : DD} {p : Nat} {w : Int} {L : List Nat} (t : TT G M p w L) {p0 : Int32} {a0 : Int} (i0 : TI p0 a0) (h0 : 0 ≤ a0) (h1 : a0 < 2 * w) : OK (FX9_skip G M 125 p0) (fun y => TT G y p w L ∧ Fr p [9, 10, 17, 19, 20, 21] M y) := by
  unfold FX9_skip
  have hw12 : 1 ≤ w ∧ w ≤ 2 := by rcases tt_w t with h | h <;> omega
  refine ok_bnd (s_guessSkipped t i0 (by omega) (by omega)) ?_
  intro y1 hyy1
  obtain ⟨ty1, gy1⟩ := hyy1
  have fy1 := fr_tr (fr_0 p [9, 10, 17, 19, 20, 21] M) gy1 rfl
  refine ok_bnd (s_plan ty1 tn_0 (by omega) (by omega)) ?_
  intro y2 hyy2
  obtain ⟨ty2, gy2⟩ := hyy2
  have fy2 := fr_tr fy1 gy2 rfl
  refine ok_bnd (s_setReference ty2 i0 tn_0 tn_0 tn_0 (by omega) (by omega) (by omega) (by omega) (by omega) (by omega) (by omega) (by omega)) ?_
  intro y3 hyy3
  obtain ⟨ty3, gy3⟩ := hyy3
  have fy3 := fr_tr fy2 gy3 rfl
  refine ok_ltB (ib_p ty3 (by simp [PYL] : (125, 18, -2048, 2047) ∈ PYL)) (fun x4 lx4 => ?_)
  have ix4 : TI x4 x4.toInt := rfl
  refine ok_ltB (ib_p ty3 (by simp [PYL] : (125, 19, -2048, 2047) ∈ PYL)) (fun x5 lx5 => ?_)
  have ix5 : TI x5 x5.toInt := rfl
  refine ok_bnd (s_setMove ty3 i0 tn_0 tn_0 ix4 ix5 (by omega) (by omega) (by omega) (by omega) (by omega) (by omega) (by omega) (by omega) (by omega) (by omega)) ?_
  intro y6 hyy6
  obtain ⟨ty6, gy6⟩ := hyy6
  have fy6 := fr_tr fy3 gy6 rfl
  exact ok_some ⟨ty6, fy6⟩
