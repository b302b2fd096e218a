/-! safety of the coder's functions, printed out of their trees -/
theorem s_drawByLists {G : GG} {M : DD} {p : Nat} {w : Int} {L : List Nat} (t : TT G M p w L) {p0 : Int32} {a0 : Int} (i0 : TI p0 a0) {p1 : Int32} {a1 : Int} (i1 : TI p1 a1) {p2 : Int32} {a2 : Int} (i2 : TI p2 a2) (h0 : 0 ≤ a0) (h1 : a0 < 2 * w) (h2 : -1 ≤ a2) (h3 : a2 ≤ 22) (hox : a1 = 1 → HOS M p) : OK (FX0_drawByLists G M 116 p0 p1 p2) (fun y => TT G y p w L ∧ Fr p [3, 8, 9, 10, 12, 17, 19, 20, 21, 22] M y) := by
  unfold FX0_drawByLists
  have hw12 : 1 ≤ w ∧ w ≤ 2 := by rcases tt_w t with h | h <;> omega
  refine ok_bnd (Q := fun (z : Int32) => (0 ≤ z.toInt ∧ z.toInt ≤ 15) ∧ (z.toInt ≠ 0 → a1 = 1)) ?_ ?_
  · refine ok_if (fun c1 => ?_) (fun c1 => ?_)
    · have dc1 := tl_eq i1 tn_1 c1
      refine ok_bnd (Q := fun (z : Int32) => (0 ≤ z.toInt ∧ z.toInt ≤ 15)) ?_ ?_
      · refine ok_if (fun c2 => ?_) (fun c2 => ?_)
        · have dc2 := tl_le tn_1 i2 c2
          exact ok_some (ti_bd tn_0 (by omega) (by omega))
        · have dc2 := tl_nle tn_1 i2 c2
          exact ok_some (ti_bd tn_15 (by omega) (by omega))
      · intro y67 hyy67
        have ly67 := hyy67
        have iy67 : TI y67 y67.toInt := rfl
        exact ok_some ⟨(ti_bd iy67 (by omega) (by omega)), (by have q : _ = _ := iy67; (try dsimp only); omega)⟩
    · have dc1 := tl_ne i1 tn_1 c1
      exact ok_some ⟨(ti_bd tn_0 (by omega) (by omega)), (by have q : _ = _ := tn_0; (try dsimp only); omega)⟩
  · intro y1 hyy1
    obtain ⟨ly1, jy1⟩ := hyy1
    have iy1 : TI y1 y1.toInt := rfl
    refine ok_bnd (Q := fun (z : Int32 × Int32 × DD) => (-1 ≤ z.1.toInt ∧ z.1.toInt ≤ 22) ∧ (0 ≤ z.2.1.toInt ∧ z.2.1.toInt ≤ 15) ∧ TT G z.2.2 p w L ∧ Fr p [3, 8, 9, 10, 12, 17, 19, 20, 21, 22] M z.2.2 ∧ (z.2.1.toInt ≠ 0 → a1 = 1)) ?_ ?_
    · refine ok_if (fun c3 => ?_) (fun c3 => ?_)
      · have dc3 := tl_eq iy1 tn_15 c3
        refine ok_dr (f_r (b := 125) t rfl (by decide)) (g_lt t (by decide)) (g_k t (by decide) rfl) ?_
        refine ok_bnd (s_direct t i0 (by omega) (by omega) (ho_tr t (fr_0 p [3, 8, 9, 10, 12, 17, 19, 20, 21, 22] M) (hox (by omega)) rfl)) ?_
        intro y63 hyy63
        obtain ⟨ty63, gy63, ly63⟩ := hyy63
        have fy63 := fr_tr (fr_0 p [3, 8, 9, 10, 12, 17, 19, 20, 21, 22] M) gy63 rfl
        have iy63 : TI y63.2 y63.2.toInt := rfl
        refine ok_bnd (Q := fun (z : Int32 × Int32) => (-1 ≤ z.1.toInt ∧ z.1.toInt ≤ 22) ∧ (0 ≤ z.2.toInt ∧ z.2.toInt ≤ 15) ∧ (z.2.toInt ≠ 0 → a1 = 1)) ?_ ?_
        · refine ok_if (fun c4 => ?_) (fun c4 => ?_)
          · have dc4 := tl_eq iy63 tn_0 c4
            exact ok_some ⟨(ti_bd tn_1 (by omega) (by omega)), (ti_bd tn_0 (by omega) (by omega)), (by have q0 : _ = _ := tn_1; have q1 : _ = _ := tn_0; (try dsimp only); omega)⟩
          · have dc4 := tl_ne iy63 tn_0 c4
            exact ok_some ⟨(ti_bd i2 (by omega) (by omega)), (ti_bd iy1 (by omega) (by omega)), (by have q0 : _ = _ := i2; have q1 : _ = _ := iy1; (try dsimp only); omega)⟩
        · intro y64 hyy64
          obtain ⟨ly64_1, ly64_2, jy64⟩ := hyy64
          have iy64_1 : TI y64.1 y64.1.toInt := rfl
          have iy64_2 : TI y64.2 y64.2.toInt := rfl
          exact ok_some ⟨(ti_bd iy64_1 (by omega) (by omega)), (ti_bd iy64_2 (by omega) (by omega)), ty63, fy63, (by have q0 : _ = _ := iy64_1; have q1 : _ = _ := iy64_2; (try dsimp only); omega)⟩
      · have dc3 := tl_ne iy1 tn_15 c3
        exact ok_some ⟨(ti_bd i2 (by omega) (by omega)), (ti_bd iy1 (by omega) (by omega)), t, (fr_0 p [3, 8, 9, 10, 12, 17, 19, 20, 21, 22] M), (by have q0 : _ = _ := i2; have q1 : _ = _ := iy1; (try dsimp only); omega)⟩
    · intro y2 hyy2
      obtain ⟨ly2_1, ly2_2_1, ty2_2_2, fy2_2_2, jy2⟩ := hyy2
      have iy2_1 : TI y2.1 y2.1.toInt := rfl
      have iy2_2_1 : TI y2.2.1 y2.2.1.toInt := rfl
      refine ok_bnd (Q := fun (z : Int32 × DD) => True ∧ TT G z.2 p w L ∧ Fr p [3, 8, 9, 10, 12, 17, 19, 20, 21, 22] M z.2 ∧ (z.1.toInt ≠ 0 → a1 = 1)) ?_ ?_
      · refine ok_if (fun c5 => ?_) (fun c5 => ?_)
        · have dc5 := tl_eq i1 tn_0 c5
          refine ok_bnd (Q := fun (z : Int32 × DD) => True ∧ TT G z.2 p w L ∧ Fr p [3, 8, 9, 10, 12, 17, 19, 20, 21, 22] M z.2 ∧ (z.1.toInt ≠ 0 → a1 = 1)) ?_ ?_
          · refine ok_if (fun c6 => ?_) (fun c6 => ?_)
            · have dc6 := tl_eq iy2_1 tn_3 c6
              refine ok_bnd (s_drawSubs ty2_2_2 i0 i1 (by omega) (by omega) (fun h => ho_tr ty2_2_2 fy2_2_2 (hox h) rfl)) ?_
              intro y60 hyy60
              obtain ⟨ty60, gy60, ly60⟩ := hyy60
              have fy60 := fr_tr fy2_2_2 gy60 rfl
              have iy60 : TI y60.2 y60.2.toInt := rfl
              exact ok_some ⟨trivial, ty60, fy60, (by have q0 : _ = _ := iy60; (try dsimp only); omega)⟩
            · have dc6 := tl_ne iy2_1 tn_3 c6
              exact ok_some ⟨trivial, ty2_2_2, fy2_2_2, (by have q0 : _ = _ := iy2_2_1; (try dsimp only); omega)⟩
          · intro y58 hyy58
            obtain ⟨_, ty58_2, fy58_2, jy58⟩ := hyy58
            exact ok_some ⟨trivial, ty58_2, fy58_2, (by have q0 : _ = _ := (rfl : TI y58.1 y58.1.toInt); (try dsimp only); omega)⟩
        · have dc5 := tl_ne i1 tn_0 c5
          refine ok_bnd (Q := fun (z : Int32 × DD) => True ∧ TT G z.2 p w L ∧ Fr p [3, 8, 9, 10, 12, 17, 19, 20, 21, 22] M z.2 ∧ (z.1.toInt ≠ 0 → a1 = 1)) ?_ ?_
          · refine ok_if (fun c7 => ?_) (fun c7 => ?_)
            · have dc7 := tl_eq iy2_1 tn_22 c7
              refine ok_bnd (s_drawSubs ty2_2_2 i0 i1 (by omega) (by omega) (fun h => ho_tr ty2_2_2 fy2_2_2 (hox h) rfl)) ?_
              intro y57 hyy57
              obtain ⟨ty57, gy57, ly57⟩ := hyy57
              have fy57 := fr_tr fy2_2_2 gy57 rfl
              have iy57 : TI y57.2 y57.2.toInt := rfl
              exact ok_some ⟨trivial, ty57, fy57, (by have q0 : _ = _ := iy57; (try dsimp only); omega)⟩
            · have dc7 := tl_ne iy2_1 tn_22 c7
              exact ok_some ⟨trivial, ty2_2_2, fy2_2_2, (by have q0 : _ = _ := iy2_2_1; (try dsimp only); omega)⟩
          · intro y55 hyy55
            obtain ⟨_, ty55_2, fy55_2, jy55⟩ := hyy55
            exact ok_some ⟨trivial, ty55_2, fy55_2, (by have q0 : _ = _ := (rfl : TI y55.1 y55.1.toInt); (try dsimp only); omega)⟩
      · intro y3 hyy3
        obtain ⟨_, ty3_2, fy3_2, jy3⟩ := hyy3
        refine ok_dr (f_r (b := 125) ty3_2 rfl (by decide)) (g_lt ty3_2 (by decide)) (g_k ty3_2 (by decide) rfl) ?_
        refine ok_bnd (s_clearMoves ty3_2 i0 (by omega) (by omega)) ?_
        intro y5 hyy5
        obtain ⟨ty5, gy5⟩ := hyy5
        have fy5 := fr_tr fy3_2 gy5 rfl
        refine ok_bnd (Q := fun (z : DD) => TT G z p w L ∧ Fr p [3, 8, 9, 10, 12, 17, 19, 20, 21, 22] M z) ?_ ?_
        · refine ok_if (fun c8 => ?_) (fun c8 => ?_)
          · have dc8 := tl_eq (rfl : TI y3.1 y3.1.toInt) tn_0 c8
            exact ok_some ⟨ty5, fy5⟩
          · have dc8 := tl_ne (rfl : TI y3.1 y3.1.toInt) tn_0 c8
            refine ok_dr (f_r (b := 125) ty5 rfl (by decide)) (g_lt ty5 (by decide)) (g_k ty5 (by decide) rfl) ?_
            refine ok_bnd (s_direct ty5 i0 (by omega) (by omega) (ho_tr ty5 fy5 (hox (by omega)) rfl)) ?_
            intro y53 hyy53
            obtain ⟨ty53, gy53, ly53⟩ := hyy53
            have fy53 := fr_tr fy5 gy53 rfl
            have iy53 : TI y53.2 y53.2.toInt := rfl
            exact ok_some ⟨ty53, fy53⟩
        · intro y6 hyy6
          obtain ⟨ty6, fy6⟩ := hyy6
          refine ok_dr (f_r (b := 125) ty6 rfl (by decide)) (g_lt ty6 (by decide)) (g_k ty6 (by decide) rfl) ?_
          refine ok_ltI (av_mul tn_8 i0 (by omega) (by omega)) (fun x8 ix8 => ?_)
          refine ok_ltI (av_add ix8 tn_1 (by omega) (by omega)) (fun x9 ix9 => ?_)
          refine ok_dr (f_r (b := 129) ty6 rfl (by decide)) (g_lt ty6 (by decide)) (g_k ty6 (by decide) rfl) ?_
          refine ok_chk (nxg (g_n (i := 129) (n := 256) ty6 (by decide) rfl) ix9 (by omega) (by omega)) ?_
          refine ok_ltt (fun M11 eM11 => ?_)
          have tM11 : TT G M11 p w L := by rw [eM11]; exact (tt_w0 ty6 rfl)
          have fM11 : Fr p [3, 8, 9, 10, 12, 17, 19, 20, 21, 22] M M11 := by rw [eM11]; exact (fr_w fy6 rfl)
          clear eM11
          refine ok_if (fun c9 => ?_) (fun c9 => ?_)
          · have dc9 := tl_eq (rfl : TI y3.1 y3.1.toInt) tn_15 c9
            exact ok_some ⟨tM11, fM11⟩
          · have dc9 := tl_ne (rfl : TI y3.1 y3.1.toInt) tn_15 c9
            refine ok_if (fun c10 => ?_) (fun c10 => ?_)
            · have dc10 := tl_le tn_0 iy2_1 c10
              refine ok_dr (f_r (b := 125) tM11 rfl (by decide)) (g_lt tM11 (by decide)) (g_k tM11 (by decide) rfl) ?_
              exact OK.mono (s_dbl tM11 i0 i1 iy2_1 (by omega) (by omega) (by omega) (by omega)) (fun y hy => ⟨hy.1, fr_tr fM11 hy.2 rfl⟩)
            · have dc10 := tl_nle tn_0 iy2_1 c10
              refine ok_dr (f_r (b := 125) tM11 rfl (by decide)) (g_lt tM11 (by decide)) (g_k tM11 (by decide) rfl) ?_
              refine ok_bnd (s_skip tM11 i0 (by omega) (by omega)) ?_
              intro y50 hyy50
              obtain ⟨ty50, gy50⟩ := hyy50
              have fy50 := fr_tr fM11 gy50 rfl
              exact ok_some ⟨ty50, fy50⟩
theorem s_chooseByChance {G : GG} {M : DD} {p : Nat} {w : Int} {L : List Nat} (t : TT G M p w L) {p0 : Int32} {a0 : Int} (i0 : TI p0 a0) (h0 : 0 ≤ a0) (h1 : a0 < 2 * w) (hB : (M.1 216 1).toInt = 1 → HOS M p) : OK (FX0_chooseByChance G M 116 p0) (fun y => TT G y p w L ∧ Fr p [3, 4, 8, 9, 10, 12, 17, 19, 20, 21, 22] M y) := by
  unfold FX0_chooseByChance
  have hw12 : 1 ≤ w ∧ w ≤ 2 := by rcases tt_w t with h | h <;> omega
  refine ok_ltI (av_mul tn_8 i0 (by omega) (by omega)) (fun x1 ix1 => ?_)
  refine ok_dr (f_r (b := 125) t rfl (by decide)) (g_lt t (by decide)) (g_k t (by decide) rfl) ?_
  refine ok_dr (f_r (b := 215) t rfl (by decide)) (g_lt t (by decide)) (g_k t (by decide) rfl) ?_
  refine ok_dr (f_r (b := 216) t rfl (by decide)) (g_lt t (by decide)) (g_k t (by decide) rfl) ?_
  refine ok_chk (nxg (g_n (i := 216) (n := 27) t (by decide) rfl) tn_1 (by omega) (by omega)) ?_
  refine ok_ltt (fun x5 ex5 => ?_)
  have lx5 : 0 ≤ x5.toInt ∧ x5.toInt ≤ 2 := by rw [ex5]; exact (ib_p t (by simp [PYL] : (216, 1, 0, 2) ∈ PYL))
  have ix5 : TI x5 x5.toInt := rfl
  refine ok_bnd (s_draw t tn_16) ?_
  intro y6 hyy6
  obtain ⟨ty6, gy6, ly6⟩ := hyy6
  have fy6 := fr_tr (fr_0 p [3, 4, 8, 9, 10, 12, 17, 19, 20, 21, 22] M) gy6 rfl
  have iy6 : TI y6.2 y6.2.toInt := rfl
  refine ok_if (fun c1 => ?_) (fun c1 => ?_)
  · have dc1 := tl_eq iy6 tn_0 c1
    refine ok_bnd (s_draw ty6 tn_8) ?_
    intro y186 hyy186
    obtain ⟨ty186, gy186, ly186⟩ := hyy186
    have fy186 := fr_tr fy6 gy186 rfl
    have iy186 : TI y186.2 y186.2.toInt := rfl
    refine ok_if (fun c2 => ?_) (fun c2 => ?_)
    · have dc2 := tl_eq iy186 tn_0 c2
      refine ok_dr (f_r (b := 125) ty186 rfl (by decide)) (g_lt ty186 (by decide)) (g_k ty186 (by decide) rfl) ?_
      refine ok_ltI (av_add ix1 tn_0 (by omega) (by omega)) (fun x367 ix367 => ?_)
      refine ok_dr (f_r (b := 129) ty186 rfl (by decide)) (g_lt ty186 (by decide)) (g_k ty186 (by decide) rfl) ?_
      refine ok_chk (nxg (g_n (i := 129) (n := 256) ty186 (by decide) rfl) ix367 (by omega) (by omega)) ?_
      refine ok_ltt (fun M369 eM369 => ?_)
      have tM369 : TT G M369 p w L := by rw [eM369]; exact (tt_w0 ty186 rfl)
      have fM369 : Fr p [3, 4, 8, 9, 10, 12, 17, 19, 20, 21, 22] M M369 := by rw [eM369]; exact (fr_w fy186 rfl)
      clear eM369
      exact ok_some ⟨tM369, fM369⟩
    · have dc2 := tl_ne iy186 tn_0 c2
      refine ok_dr (f_r (b := 125) ty186 rfl (by decide)) (g_lt ty186 (by decide)) (g_k ty186 (by decide) rfl) ?_
      refine ok_bnd (s_sides ty186 i0 (by omega) (by omega)) ?_
      intro y189 hyy189
      obtain ⟨ty189, gy189, ly189⟩ := hyy189
      have fy189 := fr_tr fy186 gy189 rfl
      have iy189 : TI y189.2 y189.2.toInt := rfl
      refine ok_bnd (Q := fun (z : DD) => TT G z p w L ∧ Fr p [3, 4, 8, 9, 10, 12, 17, 19, 20, 21, 22] M z) ?_ ?_
      · refine ok_if (fun c3 => ?_) (fun c3 => ?_)
        · have dc3 := tl_eq tn_1 tn_1 c3
          refine ok_dr (f_r (b := 125) ty189 rfl (by decide)) (g_lt ty189 (by decide)) (g_k ty189 (by decide) rfl) ?_
          refine ok_ltI (av_add ix1 tn_0 (by omega) (by omega)) (fun x193 ix193 => ?_)
          refine ok_dr (f_r (b := 129) ty189 rfl (by decide)) (g_lt ty189 (by decide)) (g_k ty189 (by decide) rfl) ?_
          refine ok_chk (nxg (g_n (i := 129) (n := 256) ty189 (by decide) rfl) ix193 (by omega) (by omega)) ?_
          refine ok_ltt (fun M195 eM195 => ?_)
          have tM195 : TT G M195 p w L := by rw [eM195]; exact (tt_w0 ty189 rfl)
          have fM195 : Fr p [3, 4, 8, 9, 10, 12, 17, 19, 20, 21, 22] M M195 := by rw [eM195]; exact (fr_w fy189 rfl)
          clear eM195
          refine ok_dr (f_r (b := 125) tM195 rfl (by decide)) (g_lt tM195 (by decide)) (g_k tM195 (by decide) rfl) ?_
          refine ok_ltI (av_mul tn_16 i0 (by omega) (by omega)) (fun x197 ix197 => ?_)
          refine ok_ltI (av_mul tn_16 i0 (by omega) (by omega)) (fun x198 ix198 => ?_)
          refine ok_ltI (av_add ix198 tn_16 (by omega) (by omega)) (fun x199 ix199 => ?_)
          refine ok_bnd (s_drawMode tM195 tn_4 (by omega) (by omega)) ?_
          intro y200 hyy200
          obtain ⟨ty200, gy200, ly200⟩ := hyy200
          have fy200 := fr_tr fM195 gy200 rfl
          have iy200 : TI y200.2 y200.2.toInt := rfl
          refine ok_bnd (s_fillBt (S := [3, 4, 8, 9, 10, 12, 17, 19, 20, 21, 22]) (M0 := M) (b := 130) (n := 512) ty200 (f_r (b := 130) tM195 rfl (by decide)) (0) (8) (by simp [TYL]) (ti_ib iy200 (by omega) (by omega)) rfl ix197 ix199 (by omega) (by omega) (by omega) fy200 (fun _ => rfl)) ?_
          intro y201 hyy201
          obtain ⟨ty201, fy201⟩ := hyy201
          refine ok_dr (f_r (b := 125) ty201 rfl (by decide)) (g_lt ty201 (by decide)) (g_k ty201 (by decide) rfl) ?_
          refine ok_ltI (av_add ix1 tn_5 (by omega) (by omega)) (fun x203 ix203 => ?_)
          refine ok_bnd (s_drawMode ty201 tn_4 (by omega) (by omega)) ?_
          intro y204 hyy204
          obtain ⟨ty204, gy204, ly204⟩ := hyy204
          have fy204 := fr_tr fy201 gy204 rfl
          have iy204 : TI y204.2 y204.2.toInt := rfl
          refine ok_dr (f_r (b := 129) ty201 rfl (by decide)) (g_lt ty204 (by decide)) (g_k ty204 (by decide) rfl) ?_
          refine ok_chk (nxg (g_n (i := 129) (n := 256) ty204 (by decide) rfl) ix203 (by omega) (by omega)) ?_
          refine ok_ltt (fun M206 eM206 => ?_)
          have tM206 : TT G M206 p w L := by rw [eM206]; exact (tt_w0 ty204 rfl)
          have fM206 : Fr p [3, 4, 8, 9, 10, 12, 17, 19, 20, 21, 22] M M206 := by rw [eM206]; exact (fr_w fy204 rfl)
          clear eM206
          exact ok_some ⟨tM206, fM206⟩
        · have dc3 := tl_ne tn_1 tn_1 c3
          exfalso
          omega
      · intro y190 hyy190
        obtain ⟨ty190, fy190⟩ := hyy190
        exact ok_some ⟨ty190, fy190⟩
  · have dc1 := tl_ne iy6 tn_0 c1
    refine ok_dr (f_r (b := 125) ty6 rfl (by decide)) (g_lt ty6 (by decide)) (g_k ty6 (by decide) rfl) ?_
    refine ok_bnd (s_sides ty6 i0 (by omega) (by omega)) ?_
    intro y9 hyy9
    obtain ⟨ty9, gy9, ly9⟩ := hyy9
    have fy9 := fr_tr fy6 gy9 rfl
    have iy9 : TI y9.2 y9.2.toInt := rfl
    refine ok_bnd (Q := fun (z : DD) => TT G z p w L ∧ Fr p [3, 4, 8, 9, 10, 12, 17, 19, 20, 21, 22] M z) ?_ ?_
    · refine ok_if (fun c4 => ?_) (fun c4 => ?_)
      · have dc4 := tl_eq iy6 tn_1 c4
        refine ok_dr (f_r (b := 125) ty9 rfl (by decide)) (g_lt ty9 (by decide)) (g_k ty9 (by decide) rfl) ?_
        refine ok_ltI (av_add ix1 tn_0 (by omega) (by omega)) (fun x13 ix13 => ?_)
        refine ok_dr (f_r (b := 129) ty9 rfl (by decide)) (g_lt ty9 (by decide)) (g_k ty9 (by decide) rfl) ?_
        refine ok_chk (nxg (g_n (i := 129) (n := 256) ty9 (by decide) rfl) ix13 (by omega) (by omega)) ?_
        refine ok_ltt (fun M15 eM15 => ?_)
        have tM15 : TT G M15 p w L := by rw [eM15]; exact (tt_w0 ty9 rfl)
        have fM15 : Fr p [3, 4, 8, 9, 10, 12, 17, 19, 20, 21, 22] M M15 := by rw [eM15]; exact (fr_w fy9 rfl)
        clear eM15
        refine ok_dr (f_r (b := 125) tM15 rfl (by decide)) (g_lt tM15 (by decide)) (g_k tM15 (by decide) rfl) ?_
        refine ok_ltI (av_mul tn_16 i0 (by omega) (by omega)) (fun x17 ix17 => ?_)
        refine ok_ltI (av_mul tn_16 i0 (by omega) (by omega)) (fun x18 ix18 => ?_)
        refine ok_ltI (av_add ix18 tn_16 (by omega) (by omega)) (fun x19 ix19 => ?_)
        refine ok_bnd (s_drawMode tM15 tn_4 (by omega) (by omega)) ?_
        intro y20 hyy20
        obtain ⟨ty20, gy20, ly20⟩ := hyy20
        have fy20 := fr_tr fM15 gy20 rfl
        have iy20 : TI y20.2 y20.2.toInt := rfl
        refine ok_bnd (s_fillBt (S := [3, 4, 8, 9, 10, 12, 17, 19, 20, 21, 22]) (M0 := M) (b := 130) (n := 512) ty20 (f_r (b := 130) tM15 rfl (by decide)) (0) (8) (by simp [TYL]) (ti_ib iy20 (by omega) (by omega)) rfl ix17 ix19 (by omega) (by omega) (by omega) fy20 (fun _ => rfl)) ?_
        intro y21 hyy21
        obtain ⟨ty21, fy21⟩ := hyy21
        refine ok_dr (f_r (b := 125) ty21 rfl (by decide)) (g_lt ty21 (by decide)) (g_k ty21 (by decide) rfl) ?_
        refine ok_ltI (av_add ix1 tn_5 (by omega) (by omega)) (fun x23 ix23 => ?_)
        refine ok_bnd (s_drawMode ty21 tn_4 (by omega) (by omega)) ?_
        intro y24 hyy24
        obtain ⟨ty24, gy24, ly24⟩ := hyy24
        have fy24 := fr_tr fy21 gy24 rfl
        have iy24 : TI y24.2 y24.2.toInt := rfl
        refine ok_dr (f_r (b := 129) ty21 rfl (by decide)) (g_lt ty24 (by decide)) (g_k ty24 (by decide) rfl) ?_
        refine ok_chk (nxg (g_n (i := 129) (n := 256) ty24 (by decide) rfl) ix23 (by omega) (by omega)) ?_
        refine ok_ltt (fun M26 eM26 => ?_)
        have tM26 : TT G M26 p w L := by rw [eM26]; exact (tt_w0 ty24 rfl)
        have fM26 : Fr p [3, 4, 8, 9, 10, 12, 17, 19, 20, 21, 22] M M26 := by rw [eM26]; exact (fr_w fy24 rfl)
        clear eM26
        exact ok_some ⟨tM26, fM26⟩
      · have dc4 := tl_ne iy6 tn_1 c4
        refine ok_bnd (Q := fun (z : DD) => TT G z p w L ∧ Fr p [3, 4, 8, 9, 10, 12, 17, 19, 20, 21, 22] M z) ?_ ?_
        · refine ok_if (fun c5 => ?_) (fun c5 => ?_)
          · have dc5 := tl_eq ix5 tn_2 c5
            refine ok_bnd (Q := fun (z : DD) => TT G z p w L ∧ Fr p [3, 4, 8, 9, 10, 12, 17, 19, 20, 21, 22] M z) ?_ ?_
            · refine ok_if (fun c6 => ?_) (fun c6 => ?_)
              · have dc6 := tl_le tn_8 iy6 c6
                refine ok_bnd (Q := fun (z : Int32 × DD) => (0 ≤ z.1.toInt ∧ z.1.toInt ≤ 16) ∧ TT G z.2 p w L ∧ Fr p [3, 4, 8, 9, 10, 12, 17, 19, 20, 21, 22] M z.2) ?_ ?_
                · refine ok_if (fun c7 => ?_) (fun c7 => ?_)
                  · have dc7 := tl_eq iy6 tn_2 c7
                    exfalso
                    omega
                  · have dc7 := tl_ne iy6 tn_2 c7
                    refine ok_bnd (Q := fun (z : Int32 × DD) => (0 ≤ z.1.toInt ∧ z.1.toInt ≤ 16) ∧ TT G z.2 p w L ∧ Fr p [3, 4, 8, 9, 10, 12, 17, 19, 20, 21, 22] M z.2) ?_ ?_
                    · refine ok_if (fun c8 => ?_) (fun c8 => ?_)
                      · have dc8 := tl_eq ix5 tn_2 c8
                        refine ok_dr (f_r (b := 125) ty9 rfl (by decide)) (g_lt ty9 (by decide)) (g_k ty9 (by decide) rfl) ?_
                        refine ok_ltI (av_add ix1 tn_0 (by omega) (by omega)) (fun x150 ix150 => ?_)
                        refine ok_dr (f_r (b := 129) ty9 rfl (by decide)) (g_lt ty9 (by decide)) (g_k ty9 (by decide) rfl) ?_
                        refine ok_chk (nxg (g_n (i := 129) (n := 256) ty9 (by decide) rfl) ix150 (by omega) (by omega)) ?_
                        refine ok_ltt (fun M152 eM152 => ?_)
                        have tM152 : TT G M152 p w L := by rw [eM152]; exact (tt_w0 ty9 rfl)
                        have fM152 : Fr p [3, 4, 8, 9, 10, 12, 17, 19, 20, 21, 22] M M152 := by rw [eM152]; exact (fr_w fy9 rfl)
                        clear eM152
                        refine ok_bnd (Q := fun (z : Int32 × DD) => (0 ≤ z.1.toInt ∧ z.1.toInt ≤ 16) ∧ TT G z.2 p w L ∧ Fr p [3, 4, 8, 9, 10, 12, 17, 19, 20, 21, 22] M z.2) (ok_itr (fun (z : Int32 × DD) => (0 ≤ z.1.toInt ∧ z.1.toInt ≤ 16) ∧ TT G z.2 p w L ∧ Fr p [3, 4, 8, 9, 10, 12, 17, 19, 20, 21, 22] M z.2) (fun z => (16 - z.1.toInt).toNat) ?_ _ _ ?_ ?_) ?_
                        · intro s154 hys154
                          obtain ⟨ls154_1, ts154_2, fs154_2⟩ := hys154
                          have is154_1 : TI s154.1 s154.1.toInt := rfl
                          refine ok_if (fun c9 => ?_) (fun c9 => ?_)
                          · have dc9 := tl_le tn_16 is154_1 c9
                            exact ok_some ⟨(ti_bd is154_1 (by omega) (by omega)), ts154_2, fs154_2⟩
                          · have dc9 := tl_nle tn_16 is154_1 c9
                            refine ok_dr (f_r (b := 125) ts154_2 rfl (by decide)) (g_lt ts154_2 (by decide)) (g_k ts154_2 (by decide) rfl) ?_
                            refine ok_ltI (av_mul tn_16 i0 (by omega) (by omega)) (fun x164 ix164 => ?_)
                            refine ok_ltI (av_add ix164 is154_1 (by omega) (by omega)) (fun x165 ix165 => ?_)
                            refine ok_bnd (s_sidesOf (mb := a0) ts154_2 is154_1 iy9 (by omega) (by omega) (by omega) (by omega) (by omega) (by omega) (by omega) (by omega)) ?_
                            intro y166 hyy166
                            obtain ⟨ty166, gy166, ly166⟩ := hyy166
                            have fy166 := fr_tr fs154_2 gy166 rfl
                            have iy166 : TI y166.2 y166.2.toInt := rfl
                            refine ok_bnd (s_drawMode ty166 tn_9 (by omega) (by omega)) ?_
                            intro y167 hyy167
                            obtain ⟨ty167, gy167, ly167⟩ := hyy167
                            have fy167 := fr_tr fy166 gy167 rfl
                            have iy167 : TI y167.2 y167.2.toInt := rfl
                            refine ok_dr (f_r (b := 130) ts154_2 rfl (by decide)) (g_lt ty167 (by decide)) (g_k ty167 (by decide) rfl) ?_
                            refine ok_chk (nxg (g_n (i := 130) (n := 512) ty167 (by decide) rfl) ix165 (by omega) (by omega)) ?_
                            refine ok_ltt (fun M169 eM169 => ?_)
                            have tM169 : TT G M169 p w L := by rw [eM169]; exact (tt_wt ty167 (0) (8) rfl (by simp [TYL]) (ti_ib iy167 (by omega) (by omega)))
                            have fM169 : Fr p [3, 4, 8, 9, 10, 12, 17, 19, 20, 21, 22] M M169 := by rw [eM169]; exact (fr_w fy167 rfl)
                            clear eM169
                            refine ok_ltI (av_add is154_1 tn_1 (by omega) (by omega)) (fun x170 ix170 => ?_)
                            exact ok_some ⟨⟨(ti_bd ix170 (by omega) (by omega)), tM169, fM169⟩, (mu_up ix170 (by omega) (by omega))⟩
                        · exact ⟨(ti_bd tn_0 (by omega) (by omega)), tM152, fM152⟩
                        · exact mu_0 tn_0 (by omega)
                        · intro y153 hyy153
                          obtain ⟨ly153_1, ty153_2, fy153_2⟩ := hyy153
                          have iy153_1 : TI y153.1 y153.1.toInt := rfl
                          refine ok_dr (f_r (b := 125) ty153_2 rfl (by decide)) (g_lt ty153_2 (by decide)) (g_k ty153_2 (by decide) rfl) ?_
                          refine ok_ltI (av_add ix1 tn_5 (by omega) (by omega)) (fun x157 ix157 => ?_)
                          refine ok_bnd (s_drawMode ty153_2 tn_4 (by omega) (by omega)) ?_
                          intro y158 hyy158
                          obtain ⟨ty158, gy158, ly158⟩ := hyy158
                          have fy158 := fr_tr fy153_2 gy158 rfl
                          have iy158 : TI y158.2 y158.2.toInt := rfl
                          refine ok_dr (f_r (b := 129) ty153_2 rfl (by decide)) (g_lt ty158 (by decide)) (g_k ty158 (by decide) rfl) ?_
                          refine ok_chk (nxg (g_n (i := 129) (n := 256) ty158 (by decide) rfl) ix157 (by omega) (by omega)) ?_
                          refine ok_ltt (fun M160 eM160 => ?_)
                          have tM160 : TT G M160 p w L := by rw [eM160]; exact (tt_w0 ty158 rfl)
                          have fM160 : Fr p [3, 4, 8, 9, 10, 12, 17, 19, 20, 21, 22] M M160 := by rw [eM160]; exact (fr_w fy158 rfl)
                          clear eM160
                          exact ok_some ⟨(ti_bd iy153_1 (by omega) (by omega)), tM160, fM160⟩
                      · have dc8 := tl_ne ix5 tn_2 c8
                        exfalso
                        omega
                    · intro y125 hyy125
                      obtain ⟨ly125_1, ty125_2, fy125_2⟩ := hyy125
                      have iy125_1 : TI y125.1 y125.1.toInt := rfl
                      exact ok_some ⟨(ti_bd iy125_1 (by omega) (by omega)), ty125_2, fy125_2⟩
                · intro y101 hyy101
                  obtain ⟨ly101_1, ty101_2, fy101_2⟩ := hyy101
                  have iy101_1 : TI y101.1 y101.1.toInt := rfl
                  exact ok_some ⟨ty101_2, fy101_2⟩
              · have dc6 := tl_nle tn_8 iy6 c6
                refine ok_dr (f_r (b := 125) ty9 rfl (by decide)) (g_lt ty9 (by decide)) (g_k ty9 (by decide) rfl) ?_
                refine ok_ltI (av_add ix1 tn_0 (by omega) (by omega)) (fun x172 ix172 => ?_)
                refine ok_dr (f_r (b := 129) ty9 rfl (by decide)) (g_lt ty9 (by decide)) (g_k ty9 (by decide) rfl) ?_
                refine ok_chk (nxg (g_n (i := 129) (n := 256) ty9 (by decide) rfl) ix172 (by omega) (by omega)) ?_
                refine ok_ltt (fun M174 eM174 => ?_)
                have tM174 : TT G M174 p w L := by rw [eM174]; exact (tt_w0 ty9 rfl)
                have fM174 : Fr p [3, 4, 8, 9, 10, 12, 17, 19, 20, 21, 22] M M174 := by rw [eM174]; exact (fr_w fy9 rfl)
                clear eM174
                refine ok_dr (f_r (b := 125) tM174 rfl (by decide)) (g_lt tM174 (by decide)) (g_k tM174 (by decide) rfl) ?_
                refine ok_ltI (av_mul tn_16 i0 (by omega) (by omega)) (fun x176 ix176 => ?_)
                refine ok_ltI (av_mul tn_16 i0 (by omega) (by omega)) (fun x177 ix177 => ?_)
                refine ok_ltI (av_add ix177 tn_16 (by omega) (by omega)) (fun x178 ix178 => ?_)
                refine ok_bnd (s_drawMode tM174 tn_4 (by omega) (by omega)) ?_
                intro y179 hyy179
                obtain ⟨ty179, gy179, ly179⟩ := hyy179
                have fy179 := fr_tr fM174 gy179 rfl
                have iy179 : TI y179.2 y179.2.toInt := rfl
                refine ok_bnd (s_fillBt (S := [3, 4, 8, 9, 10, 12, 17, 19, 20, 21, 22]) (M0 := M) (b := 130) (n := 512) ty179 (f_r (b := 130) tM174 rfl (by decide)) (0) (8) (by simp [TYL]) (ti_ib iy179 (by omega) (by omega)) rfl ix176 ix178 (by omega) (by omega) (by omega) fy179 (fun _ => rfl)) ?_
                intro y180 hyy180
                obtain ⟨ty180, fy180⟩ := hyy180
                refine ok_dr (f_r (b := 125) ty180 rfl (by decide)) (g_lt ty180 (by decide)) (g_k ty180 (by decide) rfl) ?_
                refine ok_ltI (av_add ix1 tn_5 (by omega) (by omega)) (fun x182 ix182 => ?_)
                refine ok_bnd (s_drawMode ty180 tn_4 (by omega) (by omega)) ?_
                intro y183 hyy183
                obtain ⟨ty183, gy183, ly183⟩ := hyy183
                have fy183 := fr_tr fy180 gy183 rfl
                have iy183 : TI y183.2 y183.2.toInt := rfl
                refine ok_dr (f_r (b := 129) ty180 rfl (by decide)) (g_lt ty183 (by decide)) (g_k ty183 (by decide) rfl) ?_
                refine ok_chk (nxg (g_n (i := 129) (n := 256) ty183 (by decide) rfl) ix182 (by omega) (by omega)) ?_
                refine ok_ltt (fun M185 eM185 => ?_)
                have tM185 : TT G M185 p w L := by rw [eM185]; exact (tt_w0 ty183 rfl)
                have fM185 : Fr p [3, 4, 8, 9, 10, 12, 17, 19, 20, 21, 22] M M185 := by rw [eM185]; exact (fr_w fy183 rfl)
                clear eM185
                exact ok_some ⟨tM185, fM185⟩
            · intro y99 hyy99
              obtain ⟨ty99, fy99⟩ := hyy99
              exact ok_some ⟨ty99, fy99⟩
          · have dc5 := tl_ne ix5 tn_2 c5
            refine ok_bnd (Q := fun (z : Int32 × DD) => (-1 ≤ z.1.toInt ∧ z.1.toInt ≤ 22) ∧ TT G z.2 p w L ∧ Fr p [3, 4, 8, 9, 10, 12, 17, 19, 20, 21, 22] M z.2) ?_ ?_
            · refine ok_if (fun c10 => ?_) (fun c10 => ?_)
              · have dc10 := tl_eq iy6 tn_2 c10
                refine ok_dr (f_r (b := 125) ty9 rfl (by decide)) (g_lt ty9 (by decide)) (g_k ty9 (by decide) rfl) ?_
                refine ok_ltI (av_add ix1 tn_0 (by omega) (by omega)) (fun x32 ix32 => ?_)
                refine ok_dr (f_r (b := 129) ty9 rfl (by decide)) (g_lt ty9 (by decide)) (g_k ty9 (by decide) rfl) ?_
                refine ok_chk (nxg (g_n (i := 129) (n := 256) ty9 (by decide) rfl) ix32 (by omega) (by omega)) ?_
                refine ok_ltt (fun M34 eM34 => ?_)
                have tM34 : TT G M34 p w L := by rw [eM34]; exact (tt_w0 ty9 rfl)
                have fM34 : Fr p [3, 4, 8, 9, 10, 12, 17, 19, 20, 21, 22] M M34 := by rw [eM34]; exact (fr_w fy9 rfl)
                clear eM34
                refine ok_bnd (Q := fun (z : Int32 × DD) => (0 ≤ z.1.toInt ∧ z.1.toInt ≤ 16) ∧ TT G z.2 p w L ∧ Fr p [3, 4, 8, 9, 10, 12, 17, 19, 20, 21, 22] M z.2) (ok_itr (fun (z : Int32 × DD) => (0 ≤ z.1.toInt ∧ z.1.toInt ≤ 16) ∧ TT G z.2 p w L ∧ Fr p [3, 4, 8, 9, 10, 12, 17, 19, 20, 21, 22] M z.2) (fun z => (16 - z.1.toInt).toNat) ?_ _ _ ?_ ?_) ?_
                · intro s36 hys36
                  obtain ⟨ls36_1, ts36_2, fs36_2⟩ := hys36
                  have is36_1 : TI s36.1 s36.1.toInt := rfl
                  refine ok_if (fun c11 => ?_) (fun c11 => ?_)
                  · have dc11 := tl_le tn_16 is36_1 c11
                    exact ok_some ⟨(ti_bd is36_1 (by omega) (by omega)), ts36_2, fs36_2⟩
                  · have dc11 := tl_nle tn_16 is36_1 c11
                    refine ok_dr (f_r (b := 125) ts36_2 rfl (by decide)) (g_lt ts36_2 (by decide)) (g_k ts36_2 (by decide) rfl) ?_
                    refine ok_ltI (av_mul tn_16 i0 (by omega) (by omega)) (fun x46 ix46 => ?_)
                    refine ok_ltI (av_add ix46 is36_1 (by omega) (by omega)) (fun x47 ix47 => ?_)
                    refine ok_bnd (s_sidesOf (mb := a0) ts36_2 is36_1 iy9 (by omega) (by omega) (by omega) (by omega) (by omega) (by omega) (by omega) (by omega)) ?_
                    intro y48 hyy48
                    obtain ⟨ty48, gy48, ly48⟩ := hyy48
                    have fy48 := fr_tr fs36_2 gy48 rfl
                    have iy48 : TI y48.2 y48.2.toInt := rfl
                    refine ok_bnd (s_drawMode ty48 tn_9 (by omega) (by omega)) ?_
                    intro y49 hyy49
                    obtain ⟨ty49, gy49, ly49⟩ := hyy49
                    have fy49 := fr_tr fy48 gy49 rfl
                    have iy49 : TI y49.2 y49.2.toInt := rfl
                    refine ok_dr (f_r (b := 130) ts36_2 rfl (by decide)) (g_lt ty49 (by decide)) (g_k ty49 (by decide) rfl) ?_
                    refine ok_chk (nxg (g_n (i := 130) (n := 512) ty49 (by decide) rfl) ix47 (by omega) (by omega)) ?_
                    refine ok_ltt (fun M51 eM51 => ?_)
                    have tM51 : TT G M51 p w L := by rw [eM51]; exact (tt_wt ty49 (0) (8) rfl (by simp [TYL]) (ti_ib iy49 (by omega) (by omega)))
                    have fM51 : Fr p [3, 4, 8, 9, 10, 12, 17, 19, 20, 21, 22] M M51 := by rw [eM51]; exact (fr_w fy49 rfl)
                    clear eM51
                    refine ok_ltI (av_add is36_1 tn_1 (by omega) (by omega)) (fun x52 ix52 => ?_)
                    exact ok_some ⟨⟨(ti_bd ix52 (by omega) (by omega)), tM51, fM51⟩, (mu_up ix52 (by omega) (by omega))⟩
                · exact ⟨(ti_bd tn_0 (by omega) (by omega)), tM34, fM34⟩
                · exact mu_0 tn_0 (by omega)
                · intro y35 hyy35
                  obtain ⟨ly35_1, ty35_2, fy35_2⟩ := hyy35
                  have iy35_1 : TI y35.1 y35.1.toInt := rfl
                  refine ok_dr (f_r (b := 125) ty35_2 rfl (by decide)) (g_lt ty35_2 (by decide)) (g_k ty35_2 (by decide) rfl) ?_
                  refine ok_ltI (av_add ix1 tn_5 (by omega) (by omega)) (fun x39 ix39 => ?_)
                  refine ok_bnd (s_drawMode ty35_2 tn_4 (by omega) (by omega)) ?_
                  intro y40 hyy40
                  obtain ⟨ty40, gy40, ly40⟩ := hyy40
                  have fy40 := fr_tr fy35_2 gy40 rfl
                  have iy40 : TI y40.2 y40.2.toInt := rfl
                  refine ok_dr (f_r (b := 129) ty35_2 rfl (by decide)) (g_lt ty40 (by decide)) (g_k ty40 (by decide) rfl) ?_
                  refine ok_chk (nxg (g_n (i := 129) (n := 256) ty40 (by decide) rfl) ix39 (by omega) (by omega)) ?_
                  refine ok_ltt (fun M42 eM42 => ?_)
                  have tM42 : TT G M42 p w L := by rw [eM42]; exact (tt_w0 ty40 rfl)
                  have fM42 : Fr p [3, 4, 8, 9, 10, 12, 17, 19, 20, 21, 22] M M42 := by rw [eM42]; exact (fr_w fy40 rfl)
                  clear eM42
                  exact ok_some ⟨(ti_bd iy35_1 (by omega) (by omega)), tM42, fM42⟩
              · have dc10 := tl_ne iy6 tn_2 c10
                refine ok_bnd (Q := fun (z : Int32 × DD) => (-1 ≤ z.1.toInt ∧ z.1.toInt ≤ 22) ∧ TT G z.2 p w L ∧ Fr p [3, 4, 8, 9, 10, 12, 17, 19, 20, 21, 22] M z.2) ?_ ?_
                · refine ok_if (fun c12 => ?_) (fun c12 => ?_)
                  · have dc12 := tl_eq ix5 tn_2 c12
                    exfalso
                    omega
                  · have dc12 := tl_ne ix5 tn_2 c12
                    refine ok_dr (f_r (b := 125) ty9 rfl (by decide)) (g_lt ty9 (by decide)) (g_k ty9 (by decide) rfl) ?_
                    refine ok_ltI (av_add ix1 tn_0 (by omega) (by omega)) (fun x56 ix56 => ?_)
                    refine ok_dr (f_r (b := 129) ty9 rfl (by decide)) (g_lt ty9 (by decide)) (g_k ty9 (by decide) rfl) ?_
                    refine ok_chk (nxg (g_n (i := 129) (n := 256) ty9 (by decide) rfl) ix56 (by omega) (by omega)) ?_
                    refine ok_ltt (fun M58 eM58 => ?_)
                    have tM58 : TT G M58 p w L := by rw [eM58]; exact (tt_w0 ty9 rfl)
                    have fM58 : Fr p [3, 4, 8, 9, 10, 12, 17, 19, 20, 21, 22] M M58 := by rw [eM58]; exact (fr_w fy9 rfl)
                    clear eM58
                    refine ok_bnd (Q := fun (z : Int32 × DD) => (-1 ≤ z.1.toInt ∧ z.1.toInt ≤ 22) ∧ TT G z.2 p w L ∧ Fr p [3, 4, 8, 9, 10, 12, 17, 19, 20, 21, 22] M z.2) ?_ ?_
                    · refine ok_if (fun c13 => ?_) (fun c13 => ?_)
                      · have dc13 := tl_eq ix5 tn_0 c13
                        refine ok_bnd (Q := fun (z : Int32) => (-1 ≤ z.toInt ∧ z.toInt ≤ 3)) ?_ ?_
                        · refine ok_if (fun c14 => ?_) (fun c14 => ?_)
                          · have dc14 := tl_eq iy6 tn_3 c14
                            exact ok_some (ti_bd tn_m1 (by omega) (by omega))
                          · have dc14 := tl_ne iy6 tn_3 c14
                            refine ok_bnd (Q := fun (z : Int32) => (0 ≤ z.toInt ∧ z.toInt ≤ 3)) ?_ ?_
                            · refine ok_if (fun c15 => ?_) (fun c15 => ?_)
                              · have dc15 := tl_le tn_7 iy6 c15
                                refine ok_bnd (Q := fun (z : Int32) => (1 ≤ z.toInt ∧ z.toInt ≤ 3)) ?_ ?_
                                · refine ok_if (fun c16 => ?_) (fun c16 => ?_)
                                  · have dc16 := tl_le tn_9 iy6 c16
                                    refine ok_bnd (Q := fun (z : Int32) => (2 ≤ z.toInt ∧ z.toInt ≤ 3)) ?_ ?_
                                    · refine ok_if (fun c17 => ?_) (fun c17 => ?_)
                                      · have dc17 := tl_le tn_11 iy6 c17
                                        exact ok_some (ti_bd tn_3 (by omega) (by omega))
                                      · have dc17 := tl_nle tn_11 iy6 c17
                                        exact ok_some (ti_bd tn_2 (by omega) (by omega))
                                    · intro y75 hyy75
                                      have ly75 := hyy75
                                      have iy75 : TI y75 y75.toInt := rfl
                                      exact ok_some (ti_bd iy75 (by omega) (by omega))
                                  · have dc16 := tl_nle tn_9 iy6 c16
                                    exact ok_some (ti_bd tn_1 (by omega) (by omega))
                                · intro y73 hyy73
                                  have ly73 := hyy73
                                  have iy73 : TI y73 y73.toInt := rfl
                                  exact ok_some (ti_bd iy73 (by omega) (by omega))
                              · have dc15 := tl_nle tn_7 iy6 c15
                                exact ok_some (ti_bd tn_0 (by omega) (by omega))
                            · intro y71 hyy71
                              have ly71 := hyy71
                              have iy71 : TI y71 y71.toInt := rfl
                              exact ok_some (ti_bd iy71 (by omega) (by omega))
                        · intro y69 hyy69
                          have ly69 := hyy69
                          have iy69 : TI y69 y69.toInt := rfl
                          exact ok_some ⟨(ti_bd iy69 (by omega) (by omega)), tM58, fM58⟩
                      · have dc13 := tl_ne ix5 tn_0 c13
                        refine ok_bnd (Q := fun (z : Int32 × DD) => (-1 ≤ z.1.toInt ∧ z.1.toInt ≤ 22) ∧ TT G z.2 p w L ∧ Fr p [3, 4, 8, 9, 10, 12, 17, 19, 20, 21, 22] M z.2) ?_ ?_
                        · refine ok_if (fun c18 => ?_) (fun c18 => ?_)
                          · have dc18 := tl_le tn_5 iy6 c18
                            refine ok_bnd (Q := fun (z : Int32 × DD) => (1 ≤ z.1.toInt ∧ z.1.toInt ≤ 22) ∧ TT G z.2 p w L ∧ Fr p [3, 4, 8, 9, 10, 12, 17, 19, 20, 21, 22] M z.2) ?_ ?_
                            · refine ok_if (fun c19 => ?_) (fun c19 => ?_)
                              · have dc19 := tl_le tn_12 iy6 c19
                                exact ok_some ⟨(ti_bd tn_22 (by omega) (by omega)), tM58, fM58⟩
                              · have dc19 := tl_nle tn_12 iy6 c19
                                refine ok_bnd (s_draw tM58 tn_21) ?_
                                intro y66 hyy66
                                obtain ⟨ty66, gy66, ly66⟩ := hyy66
                                have fy66 := fr_tr fM58 gy66 rfl
                                have iy66 : TI y66.2 y66.2.toInt := rfl
                                refine ok_ltI (av_add tn_1 iy66 (by omega) (by omega)) (fun x67 ix67 => ?_)
                                exact ok_some ⟨(ti_bd ix67 (by omega) (by omega)), ty66, fy66⟩
                            · intro y64 hyy64
                              obtain ⟨ly64_1, ty64_2, fy64_2⟩ := hyy64
                              have iy64_1 : TI y64.1 y64.1.toInt := rfl
                              exact ok_some ⟨(ti_bd iy64_1 (by omega) (by omega)), ty64_2, fy64_2⟩
                          · have dc18 := tl_nle tn_5 iy6 c18
                            refine ok_ltI (av_sub iy6 tn_4 (by omega) (by omega)) (fun x68 ix68 => ?_)
                            exact ok_some ⟨(ti_bd ix68 (by omega) (by omega)), tM58, fM58⟩
                        · intro y62 hyy62
                          obtain ⟨ly62_1, ty62_2, fy62_2⟩ := hyy62
                          have iy62_1 : TI y62.1 y62.1.toInt := rfl
                          exact ok_some ⟨(ti_bd iy62_1 (by omega) (by omega)), ty62_2, fy62_2⟩
                    · intro y59 hyy59
                      obtain ⟨ly59_1, ty59_2, fy59_2⟩ := hyy59
                      have iy59_1 : TI y59.1 y59.1.toInt := rfl
                      refine ok_bnd (s_drawByLists ty59_2 i0 ix5 iy59_1 (by omega) (by omega) (by omega) (by omega) (fun h => ho_tr ty59_2 fy59_2 (hB (by rw [← (show x5 = M.1 216 1 from ex5)]; exact h)) rfl)) ?_
                      intro y60 hyy60
                      obtain ⟨ty60, gy60⟩ := hyy60
                      have fy60 := fr_tr fy59_2 gy60 rfl
                      exact ok_some ⟨(ti_bd iy59_1 (by omega) (by omega)), ty60, fy60⟩
                · intro y53 hyy53
                  obtain ⟨ly53_1, ty53_2, fy53_2⟩ := hyy53
                  have iy53_1 : TI y53.1 y53.1.toInt := rfl
                  exact ok_some ⟨(ti_bd iy53_1 (by omega) (by omega)), ty53_2, fy53_2⟩
            · intro y29 hyy29
              obtain ⟨ly29_1, ty29_2, fy29_2⟩ := hyy29
              have iy29_1 : TI y29.1 y29.1.toInt := rfl
              exact ok_some ⟨ty29_2, fy29_2⟩
        · intro y27 hyy27
          obtain ⟨ty27, fy27⟩ := hyy27
          exact ok_some ⟨ty27, fy27⟩
    · intro y10 hyy10
      obtain ⟨ty10, fy10⟩ := hyy10
      exact ok_some ⟨ty10, fy10⟩
theorem s_chooseByCosts {G : GG} {M : DD} {p : Nat} {w : Int} {L : List Nat} (t : TT G M p w L) {p0 : Int32} {a0 : Int} (i0 : TI p0 a0) (h0 : 0 ≤ a0) (h1 : a0 < 2 * w) (hB : (M.1 216 1).toInt = 1 → HOS M p) : OK (FX0_chooseByCosts G M 116 p0) (fun y => TT G y p w L ∧ Fr p [1, 2, 3, 4, 5, 6, 7, 9, 10, 14, 17, 18, 19, 20, 21, 22] M y) := by
  unfold FX0_chooseByCosts
  have hw12 : 1 ≤ w ∧ w ≤ 2 := by rcases tt_w t with h | h <;> omega
  refine ok_dr (f_r (b := 125) t rfl (by decide)) (g_lt t (by decide)) (g_k t (by decide) rfl) ?_
  refine ok_dr (f_r (b := 215) t rfl (by decide)) (g_lt t (by decide)) (g_k t (by decide) rfl) ?_
  refine ok_dr (f_r (b := 216) t rfl (by decide)) (g_lt t (by decide)) (g_k t (by decide) rfl) ?_
  refine ok_chk (nxg (g_n (i := 216) (n := 27) t (by decide) rfl) tn_1 (by omega) (by omega)) ?_
  refine ok_ltt (fun x5 ex5 => ?_)
  have lx5 : 0 ≤ x5.toInt ∧ x5.toInt ≤ 2 := by rw [ex5]; exact (ib_p t (by simp [PYL] : (216, 1, 0, 2) ∈ PYL))
  have ix5 : TI x5 x5.toInt := rfl
  refine ok_dr (f_r (b := 214) t rfl (by decide)) (g_lt t (by decide)) (g_k t (by decide) rfl) ?_
  refine ok_chk (nxg (g_n (i := 214) (n := 29) t (by decide) rfl) tn_10 (by omega) (by omega)) ?_
  refine ok_ltt (fun M7 eM7 => ?_)
  have tM7 : TT G M7 p w L := by rw [eM7]; exact (tt_214g t tn_10 tn_2147483647 (by omega) (by omega) (by omega) (by omega))
  have fM7 : Fr p [1, 2, 3, 4, 5, 6, 7, 9, 10, 14, 17, 18, 19, 20, 21, 22] M M7 := by rw [eM7]; exact (fr_w (fr_0 p [1, 2, 3, 4, 5, 6, 7, 9, 10, 14, 17, 18, 19, 20, 21, 22] M) rfl)
  clear eM7
  refine ok_dr (f_r (b := 214) tM7 rfl (by decide)) (g_lt tM7 (by decide)) (g_k tM7 (by decide) rfl) ?_
  refine ok_chk (nxg (g_n (i := 214) (n := 29) tM7 (by decide) rfl) tn_11 (by omega) (by omega)) ?_
  refine ok_ltt (fun M9 eM9 => ?_)
  have tM9 : TT G M9 p w L := by rw [eM9]; exact (tt_214g tM7 tn_11 tn_1 (by omega) (by omega) (by omega) (by omega))
  have fM9 : Fr p [1, 2, 3, 4, 5, 6, 7, 9, 10, 14, 17, 18, 19, 20, 21, 22] M M9 := by rw [eM9]; exact (fr_w fM7 rfl)
  clear eM9
  refine ok_dr (f_r (b := 214) tM9 rfl (by decide)) (g_lt tM9 (by decide)) (g_k tM9 (by decide) rfl) ?_
  refine ok_chk (nxg (g_n (i := 214) (n := 29) tM9 (by decide) rfl) tn_12 (by omega) (by omega)) ?_
  refine ok_ltt (fun M11 eM11 => ?_)
  have tM11 : TT G M11 p w L := by rw [eM11]; exact (tt_214g tM9 tn_12 tn_2 (by omega) (by omega) (by omega) (by omega))
  have fM11 : Fr p [1, 2, 3, 4, 5, 6, 7, 9, 10, 14, 17, 18, 19, 20, 21, 22] M M11 := by rw [eM11]; exact (fr_w fM9 rfl)
  clear eM11
  refine ok_bnd (Q := fun (z : DD) => TT G z p w L ∧ Fr p [1, 2, 3, 4, 5, 6, 7, 9, 10, 14, 17, 18, 19, 20, 21, 22] M z) ?_ ?_
  · refine ok_if (fun c1 => ?_) (fun c1 => ?_)
    · have dc1 := tl_eq ix5 tn_2 c1
      exact ok_some ⟨tM11, fM11⟩
    · have dc1 := tl_ne ix5 tn_2 c1
      refine ok_bnd (s_searchList tM11 i0 tn_0 (by omega) (by omega) (by omega) (by omega)) ?_
      intro y80 hyy80
      obtain ⟨ty80, gy80⟩ := hyy80
      have fy80 := fr_tr fM11 gy80 rfl
      refine ok_dr (f_r (b := 214) ty80 rfl (by decide)) (g_lt ty80 (by decide)) (g_k ty80 (by decide) rfl) ?_
      refine ok_chk (nxg (g_n (i := 214) (n := 29) ty80 (by decide) rfl) tn_0 (by omega) (by omega)) ?_
      refine ok_ltA (fun x82 => ?_)
      refine ok_bnd (Q := fun (z : Int32) => (0 ≤ z.toInt ∧ z.toInt ≤ 1)) ?_ ?_
      · refine ok_if (fun c2 => ?_) (fun c2 => ?_)
        · have dc2 := tl_eq ix5 tn_0 c2
          exact ok_some (ti_bd tn_0 (by omega) (by omega))
        · have dc2 := tl_ne ix5 tn_0 c2
          exact ok_some (ti_bd tn_1 (by omega) (by omega))
      · intro y83 hyy83
        have ly83 := hyy83
        have iy83 : TI y83 y83.toInt := rfl
        refine ok_bnd (s_offer ty80 iy83 (by omega) (by omega)) ?_
        intro y84 hyy84
        obtain ⟨ty84, gy84⟩ := hyy84
        have fy84 := fr_tr fy80 gy84 rfl
        exact ok_some ⟨ty84, fy84⟩
  · intro y12 hyy12
    obtain ⟨ty12, fy12⟩ := hyy12
    refine ok_bnd (Q := fun (z : DD) => TT G z p w L ∧ Fr p [1, 2, 3, 4, 5, 6, 7, 9, 10, 14, 17, 18, 19, 20, 21, 22] M z) ?_ ?_
    · refine ok_if (fun c3 => ?_) (fun c3 => ?_)
      · have dc3 := tl_eq ix5 tn_1 c3
        refine ok_bnd (s_searchList ty12 i0 tn_1 (by omega) (by omega) (by omega) (by omega)) ?_
        intro y71 hyy71
        obtain ⟨ty71, gy71⟩ := hyy71
        have fy71 := fr_tr fy12 gy71 rfl
        refine ok_dr (f_r (b := 214) ty71 rfl (by decide)) (g_lt ty71 (by decide)) (g_k ty71 (by decide) rfl) ?_
        refine ok_chk (nxg (g_n (i := 214) (n := 29) ty71 (by decide) rfl) tn_5 (by omega) (by omega)) ?_
        refine ok_ltA (fun x73 => ?_)
        refine ok_bnd (s_offer ty71 tn_2 (by omega) (by omega)) ?_
        intro y74 hyy74
        obtain ⟨ty74, gy74⟩ := hyy74
        have fy74 := fr_tr fy71 gy74 rfl
        refine ok_bnd (s_costOfBoth ty74 i0 (by omega) (by omega)) ?_
        intro y75 hyy75
        obtain ⟨ty75, gy75, _⟩ := hyy75
        have fy75 := fr_tr fy74 gy75 rfl
        refine ok_bnd (s_offer ty75 tn_3 (by omega) (by omega)) ?_
        intro y76 hyy76
        obtain ⟨ty76, gy76⟩ := hyy76
        have fy76 := fr_tr fy75 gy76 rfl
        refine ok_bnd (s_costOfDirect ty76 i0 (by omega) (by omega) (ho_tr ty76 fy76 (hB (by rw [← (show x5 = M.1 216 1 from ex5)]; omega)) rfl)) ?_
        intro y77 hyy77
        obtain ⟨ty77, gy77, _⟩ := hyy77
        have fy77 := fr_tr fy76 gy77 rfl
        refine ok_bnd (s_offer ty77 tn_0 (by omega) (by omega)) ?_
        intro y78 hyy78
        obtain ⟨ty78, gy78⟩ := hyy78
        have fy78 := fr_tr fy77 gy78 rfl
        exact ok_some ⟨ty78, fy78⟩
      · have dc3 := tl_ne ix5 tn_1 c3
        exact ok_some ⟨ty12, fy12⟩
    · intro y13 hyy13
      obtain ⟨ty13, fy13⟩ := hyy13
      refine ok_dr (f_r (b := 125) ty13 rfl (by decide)) (g_lt ty13 (by decide)) (g_k ty13 (by decide) rfl) ?_
      refine ok_bnd (s_sides ty13 i0 (by omega) (by omega)) ?_
      intro y15 hyy15
      obtain ⟨ty15, gy15, ly15⟩ := hyy15
      have fy15 := fr_tr fy13 gy15 rfl
      have iy15 : TI y15.2 y15.2.toInt := rfl
      refine ok_bnd (Q := fun (z : Int32 × DD) => (0 ≤ z.1.toInt ∧ z.1.toInt ≤ 4) ∧ TT G z.2 p w L ∧ Fr p [1, 2, 3, 4, 5, 6, 7, 9, 10, 14, 17, 18, 19, 20, 21, 22] M z.2) (ok_itr (fun (z : Int32 × DD) => (0 ≤ z.1.toInt ∧ z.1.toInt ≤ 4) ∧ TT G z.2 p w L ∧ Fr p [1, 2, 3, 4, 5, 6, 7, 9, 10, 14, 17, 18, 19, 20, 21, 22] M z.2) (fun z => (4 - z.1.toInt).toNat) ?_ _ _ ?_ ?_) ?_
      · intro s17 hys17
        obtain ⟨ls17_1, ts17_2, fs17_2⟩ := hys17
        have is17_1 : TI s17.1 s17.1.toInt := rfl
        refine ok_if (fun c4 => ?_) (fun c4 => ?_)
        · have dc4 := tl_le tn_4 is17_1 c4
          exact ok_some ⟨(ti_bd is17_1 (by omega) (by omega)), ts17_2, fs17_2⟩
        · have dc4 := tl_nle tn_4 is17_1 c4
          refine ok_bnd (s_mayBeSixteen ts17_2) ?_
          intro y57 hyy57
          obtain ⟨ty57, gy57, ly57⟩ := hyy57
          have fy57 := fr_tr fs17_2 gy57 rfl
          have iy57 : TI y57.2 y57.2.toInt := rfl
          refine ok_bnd (Q := fun (z : DD) => TT G z p w L ∧ Fr p [1, 2, 3, 4, 5, 6, 7, 9, 10, 14, 17, 18, 19, 20, 21, 22] M z) ?_ ?_
          · refine ok_if (fun c5 => ?_) (fun c5 => ?_)
            · have dc5 := tl_eq iy57 tn_0 c5
              exact ok_some ⟨ty57, fy57⟩
            · have dc5 := tl_ne iy57 tn_0 c5
              refine ok_dr (f_r (b := 138) ty57 rfl (by decide)) (g_lt ty57 (by decide)) (g_k ty57 (by decide) rfl) ?_
              refine ok_bnd (s_predictSixteen ty57 (f_r (b := 125) ty57 rfl (by decide)) i0 iy15 (by omega) (by omega) (by omega) (by omega) (by omega) (by omega) (by omega) (by omega)) ?_
              intro y62 hyy62
              obtain ⟨ty62, gy62⟩ := hyy62
              have fy62 := fr_tr fy57 gy62 rfl
              refine ok_dr (f_r (b := 209) ty62 rfl (by decide)) (g_lt ty62 (by decide)) (g_k ty62 (by decide) rfl) ?_
              refine ok_chk (nxg (g_n (i := 209) (n := 3) ty62 (by decide) rfl) tn_0 (by omega) (by omega)) ?_
              refine ok_dr (f_r (b := 138) ty62 rfl (by decide)) (g_lt ty62 (by decide)) (g_k ty62 (by decide) rfl) ?_
              obtain ⟨c6, hc6, nc6, ec6⟩ := ps_0 ty62
              refine ok_bnd (s_differences ty62 (f_r (b := 125) ty62 rfl (by decide)) ec6 hc6 nc6 i0 tn_0 tn_16 (by omega) (by omega) (by omega) (by omega) (by omega) (by omega) (by omega)) ?_
              intro y65 hyy65
              obtain ⟨ty65, gy65, _⟩ := hyy65
              have fy65 := fr_tr fy62 gy65 rfl
              refine ok_bnd (s_priceOfBit ty65) ?_
              intro y66 hyy66
              obtain ⟨ty66, gy66, _⟩ := hyy66
              have fy66 := fr_tr fy65 gy66 rfl
              refine ok_ltA (fun x67 => ?_)
              refine ok_ltA (fun x68 => ?_)
              refine ok_bnd (s_offer ty66 is17_1 (by omega) (by omega)) ?_
              intro y69 hyy69
              obtain ⟨ty69, gy69⟩ := hyy69
              have fy69 := fr_tr fy66 gy69 rfl
              exact ok_some ⟨ty69, fy69⟩
          · intro y58 hyy58
            obtain ⟨ty58, fy58⟩ := hyy58
            refine ok_ltI (av_add is17_1 tn_1 (by omega) (by omega)) (fun x59 ix59 => ?_)
            exact ok_some ⟨⟨(ti_bd ix59 (by omega) (by omega)), ty58, fy58⟩, (mu_up ix59 (by omega) (by omega))⟩
      · exact ⟨(ti_bd tn_0 (by omega) (by omega)), ty15, fy15⟩
      · exact mu_0 tn_0 (by omega)
      · intro y16 hyy16
        obtain ⟨ly16_1, ty16_2, fy16_2⟩ := hyy16
        have iy16_1 : TI y16.1 y16.1.toInt := rfl
        refine ok_bnd (s_costOfFour ty16_2 i0 iy15 (by omega) (by omega) (by omega) (by omega) (by omega) (by omega) (by omega) (by omega)) ?_
        intro y19 hyy19
        obtain ⟨ty19, gy19, _⟩ := hyy19
        have fy19 := fr_tr fy16_2 gy19 rfl
        refine ok_bnd (s_offer ty19 tn_0 (by omega) (by omega)) ?_
        intro y20 hyy20
        obtain ⟨ty20, gy20⟩ := hyy20
        have fy20 := fr_tr fy19 gy20 rfl
        refine ok_dr (f_r (b := 125) ty20 rfl (by decide)) (g_lt ty20 (by decide)) (g_k ty20 (by decide) rfl) ?_
        refine ok_bnd (s_clearBlock ty20 i0 (by omega) (by omega)) ?_
        intro y22 hyy22
        obtain ⟨ty22, gy22⟩ := hyy22
        have fy22 := fr_tr fy20 gy22 rfl
        refine ok_dr (f_r (b := 125) ty22 rfl (by decide)) (g_lt ty22 (by decide)) (g_k ty22 (by decide) rfl) ?_
        refine ok_ltI (av_mul tn_8 i0 (by omega) (by omega)) (fun x24 ix24 => ?_)
        refine ok_ltI (av_add ix24 tn_0 (by omega) (by omega)) (fun x25 ix25 => ?_)
        refine ok_dr (f_r (b := 214) ty22 rfl (by decide)) (g_lt ty22 (by decide)) (g_k ty22 (by decide) rfl) ?_
        refine ok_chk (nxg (g_n (i := 214) (n := 29) ty22 (by decide) rfl) tn_11 (by omega) (by omega)) ?_
        refine ok_ltA (fun x27 => ?_)
        refine ok_dr (f_r (b := 129) ty22 rfl (by decide)) (g_lt ty22 (by decide)) (g_k ty22 (by decide) rfl) ?_
        refine ok_chk (nxg (g_n (i := 129) (n := 256) ty22 (by decide) rfl) ix25 (by omega) (by omega)) ?_
        refine ok_ltt (fun M29 eM29 => ?_)
        have tM29 : TT G M29 p w L := by rw [eM29]; exact (tt_w0 ty22 rfl)
        have fM29 : Fr p [1, 2, 3, 4, 5, 6, 7, 9, 10, 14, 17, 18, 19, 20, 21, 22] M M29 := by rw [eM29]; exact (fr_w fy22 rfl)
        clear eM29
        refine ok_dr (f_r (b := 214) tM29 rfl (by decide)) (g_lt tM29 (by decide)) (g_k tM29 (by decide) rfl) ?_
        refine ok_chk (nxg (g_n (i := 214) (n := 29) tM29 (by decide) rfl) tn_11 (by omega) (by omega)) ?_
        refine ok_ltA (fun x31 => ?_)
        refine ok_bnd (Q := fun (z : Int32 × DD) => (0 ≤ z.1.toInt ∧ z.1.toInt ≤ 16) ∧ TT G z.2 p w L ∧ Fr p [1, 2, 3, 4, 5, 6, 7, 9, 10, 14, 17, 18, 19, 20, 21, 22] M z.2) ?_ ?_
        · refine ok_if (fun c7 => ?_) (fun c7 => ?_)
          · have dc7 := tl_eq (rfl : TI x31 x31.toInt) tn_3 c7
            refine ok_chk (nxg (g_n (i := 214) (n := 29) tM29 (by decide) rfl) tn_12 (by omega) (by omega)) ?_
            refine ok_ltB (ib_p tM29 (by simp [PYL] : (214, 12, 0, 8) ∈ PYL)) (fun x53 lx53 => ?_)
            have ix53 : TI x53 x53.toInt := rfl
            refine ok_bnd (s_useBest tM29 i0 ix53 (by omega) (by omega) (by omega) (by omega) (fun h => ho_tr tM29 fM29 (hB (by rw [← (show x5 = M.1 216 1 from ex5)]; exact h)) rfl)) ?_
            intro y54 hyy54
            obtain ⟨ty54, gy54⟩ := hyy54
            have fy54 := fr_tr fM29 gy54 rfl
            exact ok_some ⟨(ti_bd iy16_1 (by omega) (by omega)), ty54, fy54⟩
          · have dc7 := tl_ne (rfl : TI x31 x31.toInt) tn_3 c7
            refine ok_bnd (Q := fun (z : Int32 × DD) => (0 ≤ z.1.toInt ∧ z.1.toInt ≤ 16) ∧ TT G z.2 p w L ∧ Fr p [1, 2, 3, 4, 5, 6, 7, 9, 10, 14, 17, 18, 19, 20, 21, 22] M z.2) (ok_itr (fun (z : Int32 × DD) => (0 ≤ z.1.toInt ∧ z.1.toInt ≤ 16) ∧ TT G z.2 p w L ∧ Fr p [1, 2, 3, 4, 5, 6, 7, 9, 10, 14, 17, 18, 19, 20, 21, 22] M z.2) (fun z => (16 - z.1.toInt).toNat) ?_ _ _ ?_ ?_) ?_
            · intro s35 hys35
              obtain ⟨ls35_1, ts35_2, fs35_2⟩ := hys35
              have is35_1 : TI s35.1 s35.1.toInt := rfl
              refine ok_if (fun c8 => ?_) (fun c8 => ?_)
              · have dc8 := tl_le tn_16 is35_1 c8
                exact ok_some ⟨(ti_bd is35_1 (by omega) (by omega)), ts35_2, fs35_2⟩
              · have dc8 := tl_nle tn_16 is35_1 c8
                refine ok_dr (f_r (b := 125) ts35_2 rfl (by decide)) (g_lt ts35_2 (by decide)) (g_k ts35_2 (by decide) rfl) ?_
                refine ok_ltI (av_mul tn_16 i0 (by omega) (by omega)) (fun x41 ix41 => ?_)
                refine ok_ltI (av_add ix41 is35_1 (by omega) (by omega)) (fun x42 ix42 => ?_)
                refine ok_dr (f_r (b := 214) ts35_2 rfl (by decide)) (g_lt ts35_2 (by decide)) (g_k ts35_2 (by decide) rfl) ?_
                refine ok_chk (nxg (g_n (i := 214) (n := 29) ts35_2 (by decide) rfl) tn_11 (by omega) (by omega)) ?_
                refine ok_ltA (fun x44 => ?_)
                refine ok_bnd (Q := fun (z : Int32) => (0 ≤ z.toInt ∧ z.toInt ≤ 8)) ?_ ?_
                · refine ok_if (fun c9 => ?_) (fun c9 => ?_)
                  · have dc9 := tl_eq (rfl : TI x44 x44.toInt) tn_0 c9
                    refine ok_ltI (av_add tn_13 is35_1 (by omega) (by omega)) (fun x51 ix51 => ?_)
                    refine ok_chk (nxg (g_n (i := 214) (n := 29) ts35_2 (by decide) rfl) ix51 (by omega) (by omega)) ?_
                    refine ok_ltB (ib_214m ts35_2 ix51 (by omega)) (fun x52 lx52 => ?_)
                    have ix52 : TI x52 x52.toInt := rfl
                    exact ok_some (ti_bd ix52 (by omega) (by omega))
                  · have dc9 := tl_ne (rfl : TI x44 x44.toInt) tn_0 c9
                    refine ok_chk (nxg (g_n (i := 214) (n := 29) ts35_2 (by decide) rfl) tn_12 (by omega) (by omega)) ?_
                    refine ok_ltB (ib_p ts35_2 (by simp [PYL] : (214, 12, 0, 8) ∈ PYL)) (fun x50 lx50 => ?_)
                    have ix50 : TI x50 x50.toInt := rfl
                    exact ok_some (ti_bd ix50 (by omega) (by omega))
                · intro y45 hyy45
                  have ly45 := hyy45
                  have iy45 : TI y45 y45.toInt := rfl
                  refine ok_dr (f_r (b := 130) ts35_2 rfl (by decide)) (g_lt ts35_2 (by decide)) (g_k ts35_2 (by decide) rfl) ?_
                  refine ok_chk (nxg (g_n (i := 130) (n := 512) ts35_2 (by decide) rfl) ix42 (by omega) (by omega)) ?_
                  refine ok_ltt (fun M47 eM47 => ?_)
                  have tM47 : TT G M47 p w L := by rw [eM47]; exact (tt_wt ts35_2 (0) (8) rfl (by simp [TYL]) (ti_ib iy45 (by omega) (by omega)))
                  have fM47 : Fr p [1, 2, 3, 4, 5, 6, 7, 9, 10, 14, 17, 18, 19, 20, 21, 22] M M47 := by rw [eM47]; exact (fr_w fs35_2 rfl)
                  clear eM47
                  refine ok_ltI (av_add is35_1 tn_1 (by omega) (by omega)) (fun x48 ix48 => ?_)
                  exact ok_some ⟨⟨(ti_bd ix48 (by omega) (by omega)), tM47, fM47⟩, (mu_up ix48 (by omega) (by omega))⟩
            · exact ⟨(ti_bd tn_0 (by omega) (by omega)), tM29, fM29⟩
            · exact mu_0 tn_0 (by omega)
            · intro y34 hyy34
              obtain ⟨ly34_1, ty34_2, fy34_2⟩ := hyy34
              have iy34_1 : TI y34.1 y34.1.toInt := rfl
              refine ok_bnd (s_chooseColours ty34_2 i0 iy15 (by omega) (by omega) (by omega) (by omega) (by omega) (by omega) (by omega) (by omega)) ?_
              intro y37 hyy37
              obtain ⟨ty37, gy37⟩ := hyy37
              have fy37 := fr_tr fy34_2 gy37 rfl
              exact ok_some ⟨(ti_bd iy34_1 (by omega) (by omega)), ty37, fy37⟩
        · intro y32 hyy32
          obtain ⟨ly32_1, ty32_2, fy32_2⟩ := hyy32
          have iy32_1 : TI y32.1 y32.1.toInt := rfl
          exact ok_some ⟨ty32_2, fy32_2⟩
