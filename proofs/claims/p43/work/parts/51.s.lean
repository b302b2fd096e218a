/-! safety of the coder's functions, printed out of their trees -/
theorem s_timeBetween {G : GG} {M : DD} {p : Nat} {w : Int} {L : List Nat} (t : TT G M p w L) {p0 : Int32} {a0 : Int} (i0 : TI p0 a0) {p1 : Int32} {a1 : Int} (i1 : TI p1 a1) (h0 : -128 ≤ a1 - a0) (h1 : a1 - a0 ≤ 127) (h2 : -1000 ≤ a0) (h3 : a0 ≤ 1000) : OK (FX9_timeBetween G M p0 p1) (fun y => TT G y.1 p w L ∧ Fr p [] M y.1 ∧ (y.2.toInt = a1 - a0)) := by
  unfold FX9_timeBetween
  have hw12 : 1 ≤ w ∧ w ≤ 2 := by rcases tt_w t with h | h <;> omega
  refine ok_ltI (av_sub i1 i0 (by omega) (by omega)) (fun x1 ix1 => ?_)
  refine ok_bnd (Q := fun (z : Int32) => (-128 ≤ z.toInt ∧ z.toInt ≤ 127) ∧ (z.toInt = a1 - a0)) ?_ ?_
  · refine ok_if (fun c1 => ?_) (fun c1 => ?_)
    · have dc1 := tl_le tn_m128 ix1 c1
      refine ok_bnd (Q := fun (z : Int32) => (-128 ≤ z.toInt ∧ z.toInt ≤ 127) ∧ (z.toInt = a1 - a0)) ?_ ?_
      · refine ok_if (fun c2 => ?_) (fun c2 => ?_)
        · have dc2 := tl_le ix1 tn_127 c2
          exact ok_some ⟨(ti_bd ix1 (by omega) (by omega)), (by have q : _ = _ := ix1; (try dsimp only); omega)⟩
        · have dc2 := tl_nle ix1 tn_127 c2
          exact ok_some ⟨(ti_bd tn_127 (by omega) (by omega)), (by have q : _ = _ := tn_127; (try dsimp only); omega)⟩
      · intro y4 hyy4
        obtain ⟨ly4, jy4⟩ := hyy4
        have iy4 : TI y4 y4.toInt := rfl
        exact ok_some ⟨(ti_bd iy4 (by omega) (by omega)), (by have q : _ = _ := iy4; (try dsimp only); omega)⟩
    · have dc1 := tl_nle tn_m128 ix1 c1
      exact ok_some ⟨(ti_bd tn_m128 (by omega) (by omega)), (by have q : _ = _ := tn_m128; (try dsimp only); omega)⟩
  · intro y2 hyy2
    obtain ⟨ly2, jy2⟩ := hyy2
    have iy2 : TI y2 y2.toInt := rfl
    exact ok_some ⟨t, (fr_0 p [] M), (by have q : _ = _ := iy2; (try dsimp only); omega)⟩
theorem s_directByTime {G : GG} {M : DD} {p : Nat} {w : Int} {L : List Nat} (t : TT G M p w L) {p0 : Int32} {a0 : Int} (i0 : TI p0 a0) {p1 : Int32} {p2 : Option Nat} {q2 : Nat} (e2 : p2 = some q2) (hq2 : q2 ∈ L) (h0 : 0 ≤ a0) (h1 : a0 < 2 * w) (ho : ∀ k q, k < 9 → M.2 126 k = some q → (M.1 q 9).toInt = 0 ∨ (M.1 q 9).toInt = 4) (hp : (M.1 p 9).toInt = 2) (hb : (M.1 q2 9).toInt = 4) : OK (FX9_directByTime G M 125 p0 p1 p2) (fun y => TT G y.1 p w L ∧ Fr p [17, 19, 20] M y.1 ∧ (0 ≤ y.2.toInt ∧ y.2.toInt ≤ 1)) := by
  unfold FX9_directByTime
  subst e2
  have hw12 : 1 ≤ w ∧ w ≤ 2 := by rcases tt_w t with h | h <;> omega
  refine ok_bnd (Q := fun (z : ( Int32 × DD ) ⊕ ( DD × Int32 )) => match z with | .inl z => (0 ≤ z.1.toInt ∧ z.1.toInt ≤ 4) ∧ TT G z.2 p w L ∧ Fr p [17, 19, 20] M z.2 | .inr r => TT G r.1 p w L ∧ Fr p [17, 19, 20] M r.1 ∧ (0 ≤ r.2.toInt ∧ r.2.toInt ≤ 1)) (ok_itr (fun (z : Int32 × DD) => (0 ≤ z.1.toInt ∧ z.1.toInt ≤ 4) ∧ TT G z.2 p w L ∧ Fr p [17, 19, 20] M z.2) (fun z => (4 - z.1.toInt).toNat) ?_ _ _ ?_ ?_) ?_
  · intro s2 hys2
    obtain ⟨ls2_1, ts2_2, fs2_2⟩ := hys2
    have is2_1 : TI s2.1 s2.1.toInt := rfl
    refine ok_if (fun c1 => ?_) (fun c1 => ?_)
    · have dc1 := tl_le tn_4 is2_1 c1
      exact ok_some ⟨(ti_bd is2_1 (by omega) (by omega)), ts2_2, fs2_2⟩
    · have dc1 := tl_nle tn_4 is2_1 c1
      refine ok_ltA (fun x6 => ?_)
      refine ok_ltI (av_and 1 (rfl : TI x6 x6.toInt) (by decide) (by decide)) (fun x7 ix7 => ?_)
      refine ok_if (fun c2 => ?_) (fun c2 => ?_)
      · have dc2 := tl_eq ix7 tn_0 c2
        refine ok_ltI (av_add is2_1 tn_1 (by omega) (by omega)) (fun x68 ix68 => ?_)
        exact ok_some ⟨⟨(ti_bd ix68 (by omega) (by omega)), ts2_2, fs2_2⟩, (mu_up ix68 (by omega) (by omega))⟩
      · have dc2 := tl_ne ix7 tn_0 c2
        refine ok_ltI (av_mul tn_16 i0 (by omega) (by omega)) (fun x9 ix9 => ?_)
        refine ok_ltI (av_mul tn_5 is2_1 (by omega) (by omega)) (fun x10 ix10 => ?_)
        refine ok_ltI (av_add ix9 ix10 (by omega) (by omega)) (fun x11 ix11 => ?_)
        refine ok_dr rfl (by have q := (tt_q0b ts2_2 hq2); omega) (gk_0 ts2_2 hq2) ?_
        refine ok_bnd (s_blocks ts2_2 hq2) ?_
        intro y13 hyy13
        obtain ⟨ty13, gy13, iy13⟩ := hyy13
        have fy13 := fr_tr fs2_2 gy13 rfl
        refine ok_bnd (Q := fun (z : Int32 × DD) => (-1 ≤ z.1.toInt ∧ z.1.toInt ≤ 1) ∧ TT G z.2 p w L ∧ Fr p [17, 19, 20] M z.2) ?_ ?_
        · refine ok_if (fun c3 => ?_) (fun c3 => ?_)
          · have dc3 := tl_le iy13 i0 c3
            exact ok_some ⟨(ti_bd tn_m1 (by omega) (by omega)), ty13, fy13⟩
          · have dc3 := tl_nle iy13 i0 c3
            refine ok_bnd (s_listOf ty13 hq2 ix11 (by omega) (by omega)) ?_
            intro y67 hyy67
            obtain ⟨ty67, gy67, ly67⟩ := hyy67
            have fy67 := fr_tr fy13 gy67 rfl
            have iy67 : TI y67.2 y67.2.toInt := rfl
            exact ok_some ⟨(ti_bd iy67 (by omega) (by omega)), ty67, fy67⟩
        · intro y14 hyy14
          obtain ⟨ly14_1, ty14_2, fy14_2⟩ := hyy14
          have iy14_1 : TI y14.1 y14.1.toInt := rfl
          refine ok_bnd (Q := fun (z : Int32) => (0 ≤ z.toInt ∧ z.toInt ≤ 1)) ?_ ?_
          · refine ok_if (fun c4 => ?_) (fun c4 => ?_)
            · have dc4 := tl_le tn_0 iy14_1 c4
              exact ok_some (ti_bd iy14_1 (by omega) (by omega))
            · have dc4 := tl_nle tn_0 iy14_1 c4
              exact ok_some (ti_bd tn_0 (by omega) (by omega))
          · intro y15 hyy15
            have ly15 := hyy15
            have iy15 : TI y15 y15.toInt := rfl
            refine ok_bnd (s_at ty14_2 iy15 ix11 (by omega) (by omega) (by omega) (by omega)) ?_
            intro y16 hyy16
            obtain ⟨ty16, gy16, iy16⟩ := hyy16
            have fy16 := fr_tr fy14_2 gy16 rfl
            refine ok_bnd (Q := fun (z : Int32 × DD) => (-1 ≤ z.1.toInt ∧ z.1.toInt ≤ 7) ∧ TT G z.2 p w L ∧ Fr p [17, 19, 20] M z.2) ?_ ?_
            · refine ok_if (fun c5 => ?_) (fun c5 => ?_)
              · have dc5 := tl_le tn_0 iy14_1 c5
                refine ok_dr (pr_6 ty16 hq2) (by have q := (tt_q0b ty16 hq2); omega) (gk_7 ty16 hq2) ?_
                refine ok_chk (nxg (gl_7 ty16 hq2) iy16 (by omega) (by omega)) ?_
                refine ok_ltA (fun x63 => ?_)
                refine ok_bnd (s_entryOf ty16) ?_
                intro y64 hyy64
                obtain ⟨ty64, gy64, ly64⟩ := hyy64
                have fy64 := fr_tr fy16 gy64 rfl
                have iy64 : TI y64.2 y64.2.toInt := rfl
                exact ok_some ⟨(ti_bd iy64 (by omega) (by omega)), ty64, fy64⟩
              · have dc5 := tl_nle tn_0 iy14_1 c5
                exact ok_some ⟨(ti_bd tn_0 (by omega) (by omega)), ty16, fy16⟩
            · intro y17 hyy17
              obtain ⟨ly17_1, ty17_2, fy17_2⟩ := hyy17
              have iy17_1 : TI y17.1 y17.1.toInt := rfl
              refine ok_if (fun c6 => ?_) (fun c6 => ?_)
              · have dc6 := tl_lt iy17_1 tn_0 c6
                refine ok_chk (by decide) ?_
                exact ok_some ⟨ty17_2, fy17_2, (ti_bd tn_0 (by omega) (by omega))⟩
              · have dc6 := tl_nlt iy17_1 tn_0 c6
                refine ok_dr (f_r (b := 126) ty17_2 rfl (by decide)) (g_lt ty17_2 (by decide)) (g_k ty17_2 (by decide) rfl) ?_
                refine ok_chk (nxg (g_n (i := 126) (n := 18) ty17_2 (by decide) rfl) iy17_1 (by omega) (by omega)) ?_
                refine ok_if (fun c7 => ?_) (fun c7 => ?_)
                · refine ok_chk (by decide) ?_
                  exact ok_some ⟨ty17_2, fy17_2, (ti_bd tn_0 (by omega) (by omega))⟩
                · obtain ⟨qc7, hqc7, eqc7⟩ := tt_lst ty17_2 fy17_2.1 c7
                  have oqc7 := ho _ _ (k9 iy17_1 (by omega) (by omega)) eqc7
                  refine ok_bnd (Q := fun (z : Int32) => (-2048 ≤ z.toInt ∧ z.toInt ≤ 2047)) ?_ ?_
                  · refine ok_if (fun c8 => ?_) (fun c8 => ?_)
                    · have dc8 := tl_le tn_0 iy14_1 c8
                      refine ok_ltI (av_mul tn_2 iy16 (by omega) (by omega)) (fun x58 ix58 => ?_)
                      refine ok_dr (pr_7 ty17_2 hq2) (by have q := (tt_q0b ty17_2 hq2); omega) (gk_8 ty17_2 hq2) ?_
                      refine ok_chk (nxg (gl_8 ty17_2 hq2) ix58 (by omega) (by omega)) ?_
                      refine ok_ltB (ib_8 ty17_2 hq2 _) (fun x60 lx60 => ?_)
                      have ix60 : TI x60 x60.toInt := rfl
                      exact ok_some (ti_bd ix60 (by omega) (by omega))
                    · have dc8 := tl_nle tn_0 iy14_1 c8
                      exact ok_some (ti_bd tn_0 (by omega) (by omega))
                  · intro y21 hyy21
                    have ly21 := hyy21
                    have iy21 : TI y21 y21.toInt := rfl
                    refine ok_bnd (Q := fun (z : Int32) => (-2048 ≤ z.toInt ∧ z.toInt ≤ 2047)) ?_ ?_
                    · refine ok_if (fun c9 => ?_) (fun c9 => ?_)
                      · have dc9 := tl_le tn_0 iy14_1 c9
                        refine ok_ltI (av_mul tn_2 iy16 (by omega) (by omega)) (fun x53 ix53 => ?_)
                        refine ok_ltI (av_add ix53 tn_1 (by omega) (by omega)) (fun x54 ix54 => ?_)
                        refine ok_dr (pr_7 ty17_2 hq2) (by have q := (tt_q0b ty17_2 hq2); omega) (gk_8 ty17_2 hq2) ?_
                        refine ok_chk (nxg (gl_8 ty17_2 hq2) ix54 (by omega) (by omega)) ?_
                        refine ok_ltB (ib_8 ty17_2 hq2 _) (fun x56 lx56 => ?_)
                        have ix56 : TI x56 x56.toInt := rfl
                        exact ok_some (ti_bd ix56 (by omega) (by omega))
                      · have dc9 := tl_nle tn_0 iy14_1 c9
                        exact ok_some (ti_bd tn_0 (by omega) (by omega))
                    · intro y22 hyy22
                      have ly22 := hyy22
                      have iy22 : TI y22 y22.toInt := rfl
                      refine ok_chk (nxg (g_n (i := 126) (n := 18) ty17_2 (by decide) rfl) iy17_1 (by omega) (by omega)) ?_
                      refine ok_drL ty17_2 hqc7 (e := eqc7) rfl (by rw [fy17_2.1]) ?_
                      refine ok_ltI (q9 ty17_2 hqc7 fy17_2 rfl) (fun x24 ix24 => ?_)
                      refine ok_ltI (q9 ty17_2 hq2 fy17_2 rfl) (fun x25 ix25 => ?_)
                      refine ok_bnd (s_timeBetween ty17_2 ix24 ix25 (by omega) (by omega) (by omega) (by omega)) ?_
                      intro y26 hyy26
                      obtain ⟨ty26, gy26, ly26⟩ := hyy26
                      have fy26 := fr_tr fy17_2 gy26 rfl
                      have iy26 : TI y26.2 y26.2.toInt := rfl
                      refine ok_dr (f_r (b := 126) ty26 rfl (by decide)) (g_lt ty26 (by decide)) (g_k ty26 (by decide) rfl) ?_
                      refine ok_chk (nxg (g_n (i := 126) (n := 18) ty26 (by decide) rfl) iy17_1 (by omega) (by omega)) ?_
                      refine ok_drL ty26 hqc7 (e := eqc7) rfl (by rw [fy26.1]) ?_
                      refine ok_ltA (fun x29 => ?_)
                      refine ok_bnd (Q := fun (z : Int32) => (0 ≤ z.toInt ∧ z.toInt ≤ 1) ∧ (z.toInt = 0 → y26.2.toInt ≠ 0)) ?_ ?_
                      · refine ok_if (fun c10 => ?_) (fun c10 => ?_)
                        · have dc10 := tl_eq (rfl : TI x29 x29.toInt) tn_2 c10
                          exact ok_some ⟨(ti_bd tn_1 (by omega) (by omega)), (by have q : _ = _ := tn_1; (try dsimp only); omega)⟩
                        · have dc10 := tl_ne (rfl : TI x29 x29.toInt) tn_2 c10
                          refine ok_bnd (Q := fun (z : Int32) => (0 ≤ z.toInt ∧ z.toInt ≤ 1) ∧ (z.toInt = 0 → y26.2.toInt ≠ 0)) ?_ ?_
                          · refine ok_if (fun c11 => ?_) (fun c11 => ?_)
                            · have dc11 := tl_eq iy26 tn_0 c11
                              exact ok_some ⟨(ti_bd tn_1 (by omega) (by omega)), (by have q : _ = _ := tn_1; (try dsimp only); omega)⟩
                            · have dc11 := tl_ne iy26 tn_0 c11
                              exact ok_some ⟨(ti_bd tn_0 (by omega) (by omega)), (by have q : _ = _ := tn_0; (try dsimp only); omega)⟩
                          · intro y50 hyy50
                            obtain ⟨ly50, jy50⟩ := hyy50
                            have iy50 : TI y50 y50.toInt := rfl
                            exact ok_some ⟨(ti_bd iy50 (by omega) (by omega)), (by have q : _ = _ := iy50; (try dsimp only); omega)⟩
                      · intro y30 hyy30
                        obtain ⟨ly30, jy30⟩ := hyy30
                        have iy30 : TI y30 y30.toInt := rfl
                        refine ok_bnd (Q := fun (z : Int32 × DD) => (128 ≤ z.1.toInt ∧ z.1.toInt ≤ 256) ∧ TT G z.2 p w L ∧ Fr p [17, 19, 20] M z.2 ∧ (z.1.toInt = 128 ∨ z.1.toInt = 256)) ?_ ?_
                        · refine ok_if (fun c12 => ?_) (fun c12 => ?_)
                          · have dc12 := tl_eq iy30 tn_0 c12
                            refine ok_chk (nxg (g_n (i := 126) (n := 18) ty26 (by decide) rfl) iy17_1 (by omega) (by omega)) ?_
                            refine ok_ltI (q9 ty26 hqc7 fy26 rfl) (fun x44 ix44 => ?_)
                            refine ok_dr (tt_pic ty26) (by have q := (tt_q0b ty26 (tt_p ty26)); omega) (gk_0 ty26 (tt_p ty26)) ?_
                            refine ok_ltI (q9 ty26 (tt_p ty26) fy26 rfl) (fun x46 ix46 => ?_)
                            refine ok_bnd (s_timeBetween ty26 ix44 ix46 (by omega) (by omega) (by omega) (by omega)) ?_
                            intro y47 hyy47
                            obtain ⟨ty47, gy47, ly47⟩ := hyy47
                            have fy47 := fr_tr fy26 gy47 rfl
                            have iy47 : TI y47.2 y47.2.toInt := rfl
                            refine ok_bnd (s_scaleBy ty47 iy47 iy26 (by omega)) ?_
                            intro y48 hyy48
                            obtain ⟨ty48, gy48, ly48⟩ := hyy48
                            have fy48 := fr_tr fy47 gy48 rfl
                            have iy48 : TI y48.2 y48.2.toInt := rfl
                            exact ok_some ⟨(ti_bd iy48 (by omega) (by omega)), ty48, fy48, (by have q : _ = _ := iy48; (try dsimp only); omega)⟩
                          · have dc12 := tl_ne iy30 tn_0 c12
                            exact ok_some ⟨(ti_bd tn_256 (by omega) (by omega)), ty26, fy26, (by have q : _ = _ := tn_256; (try dsimp only); omega)⟩
                        · intro y31 hyy31
                          obtain ⟨ly31_1, ty31_2, fy31_2, jy31⟩ := hyy31
                          have iy31_1 : TI y31.1 y31.1.toInt := rfl
                          rcases jy31 with zy31_1 | zy31_1
                          · have iy31_1 : TI y31.1 128 := zy31_1
                            refine ok_ltI (av_mul iy31_1 iy21 (by omega) (by omega)) (fun x32 ix32 => ?_)
                            refine ok_ltI (av_add ix32 tn_128 (by omega) (by omega)) (fun x33 ix33 => ?_)
                            refine ok_ltI (av_sar 8 ix33 (by decide)) (fun x34 ix34 => ?_)
                            refine ok_ltI (av_mul iy31_1 iy22 (by omega) (by omega)) (fun x35 ix35 => ?_)
                            refine ok_ltI (av_add ix35 tn_128 (by omega) (by omega)) (fun x36 ix36 => ?_)
                            refine ok_ltI (av_sar 8 ix36 (by decide)) (fun x37 ix37 => ?_)
                            refine ok_bnd (s_setQuarter ty31_2 i0 tn_0 is2_1 iy17_1 ix34 ix37 (by omega) (by omega) (by omega) (by omega) (by omega) (by omega) (by omega) (by omega) (by omega) (by omega) (by omega) (by omega)) ?_
                            intro y38 hyy38
                            obtain ⟨ty38, gy38⟩ := hyy38
                            have fy38 := fr_tr fy31_2 gy38 rfl
                            refine ok_ltI (av_sub ix34 iy21 (by omega) (by omega)) (fun x39 ix39 => ?_)
                            refine ok_ltI (av_sub ix37 iy22 (by omega) (by omega)) (fun x40 ix40 => ?_)
                            refine ok_bnd (s_setQuarter ty38 i0 tn_1 is2_1 tn_0 ix39 ix40 (by omega) (by omega) (by omega) (by omega) (by omega) (by omega) (by omega) (by omega) (by omega) (by omega) (by omega) (by omega)) ?_
                            intro y41 hyy41
                            obtain ⟨ty41, gy41⟩ := hyy41
                            have fy41 := fr_tr fy38 gy41 rfl
                            refine ok_ltI (av_add is2_1 tn_1 (by omega) (by omega)) (fun x42 ix42 => ?_)
                            exact ok_some ⟨⟨(ti_bd ix42 (by omega) (by omega)), ty41, fy41⟩, (mu_up ix42 (by omega) (by omega))⟩
                          · have iy31_1 : TI y31.1 256 := zy31_1
                            refine ok_ltI (av_mul iy31_1 iy21 (by omega) (by omega)) (fun x32 ix32 => ?_)
                            refine ok_ltI (av_add ix32 tn_128 (by omega) (by omega)) (fun x33 ix33 => ?_)
                            refine ok_ltI (av_sar 8 ix33 (by decide)) (fun x34 ix34 => ?_)
                            refine ok_ltI (av_mul iy31_1 iy22 (by omega) (by omega)) (fun x35 ix35 => ?_)
                            refine ok_ltI (av_add ix35 tn_128 (by omega) (by omega)) (fun x36 ix36 => ?_)
                            refine ok_ltI (av_sar 8 ix36 (by decide)) (fun x37 ix37 => ?_)
                            refine ok_bnd (s_setQuarter ty31_2 i0 tn_0 is2_1 iy17_1 ix34 ix37 (by omega) (by omega) (by omega) (by omega) (by omega) (by omega) (by omega) (by omega) (by omega) (by omega) (by omega) (by omega)) ?_
                            intro y38 hyy38
                            obtain ⟨ty38, gy38⟩ := hyy38
                            have fy38 := fr_tr fy31_2 gy38 rfl
                            refine ok_ltI (av_sub ix34 iy21 (by omega) (by omega)) (fun x39 ix39 => ?_)
                            refine ok_ltI (av_sub ix37 iy22 (by omega) (by omega)) (fun x40 ix40 => ?_)
                            refine ok_bnd (s_setQuarter ty38 i0 tn_1 is2_1 tn_0 ix39 ix40 (by omega) (by omega) (by omega) (by omega) (by omega) (by omega) (by omega) (by omega) (by omega) (by omega) (by omega) (by omega)) ?_
                            intro y41 hyy41
                            obtain ⟨ty41, gy41⟩ := hyy41
                            have fy41 := fr_tr fy38 gy41 rfl
                            refine ok_ltI (av_add is2_1 tn_1 (by omega) (by omega)) (fun x42 ix42 => ?_)
                            exact ok_some ⟨⟨(ti_bd ix42 (by omega) (by omega)), ty41, fy41⟩, (mu_up ix42 (by omega) (by omega))⟩
  · exact ⟨(ti_bd tn_0 (by omega) (by omega)), t, (fr_0 p [17, 19, 20] M)⟩
  · exact mu_0 tn_0 (by omega)
  · intro y1 hyy1
    cases y1 with
    | inl z1k =>
      have hyz1k := hyy1
      show OK _ _
      obtain ⟨lz1k_1, tz1k_2, fz1k_2⟩ := hyz1k
      have iz1k_1 : TI z1k.1 z1k.1.toInt := rfl
      refine ok_chk (by decide) ?_
      exact ok_some ⟨tz1k_2, fz1k_2, (ti_bd tn_1 (by omega) (by omega))⟩
    | inr r9 => exact ok_some hyy1
theorem s_direct {G : GG} {M : DD} {p : Nat} {w : Int} {L : List Nat} (t : TT G M p w L) {p0 : Int32} {a0 : Int} (i0 : TI p0 a0) {p1 : Int32} (h0 : 0 ≤ a0) (h1 : a0 < 2 * w) (hos : HOS M p) : OK (FX9_direct G M 125 p0 p1) (fun y => TT G y.1 p w L ∧ Fr p [10, 17, 19, 20] M y.1 ∧ (0 ≤ y.2.toInt ∧ y.2.toInt ≤ 1)) := by
  unfold FX9_direct
  have hw12 : 1 ≤ w ∧ w ≤ 2 := by rcases tt_w t with h | h <;> omega
  refine ok_dr (f_r (b := 126) t rfl (by decide)) (g_lt t (by decide)) (g_k t (by decide) rfl) ?_
  refine ok_chk (nxg (g_n (i := 126) (n := 18) t (by decide) rfl) tn_9 (by omega) (by omega)) ?_
  refine ok_if (fun c1 => ?_) (fun c1 => ?_)
  · refine ok_chk (by decide) ?_
    exact ok_some ⟨t, (fr_0 p [10, 17, 19, 20] M), (ti_bd tn_0 (by omega) (by omega))⟩
  · obtain ⟨qc1, hqc1, eqc1⟩ := tt_lst t (fr_0 p [10, 17, 19, 20] M).1 c1
    refine ok_dr (f_r (b := 215) t rfl (by decide)) (g_lt t (by decide)) (g_k t (by decide) rfl) ?_
    refine ok_dr (f_r (b := 216) t rfl (by decide)) (g_lt t (by decide)) (g_k t (by decide) rfl) ?_
    refine ok_chk (nxg (g_n (i := 216) (n := 27) t (by decide) rfl) tn_8 (by omega) (by omega)) ?_
    refine ok_ltA (fun x6 => ?_)
    refine ok_if (fun c2 => ?_) (fun c2 => ?_)
    · have dc2 := tl_eq (rfl : TI x6 x6.toInt) tn_0 c2
      refine ok_bnd (s_directByTime t i0 (by rw [(fr_0 p [10, 17, 19, 20] M).1]; exact eqc1) hqc1 (by omega) (by omega) (hos.1) (hos.2.1) (hos.2.2 _ eqc1)) ?_
      intro y90 hyy90
      obtain ⟨ty90, gy90, ly90⟩ := hyy90
      have fy90 := fr_tr (fr_0 p [10, 17, 19, 20] M) gy90 rfl
      have iy90 : TI y90.2 y90.2.toInt := rfl
      refine ok_chk (t01 iy90 (by omega) (by omega)) ?_
      exact ok_some ⟨ty90, fy90, (ti_bd iy90 (by omega) (by omega))⟩
    · refine ok_bnd (s_leastReference t i0 tn_0 (by omega) (by omega) (by omega) (by omega)) ?_
      intro y8 hyy8
      obtain ⟨ty8, gy8, ly8⟩ := hyy8
      have fy8 := fr_tr (fr_0 p [10, 17, 19, 20] M) gy8 rfl
      have iy8 : TI y8.2 y8.2.toInt := rfl
      refine ok_bnd (s_leastReference ty8 i0 tn_1 (by omega) (by omega) (by omega) (by omega)) ?_
      intro y9 hyy9
      obtain ⟨ty9, gy9, ly9⟩ := hyy9
      have fy9 := fr_tr fy8 gy9 rfl
      have iy9 : TI y9.2 y9.2.toInt := rfl
      refine ok_bnd (Q := fun (z : Int32) => (0 ≤ z.toInt ∧ z.toInt ≤ 1)) ?_ ?_
      · refine ok_if (fun c3 => ?_) (fun c3 => ?_)
        · have dc3 := tl_le tn_0 iy8 c3
          exact ok_some (ti_bd tn_0 (by omega) (by omega))
        · have dc3 := tl_nle tn_0 iy8 c3
          refine ok_bnd (Q := fun (z : Int32) => (0 ≤ z.toInt ∧ z.toInt ≤ 1)) ?_ ?_
          · refine ok_if (fun c4 => ?_) (fun c4 => ?_)
            · have dc4 := tl_le tn_0 iy9 c4
              exact ok_some (ti_bd tn_0 (by omega) (by omega))
            · have dc4 := tl_nle tn_0 iy9 c4
              exact ok_some (ti_bd tn_1 (by omega) (by omega))
          · intro y88 hyy88
            have ly88 := hyy88
            have iy88 : TI y88 y88.toInt := rfl
            exact ok_some (ti_bd iy88 (by omega) (by omega))
      · intro y10 hyy10
        have ly10 := hyy10
        have iy10 : TI y10 y10.toInt := rfl
        refine ok_bnd (Q := fun (z : ( Int32 × DD ) ⊕ ( DD × Int32 )) => match z with | .inl z => (0 ≤ z.1.toInt ∧ z.1.toInt ≤ 2) ∧ TT G z.2 p w L ∧ Fr p [10, 17, 19, 20] M z.2 | .inr r => TT G r.1 p w L ∧ Fr p [10, 17, 19, 20] M r.1 ∧ (0 ≤ r.2.toInt ∧ r.2.toInt ≤ 1)) (ok_itr (fun (z : Int32 × DD) => (0 ≤ z.1.toInt ∧ z.1.toInt ≤ 2) ∧ TT G z.2 p w L ∧ Fr p [10, 17, 19, 20] M z.2) (fun z => (2 - z.1.toInt).toNat) ?_ _ _ ?_ ?_) ?_
        · intro s12 hys12
          obtain ⟨ls12_1, ts12_2, fs12_2⟩ := hys12
          have is12_1 : TI s12.1 s12.1.toInt := rfl
          refine ok_if (fun c5 => ?_) (fun c5 => ?_)
          · have dc5 := tl_le tn_2 is12_1 c5
            exact ok_some ⟨(ti_bd is12_1 (by omega) (by omega)), ts12_2, fs12_2⟩
          · have dc5 := tl_nle tn_2 is12_1 c5
            refine ok_bnd (Q := fun (z : Int32) => (-1 ≤ z.toInt ∧ z.toInt ≤ 7)) ?_ ?_
            · refine ok_if (fun c6 => ?_) (fun c6 => ?_)
              · have dc6 := tl_eq iy10 tn_0 c6
                refine ok_bnd (Q := fun (z : Int32) => (-1 ≤ z.toInt ∧ z.toInt ≤ 7)) ?_ ?_
                · refine ok_if (fun c7 => ?_) (fun c7 => ?_)
                  · have dc7 := tl_eq is12_1 tn_0 c7
                    exact ok_some (ti_bd iy8 (by omega) (by omega))
                  · exact ok_some (ti_bd iy9 (by omega) (by omega))
                · intro y85 hyy85
                  have ly85 := hyy85
                  have iy85 : TI y85 y85.toInt := rfl
                  exact ok_some (ti_bd iy85 (by omega) (by omega))
              · exact ok_some (ti_bd tn_0 (by omega) (by omega))
            · intro y16 hyy16
              have ly16 := hyy16
              have iy16 : TI y16 y16.toInt := rfl
              refine ok_ltt (fun M17 eM17 => ?_)
              have tM17 : TT G M17 p w L := by rw [eM17]; exact (tt_gx ts12_2 (ti_ib tn_0 (by omega) (by omega)))
              have fM17 : Fr p [10, 17, 19, 20] M M17 := by rw [eM17]; exact (fr_w fs12_2 rfl)
              clear eM17
              refine ok_ltt (fun M18 eM18 => ?_)
              have tM18 : TT G M18 p w L := by rw [eM18]; exact (tt_gy tM17 (ti_ib tn_0 (by omega) (by omega)))
              have fM18 : Fr p [10, 17, 19, 20] M M18 := by rw [eM18]; exact (fr_w fM17 rfl)
              clear eM18
              refine ok_if (fun c8 => ?_) (fun c8 => ?_)
              · have dc8 := tl_lt iy16 tn_0 c8
                refine ok_bnd (Q := fun (z : DD) => TT G z p w L ∧ Fr p [10, 17, 19, 20] M z) ?_ ?_
                · refine ok_if (fun c9 => ?_) (fun c9 => ?_)
                  · have dc9 := tl_lt iy16 tn_0 c9
                    exact ok_some ⟨tM18, fM18⟩
                  · have dc9 := tl_nlt iy16 tn_0 c9
                    exfalso
                    omega
                · intro y20 hyy20
                  obtain ⟨ty20, fy20⟩ := hyy20
                  refine ok_bnd (Q := fun (z : Int32 × DD) => (0 ≤ z.1.toInt ∧ z.1.toInt ≤ 4) ∧ TT G z.2 p w L ∧ Fr p [10, 17, 19, 20] M z.2) (ok_itr (fun (z : Int32 × DD) => (0 ≤ z.1.toInt ∧ z.1.toInt ≤ 4) ∧ TT G z.2 p w L ∧ Fr p [10, 17, 19, 20] M z.2) (fun z => (4 - z.1.toInt).toNat) ?_ _ _ ?_ ?_) ?_
                  · intro s22 hys22
                    obtain ⟨ls22_1, ts22_2, fs22_2⟩ := hys22
                    have is22_1 : TI s22.1 s22.1.toInt := rfl
                    refine ok_if (fun c10 => ?_) (fun c10 => ?_)
                    · have dc10 := tl_le tn_4 is22_1 c10
                      exact ok_some ⟨(ti_bd is22_1 (by omega) (by omega)), ts22_2, fs22_2⟩
                    · have dc10 := tl_nle tn_4 is22_1 c10
                      refine ok_bnd (Q := fun (z : Int32 × DD) => (0 ≤ z.1.toInt ∧ z.1.toInt ≤ 0) ∧ TT G z.2 p w L ∧ Fr p [10, 17, 19, 20] M z.2) ?_ ?_
                      · refine ok_if (fun c11 => ?_) (fun c11 => ?_)
                        · have dc11 := tl_eq iy16 tn_0 c11
                          exfalso
                          omega
                        · exact ok_some ⟨(ti_bd tn_0 (by omega) (by omega)), ts22_2, fs22_2⟩
                      · intro y27 hyy27
                        obtain ⟨ly27_1, ty27_2, fy27_2⟩ := hyy27
                        have iy27_1 : TI y27.1 (0) := ti_c ly27_1
                        refine ok_ltA (fun x28 => ?_)
                        refine ok_ltI (av_and 1 (rfl : TI x28 x28.toInt) (by decide) (by decide)) (fun x29 ix29 => ?_)
                        refine ok_bnd (Q := fun (z : DD) => TT G z p w L ∧ Fr p [10, 17, 19, 20] M z) ?_ ?_
                        · refine ok_if (fun c12 => ?_) (fun c12 => ?_)
                          · have dc12 := tl_eq ix29 tn_1 c12
                            refine ok_bnd (Q := fun (z : Int32) => (-2048 ≤ z.toInt ∧ z.toInt ≤ 2047)) ?_ ?_
                            · refine ok_if (fun c13 => ?_) (fun c13 => ?_)
                              · have dc13 := tl_eq iy27_1 tn_0 c13
                                refine ok_ltB (ib_p ty27_2 (by simp [PYL] : (125, 18, -2048, 2047) ∈ PYL)) (fun x39 lx39 => ?_)
                                have ix39 : TI x39 x39.toInt := rfl
                                exact ok_some (ti_bd ix39 (by omega) (by omega))
                              · have dc13 := tl_ne iy27_1 tn_0 c13
                                exfalso
                                omega
                            · intro y33 hyy33
                              have ly33 := hyy33
                              have iy33 : TI y33 y33.toInt := rfl
                              refine ok_bnd (Q := fun (z : Int32) => (-2048 ≤ z.toInt ∧ z.toInt ≤ 2047)) ?_ ?_
                              · refine ok_if (fun c14 => ?_) (fun c14 => ?_)
                                · have dc14 := tl_eq iy27_1 tn_0 c14
                                  refine ok_ltB (ib_p ty27_2 (by simp [PYL] : (125, 19, -2048, 2047) ∈ PYL)) (fun x37 lx37 => ?_)
                                  have ix37 : TI x37 x37.toInt := rfl
                                  exact ok_some (ti_bd ix37 (by omega) (by omega))
                                · have dc14 := tl_ne iy27_1 tn_0 c14
                                  exfalso
                                  omega
                              · intro y34 hyy34
                                have ly34 := hyy34
                                have iy34 : TI y34 y34.toInt := rfl
                                refine ok_bnd (s_setQuarter ty27_2 i0 is12_1 is22_1 iy16 iy33 iy34 (by omega) (by omega) (by omega) (by omega) (by omega) (by omega) (by omega) (by omega) (by omega) (by omega) (by omega) (by omega)) ?_
                                intro y35 hyy35
                                obtain ⟨ty35, gy35⟩ := hyy35
                                have fy35 := fr_tr fy27_2 gy35 rfl
                                exact ok_some ⟨ty35, fy35⟩
                          · exact ok_some ⟨ty27_2, fy27_2⟩
                        · intro y30 hyy30
                          obtain ⟨ty30, fy30⟩ := hyy30
                          refine ok_ltI (av_add is22_1 tn_1 (by omega) (by omega)) (fun x31 ix31 => ?_)
                          exact ok_some ⟨⟨(ti_bd ix31 (by omega) (by omega)), ty30, fy30⟩, (mu_up ix31 (by omega) (by omega))⟩
                  · exact ⟨(ti_bd tn_0 (by omega) (by omega)), ty20, fy20⟩
                  · exact mu_0 tn_0 (by omega)
                  · intro y21 hyy21
                    obtain ⟨ly21_1, ty21_2, fy21_2⟩ := hyy21
                    have iy21_1 : TI y21.1 y21.1.toInt := rfl
                    refine ok_ltI (av_add is12_1 tn_1 (by omega) (by omega)) (fun x24 ix24 => ?_)
                    exact ok_some ⟨⟨(ti_bd ix24 (by omega) (by omega)), ty21_2, fy21_2⟩, (mu_up ix24 (by omega) (by omega))⟩
              · have dc8 := tl_nlt iy16 tn_0 c8
                refine ok_ltI (av_mul tn_9 is12_1 (by omega) (by omega)) (fun x50 ix50 => ?_)
                refine ok_ltI (av_add ix50 iy16 (by omega) (by omega)) (fun x51 ix51 => ?_)
                refine ok_dr (f_r (b := 126) tM18 rfl (by decide)) (g_lt tM18 (by decide)) (g_k tM18 (by decide) rfl) ?_
                refine ok_chk (nxg (g_n (i := 126) (n := 18) tM18 (by decide) rfl) ix51 (by omega) (by omega)) ?_
                refine ok_if (fun c15 => ?_) (fun c15 => ?_)
                · refine ok_chk (by decide) ?_
                  exact ok_some ⟨tM18, fM18, (ti_bd tn_0 (by omega) (by omega))⟩
                · obtain ⟨qc15, hqc15, eqc15⟩ := tt_lst tM18 fM18.1 c15
                  refine ok_bnd (Q := fun (z : DD) => TT G z p w L ∧ Fr p [10, 17, 19, 20] M z) ?_ ?_
                  · refine ok_if (fun c16 => ?_) (fun c16 => ?_)
                    · have dc16 := tl_lt iy16 tn_0 c16
                      exfalso
                      omega
                    · have dc16 := tl_nlt iy16 tn_0 c16
                      refine ok_bnd (Q := fun (z : DD) => TT G z p w L ∧ Fr p [10, 17, 19, 20] M z) ?_ ?_
                      · refine ok_if (fun c17 => ?_) (fun c17 => ?_)
                        · have dc17 := tl_eq iy10 tn_0 c17
                          refine ok_bnd (s_guess tM18 i0 is12_1 iy16 tn_0 tn_16 (by omega) (by omega) (by omega) (by omega) (by omega) (by omega) (by omega) (by omega) (by omega)) ?_
                          intro y83 hyy83
                          obtain ⟨ty83, gy83⟩ := hyy83
                          have fy83 := fr_tr fM18 gy83 rfl
                          exact ok_some ⟨ty83, fy83⟩
                        · exact ok_some ⟨tM18, fM18⟩
                      · intro y81 hyy81
                        obtain ⟨ty81, fy81⟩ := hyy81
                        exact ok_some ⟨ty81, fy81⟩
                  · intro y54 hyy54
                    obtain ⟨ty54, fy54⟩ := hyy54
                    refine ok_bnd (Q := fun (z : Int32 × DD) => (0 ≤ z.1.toInt ∧ z.1.toInt ≤ 4) ∧ TT G z.2 p w L ∧ Fr p [10, 17, 19, 20] M z.2) (ok_itr (fun (z : Int32 × DD) => (0 ≤ z.1.toInt ∧ z.1.toInt ≤ 4) ∧ TT G z.2 p w L ∧ Fr p [10, 17, 19, 20] M z.2) (fun z => (4 - z.1.toInt).toNat) ?_ _ _ ?_ ?_) ?_
                    · intro s56 hys56
                      obtain ⟨ls56_1, ts56_2, fs56_2⟩ := hys56
                      have is56_1 : TI s56.1 s56.1.toInt := rfl
                      refine ok_if (fun c18 => ?_) (fun c18 => ?_)
                      · have dc18 := tl_le tn_4 is56_1 c18
                        exact ok_some ⟨(ti_bd is56_1 (by omega) (by omega)), ts56_2, fs56_2⟩
                      · have dc18 := tl_nle tn_4 is56_1 c18
                        refine ok_bnd (Q := fun (z : Int32 × DD) => (0 ≤ z.1.toInt ∧ z.1.toInt ≤ 1) ∧ TT G z.2 p w L ∧ Fr p [10, 17, 19, 20] M z.2) ?_ ?_
                        · refine ok_if (fun c19 => ?_) (fun c19 => ?_)
                          · have dc19 := tl_eq iy16 tn_0 c19
                            refine ok_bnd (Q := fun (z : Int32 × DD) => (0 ≤ z.1.toInt ∧ z.1.toInt ≤ 1) ∧ TT G z.2 p w L ∧ Fr p [10, 17, 19, 20] M z.2) ?_ ?_
                            · refine ok_if (fun c20 => ?_) (fun c20 => ?_)
                              · have dc20 := tl_eq iy10 tn_0 c20
                                refine ok_bnd (s_isStill ts56_2 (by rw [(fr_0 p [10, 17, 19, 20] M).1]; exact eqc1) hqc1 i0 is56_1 (by omega) (by omega) (by omega) (by omega)) ?_
                                intro y77 hyy77
                                obtain ⟨ty77, gy77, ly77⟩ := hyy77
                                have fy77 := fr_tr fs56_2 gy77 rfl
                                have iy77 : TI y77.2 y77.2.toInt := rfl
                                refine ok_bnd (Q := fun (z : Int32) => (0 ≤ z.toInt ∧ z.toInt ≤ 1)) ?_ ?_
                                · refine ok_if (fun c21 => ?_) (fun c21 => ?_)
                                  · have dc21 := tl_eq iy77 tn_0 c21
                                    exact ok_some (ti_bd tn_0 (by omega) (by omega))
                                  · exact ok_some (ti_bd tn_1 (by omega) (by omega))
                                · intro y78 hyy78
                                  have ly78 := hyy78
                                  have iy78 : TI y78 y78.toInt := rfl
                                  exact ok_some ⟨(ti_bd iy78 (by omega) (by omega)), ty77, fy77⟩
                              · exact ok_some ⟨(ti_bd tn_0 (by omega) (by omega)), ts56_2, fs56_2⟩
                            · intro y75 hyy75
                              obtain ⟨ly75_1, ty75_2, fy75_2⟩ := hyy75
                              have iy75_1 : TI y75.1 y75.1.toInt := rfl
                              exact ok_some ⟨(ti_bd iy75_1 (by omega) (by omega)), ty75_2, fy75_2⟩
                          · exact ok_some ⟨(ti_bd tn_0 (by omega) (by omega)), ts56_2, fs56_2⟩
                        · intro y61 hyy61
                          obtain ⟨ly61_1, ty61_2, fy61_2⟩ := hyy61
                          have iy61_1 : TI y61.1 y61.1.toInt := rfl
                          refine ok_ltA (fun x62 => ?_)
                          refine ok_ltI (av_and 1 (rfl : TI x62 x62.toInt) (by decide) (by decide)) (fun x63 ix63 => ?_)
                          refine ok_bnd (Q := fun (z : DD) => TT G z p w L ∧ Fr p [10, 17, 19, 20] M z) ?_ ?_
                          · refine ok_if (fun c22 => ?_) (fun c22 => ?_)
                            · have dc22 := tl_eq ix63 tn_1 c22
                              refine ok_bnd (Q := fun (z : Int32) => (-2048 ≤ z.toInt ∧ z.toInt ≤ 2047)) ?_ ?_
                              · refine ok_if (fun c23 => ?_) (fun c23 => ?_)
                                · have dc23 := tl_eq iy61_1 tn_0 c23
                                  refine ok_ltB (ib_p ty61_2 (by simp [PYL] : (125, 18, -2048, 2047) ∈ PYL)) (fun x73 lx73 => ?_)
                                  have ix73 : TI x73 x73.toInt := rfl
                                  exact ok_some (ti_bd ix73 (by omega) (by omega))
                                · exact ok_some (ti_bd tn_0 (by omega) (by omega))
                              · intro y67 hyy67
                                have ly67 := hyy67
                                have iy67 : TI y67 y67.toInt := rfl
                                refine ok_bnd (Q := fun (z : Int32) => (-2048 ≤ z.toInt ∧ z.toInt ≤ 2047)) ?_ ?_
                                · refine ok_if (fun c24 => ?_) (fun c24 => ?_)
                                  · have dc24 := tl_eq iy61_1 tn_0 c24
                                    refine ok_ltB (ib_p ty61_2 (by simp [PYL] : (125, 19, -2048, 2047) ∈ PYL)) (fun x71 lx71 => ?_)
                                    have ix71 : TI x71 x71.toInt := rfl
                                    exact ok_some (ti_bd ix71 (by omega) (by omega))
                                  · exact ok_some (ti_bd tn_0 (by omega) (by omega))
                                · intro y68 hyy68
                                  have ly68 := hyy68
                                  have iy68 : TI y68 y68.toInt := rfl
                                  refine ok_bnd (s_setQuarter ty61_2 i0 is12_1 is56_1 iy16 iy67 iy68 (by omega) (by omega) (by omega) (by omega) (by omega) (by omega) (by omega) (by omega) (by omega) (by omega) (by omega) (by omega)) ?_
                                  intro y69 hyy69
                                  obtain ⟨ty69, gy69⟩ := hyy69
                                  have fy69 := fr_tr fy61_2 gy69 rfl
                                  exact ok_some ⟨ty69, fy69⟩
                            · exact ok_some ⟨ty61_2, fy61_2⟩
                          · intro y64 hyy64
                            obtain ⟨ty64, fy64⟩ := hyy64
                            refine ok_ltI (av_add is56_1 tn_1 (by omega) (by omega)) (fun x65 ix65 => ?_)
                            exact ok_some ⟨⟨(ti_bd ix65 (by omega) (by omega)), ty64, fy64⟩, (mu_up ix65 (by omega) (by omega))⟩
                    · exact ⟨(ti_bd tn_0 (by omega) (by omega)), ty54, fy54⟩
                    · exact mu_0 tn_0 (by omega)
                    · intro y55 hyy55
                      obtain ⟨ly55_1, ty55_2, fy55_2⟩ := hyy55
                      have iy55_1 : TI y55.1 y55.1.toInt := rfl
                      refine ok_ltI (av_add is12_1 tn_1 (by omega) (by omega)) (fun x58 ix58 => ?_)
                      exact ok_some ⟨⟨(ti_bd ix58 (by omega) (by omega)), ty55_2, fy55_2⟩, (mu_up ix58 (by omega) (by omega))⟩
        · exact ⟨(ti_bd tn_0 (by omega) (by omega)), ty9, fy9⟩
        · exact mu_0 tn_0 (by omega)
        · intro y11 hyy11
          cases y11 with
          | inl z11k =>
            have hyz11k := hyy11
            show OK _ _
            obtain ⟨lz11k_1, tz11k_2, fz11k_2⟩ := hyz11k
            have iz11k_1 : TI z11k.1 z11k.1.toInt := rfl
            refine ok_chk (by decide) ?_
            exact ok_some ⟨tz11k_2, fz11k_2, (ti_bd tn_1 (by omega) (by omega))⟩
          | inr r9 => exact ok_some hyy11
theorem s_drawStep {G : GG} {M : DD} {p : Nat} {w : Int} {L : List Nat} (t : TT G M p w L) {p0 : Int32} {a0 : Int} (i0 : TI p0 a0) (h0 : 0 ≤ a0) (h1 : a0 < 2 * w) : OK (FX0_drawStep G M 116 p0) (fun y => TT G y.1 p w L ∧ Fr p [12] M y.1 ∧ (12 ≤ y.2.toInt ∧ y.2.toInt ≤ 51)) := by
  unfold FX0_drawStep
  have hw12 : 1 ≤ w ∧ w ≤ 2 := by rcases tt_w t with h | h <;> omega
  refine ok_dr (f_r (b := 125) t rfl (by decide)) (g_lt t (by decide)) (g_k t (by decide) rfl) ?_
  refine ok_dr (f_r (b := 215) t rfl (by decide)) (g_lt t (by decide)) (g_k t (by decide) rfl) ?_
  refine ok_dr (f_r (b := 216) t rfl (by decide)) (g_lt t (by decide)) (g_k t (by decide) rfl) ?_
  refine ok_chk (nxg (g_n (i := 216) (n := 27) t (by decide) rfl) tn_12 (by omega) (by omega)) ?_
  refine ok_ltB (ib_p t (by simp [PYL] : (216, 12, 12, 51) ∈ PYL)) (fun x5 lx5 => ?_)
  have ix5 : TI x5 x5.toInt := rfl
  refine ok_ltI (av_mul tn_8 i0 (by omega) (by omega)) (fun x6 ix6 => ?_)
  refine ok_ltI (av_add ix6 tn_0 (by omega) (by omega)) (fun x7 ix7 => ?_)
  refine ok_dr (f_r (b := 129) t rfl (by decide)) (g_lt t (by decide)) (g_k t (by decide) rfl) ?_
  refine ok_chk (nxg (g_n (i := 129) (n := 256) t (by decide) rfl) ix7 (by omega) (by omega)) ?_
  refine ok_ltA (fun x9 => ?_)
  refine ok_bnd (Q := fun (z : Int32) => (0 ≤ z.toInt ∧ z.toInt ≤ 1)) ?_ ?_
  · refine ok_if (fun c1 => ?_) (fun c1 => ?_)
    · have dc1 := tl_eq (rfl : TI x9 x9.toInt) tn_3 c1
      refine ok_ltI (av_add ix6 tn_1 (by omega) (by omega)) (fun x25 ix25 => ?_)
      refine ok_chk (nxg (g_n (i := 129) (n := 256) t (by decide) rfl) ix25 (by omega) (by omega)) ?_
      refine ok_ltA (fun x26 => ?_)
      refine ok_bnd (Q := fun (z : Int32) => (0 ≤ z.toInt ∧ z.toInt ≤ 1)) ?_ ?_
      · refine ok_if (fun c2 => ?_) (fun c2 => ?_)
        · have dc2 := tl_le tn_0 (rfl : TI x26 x26.toInt) c2
          exact ok_some (ti_bd tn_0 (by omega) (by omega))
        · have dc2 := tl_nle tn_0 (rfl : TI x26 x26.toInt) c2
          exact ok_some (ti_bd tn_1 (by omega) (by omega))
      · intro y27 hyy27
        have ly27 := hyy27
        have iy27 : TI y27 y27.toInt := rfl
        exact ok_some (ti_bd iy27 (by omega) (by omega))
    · exact ok_some (ti_bd tn_0 (by omega) (by omega))
  · intro y10 hyy10
    have ly10 := hyy10
    have iy10 : TI y10 y10.toInt := rfl
    refine ok_dr (f_r (b := 118) t rfl (by decide)) (g_lt t (by decide)) (g_k t (by decide) rfl) ?_
    refine ok_chk (nxg (g_n (i := 118) (n := 24) t (by decide) rfl) tn_8 (by omega) (by omega)) ?_
    refine ok_ltB (ib_p t (by simp [PYL] : (118, 8, 0, 1) ∈ PYL)) (fun x12 lx12 => ?_)
    have ix12 : TI x12 x12.toInt := rfl
    refine ok_if (fun c3 => ?_) (fun c3 => ?_)
    · have dc3 := tl_eq ix12 tn_0 c3
      exact ok_some ⟨t, (fr_0 p [12] M), (ti_bd ix5 (by omega) (by omega))⟩
    · refine ok_ltI (av_add ix6 tn_0 (by omega) (by omega)) (fun x14 ix14 => ?_)
      refine ok_chk (nxg (g_n (i := 129) (n := 256) t (by decide) rfl) ix14 (by omega) (by omega)) ?_
      refine ok_ltA (fun x15 => ?_)
      refine ok_if (fun c4 => ?_) (fun c4 => ?_)
      · have dc4 := tl_eq (rfl : TI x15 x15.toInt) tn_2 c4
        exact ok_some ⟨t, (fr_0 p [12] M), (ti_bd ix5 (by omega) (by omega))⟩
      · refine ok_if (fun c5 => ?_) (fun c5 => ?_)
        · have dc5 := tl_eq iy10 tn_0 c5
          refine ok_bnd (s_draw t tn_4) ?_
          intro y18 hyy18
          obtain ⟨ty18, gy18, ly18⟩ := hyy18
          have fy18 := fr_tr (fr_0 p [12] M) gy18 rfl
          have iy18 : TI y18.2 y18.2.toInt := rfl
          refine ok_if (fun c6 => ?_) (fun c6 => ?_)
          · have dc6 := tl_eq iy18 tn_0 c6
            refine ok_bnd (s_draw ty18 tn_5) ?_
            intro y20 hyy20
            obtain ⟨ty20, gy20, ly20⟩ := hyy20
            have fy20 := fr_tr fy18 gy20 rfl
            have iy20 : TI y20.2 y20.2.toInt := rfl
            refine ok_ltI (av_add ix5 iy20 (by omega) (by omega)) (fun x21 ix21 => ?_)
            refine ok_ltI (av_sub ix21 tn_2 (by omega) (by omega)) (fun x22 ix22 => ?_)
            refine ok_bnd (s_clamp ty20 tn_12 tn_51 (by omega)) ?_
            intro y23 hyy23
            obtain ⟨ty23, gy23, ly23⟩ := hyy23
            have fy23 := fr_tr fy20 gy23 rfl
            have iy23 : TI y23.2 y23.2.toInt := rfl
            exact ok_some ⟨ty23, fy23, (ti_bd iy23 (by omega) (by omega))⟩
          · exact ok_some ⟨ty18, fy18, (ti_bd ix5 (by omega) (by omega))⟩
        · exact ok_some ⟨t, (fr_0 p [12] M), (ti_bd ix5 (by omega) (by omega))⟩
theorem s_chooseColours {G : GG} {M : DD} {p : Nat} {w : Int} {L : List Nat} (t : TT G M p w L) {p0 : Int32} {a0 : Int} (i0 : TI p0 a0) {p1 : Int32} {a1 : Int} (i1 : TI p1 a1) (h0 : 0 ≤ a0) (h1 : a0 < 2 * w) (h2 : 0 ≤ a1) (h3 : a1 ≤ 15) (h4 : a1 % 2 = 1 → 1 ≤ a0 % w) (h5 : a1 / 2 % 2 = 1 → w ≤ a0) (h6 : a1 / 4 % 2 = 1 → 1 ≤ a0 % w ∧ w ≤ a0) (h7 : a1 / 8 % 2 = 1 → w ≤ a0) : OK (FX0_chooseColours G M 116 p0 p1) (fun y => TT G y p w L ∧ Fr p [1, 3] M y) := by
  unfold FX0_chooseColours
  have hw12 : 1 ≤ w ∧ w ≤ 2 := by rcases tt_w t with h | h <;> omega
  refine ok_bnd (Q := fun (z : Int32 × Int32 × DD) => True ∧ (0 ≤ z.2.1.toInt ∧ z.2.1.toInt ≤ 4) ∧ TT G z.2.2 p w L ∧ Fr p [1, 3] M z.2.2) (ok_itr (fun (z : Int32 × Int32 × DD) => True ∧ (0 ≤ z.2.1.toInt ∧ z.2.1.toInt ≤ 4) ∧ TT G z.2.2 p w L ∧ Fr p [1, 3] M z.2.2) (fun z => (4 - z.2.1.toInt).toNat) ?_ _ _ ?_ ?_) ?_
  · intro s2 hys2
    obtain ⟨_, ls2_2_1, ts2_2_2, fs2_2_2⟩ := hys2
    have is2_2_1 : TI s2.2.1 s2.2.1.toInt := rfl
    refine ok_if (fun c1 => ?_) (fun c1 => ?_)
    · have dc1 := tl_le tn_4 is2_2_1 c1
      exact ok_some ⟨trivial, (ti_bd is2_2_1 (by omega) (by omega)), ts2_2_2, fs2_2_2⟩
    · have dc1 := tl_nle tn_4 is2_2_1 c1
      refine ok_bnd (s_mayBeColours ts2_2_2) ?_
      intro y6 hyy6
      obtain ⟨ty6, gy6, ly6⟩ := hyy6
      have fy6 := fr_tr fs2_2_2 gy6 rfl
      have iy6 : TI y6.2 y6.2.toInt := rfl
      refine ok_bnd (Q := fun (z : Int32 × DD) => True ∧ TT G z.2 p w L ∧ Fr p [1, 3] M z.2) ?_ ?_
      · refine ok_if (fun c2 => ?_) (fun c2 => ?_)
        · have dc2 := tl_eq iy6 tn_0 c2
          exact ok_some ⟨trivial, ty6, fy6⟩
        · refine ok_dr (f_r (b := 138) ty6 rfl (by decide)) (g_lt ty6 (by decide)) (g_k ty6 (by decide) rfl) ?_
          refine ok_bnd (s_predictColours_ ty6 (f_r (b := 125) ty6 rfl (by decide)) i0 i1 (by omega) (by omega) (by omega) (by omega) (by omega) (by omega) (by omega) (by omega)) ?_
          intro y11 hyy11
          obtain ⟨ty11, gy11⟩ := hyy11
          have fy11 := fr_tr fy6 gy11 rfl
          refine ok_dr (f_r (b := 138) ty11 rfl (by decide)) (g_lt ty11 (by decide)) (g_k ty11 (by decide) rfl) ?_
          refine ok_bnd (s_colourDifferences ty11 (f_r (b := 125) ty11 rfl (by decide)) (f_r (b := 209) ty11 rfl (by decide)) i0 (by omega) (by omega)) ?_
          intro y13 hyy13
          obtain ⟨ty13, gy13, _⟩ := hyy13
          have fy13 := fr_tr fy11 gy13 rfl
          refine ok_bnd (Q := fun (z : Int32 × DD) => True ∧ TT G z.2 p w L ∧ Fr p [1, 3] M z.2) ?_ ?_
          · refine ok_if (fun c3 => ?_) (fun c3 => ?_)
            · have dc3 := tl_le (rfl : TI s2.1 s2.1.toInt) (rfl : TI y13.2 y13.2.toInt) c3
              exact ok_some ⟨trivial, ty13, fy13⟩
            · have dc3 := tl_nle (rfl : TI s2.1 s2.1.toInt) (rfl : TI y13.2 y13.2.toInt) c3
              refine ok_dr (f_r (b := 125) ty13 rfl (by decide)) (g_lt ty13 (by decide)) (g_k ty13 (by decide) rfl) ?_
              refine ok_ltI (av_mul tn_8 i0 (by omega) (by omega)) (fun x17 ix17 => ?_)
              refine ok_ltI (av_add ix17 tn_5 (by omega) (by omega)) (fun x18 ix18 => ?_)
              refine ok_dr (f_r (b := 129) ty13 rfl (by decide)) (g_lt ty13 (by decide)) (g_k ty13 (by decide) rfl) ?_
              refine ok_chk (nxg (g_n (i := 129) (n := 256) ty13 (by decide) rfl) ix18 (by omega) (by omega)) ?_
              refine ok_ltt (fun M20 eM20 => ?_)
              have tM20 : TT G M20 p w L := by rw [eM20]; exact (tt_w0 ty13 rfl)
              have fM20 : Fr p [1, 3] M M20 := by rw [eM20]; exact (fr_w fy13 rfl)
              clear eM20
              exact ok_some ⟨trivial, tM20, fM20⟩
          · intro y14 hyy14
            obtain ⟨_, ty14_2, fy14_2⟩ := hyy14
            exact ok_some ⟨trivial, ty14_2, fy14_2⟩
      · intro y7 hyy7
        obtain ⟨_, ty7_2, fy7_2⟩ := hyy7
        refine ok_ltI (av_add is2_2_1 tn_1 (by omega) (by omega)) (fun x8 ix8 => ?_)
        exact ok_some ⟨⟨trivial, (ti_bd ix8 (by omega) (by omega)), ty7_2, fy7_2⟩, (mu_up ix8 (by omega) (by omega))⟩
  · exact ⟨trivial, (ti_bd tn_0 (by omega) (by omega)), t, (fr_0 p [1, 3] M)⟩
  · exact mu_0 tn_0 (by omega)
  · intro y1 hyy1
    obtain ⟨_, ly1_2_1, ty1_2_2, fy1_2_2⟩ := hyy1
    have iy1_2_1 : TI y1.2.1 y1.2.1.toInt := rfl
    exact ok_some ⟨ty1_2_2, fy1_2_2⟩
theorem s_offer {G : GG} {M : DD} {p : Nat} {w : Int} {L : List Nat} (t : TT G M p w L) {p0 : Int32} {p1 : Int32} {p2 : Int32} {a2 : Int} (i2 : TI p2 a2) (h0 : 0 ≤ a2) (h1 : a2 ≤ 8) : OK (FX0_offer G M 116 p0 p1 p2) (fun y => TT G y p w L ∧ Fr p [14] M y) := by
  unfold FX0_offer
  have hw12 : 1 ≤ w ∧ w ≤ 2 := by rcases tt_w t with h | h <;> omega
  refine ok_dr (f_r (b := 214) t rfl (by decide)) (g_lt t (by decide)) (g_k t (by decide) rfl) ?_
  refine ok_chk (nxg (g_n (i := 214) (n := 29) t (by decide) rfl) tn_10 (by omega) (by omega)) ?_
  refine ok_ltA (fun x2 => ?_)
  refine ok_bnd (Q := fun (z : DD) => TT G z p w L ∧ Fr p [14] M z) ?_ ?_
  · refine ok_if (fun c1 => ?_) (fun c1 => ?_)
    · have dc1 := tl_le (rfl : TI x2 x2.toInt) (rfl : TI p0 p0.toInt) c1
      exact ok_some ⟨t, (fr_0 p [14] M)⟩
    · have dc1 := tl_nle (rfl : TI x2 x2.toInt) (rfl : TI p0 p0.toInt) c1
      refine ok_chk (nxg (g_n (i := 214) (n := 29) t (by decide) rfl) tn_10 (by omega) (by omega)) ?_
      refine ok_ltt (fun M5 eM5 => ?_)
      have tM5 : TT G M5 p w L := by rw [eM5]; exact (tt_214g t tn_10 (rfl : TI p0 p0.toInt) (by omega) (by omega) (by omega) (by omega))
      have fM5 : Fr p [14] M M5 := by rw [eM5]; exact (fr_w (fr_0 p [14] M) rfl)
      clear eM5
      refine ok_dr (f_r (b := 214) tM5 rfl (by decide)) (g_lt tM5 (by decide)) (g_k tM5 (by decide) rfl) ?_
      refine ok_chk (nxg (g_n (i := 214) (n := 29) tM5 (by decide) rfl) tn_11 (by omega) (by omega)) ?_
      refine ok_ltt (fun M7 eM7 => ?_)
      have tM7 : TT G M7 p w L := by rw [eM7]; exact (tt_214g tM5 tn_11 (rfl : TI p1 p1.toInt) (by omega) (by omega) (by omega) (by omega))
      have fM7 : Fr p [14] M M7 := by rw [eM7]; exact (fr_w fM5 rfl)
      clear eM7
      refine ok_dr (f_r (b := 214) tM7 rfl (by decide)) (g_lt tM7 (by decide)) (g_k tM7 (by decide) rfl) ?_
      refine ok_chk (nxg (g_n (i := 214) (n := 29) tM7 (by decide) rfl) tn_12 (by omega) (by omega)) ?_
      refine ok_ltt (fun M9 eM9 => ?_)
      have tM9 : TT G M9 p w L := by rw [eM9]; exact (tt_214g tM7 tn_12 i2 (by omega) (by omega) (by omega) (by omega))
      have fM9 : Fr p [14] M M9 := by rw [eM9]; exact (fr_w fM7 rfl)
      clear eM9
      exact ok_some ⟨tM9, fM9⟩
  · intro y3 hyy3
    obtain ⟨ty3, fy3⟩ := hyy3
    exact ok_some ⟨ty3, fy3⟩
theorem s_bitsOfUe {G : GG} {M : DD} {p : Nat} {w : Int} {L : List Nat} (t : TT G M p w L) {p0 : Int32} : OK (FX10_bitsOfUe G M p0) (fun y => TT G y.1 p w L ∧ Fr p [] M y.1 ∧ True) := by
  unfold FX10_bitsOfUe
  have hw12 : 1 ≤ w ∧ w ≤ 2 := by rcases tt_w t with h | h <;> omega
  refine ok_bnd (Q := fun (z : Int32) => (0 ≤ z.toInt ∧ z.toInt ≤ 31)) (ok_itr (fun (z : Int32) => (0 ≤ z.toInt ∧ z.toInt ≤ 31)) (fun z => (31 - z.toInt).toNat) ?_ _ _ ?_ ?_) ?_
  · intro s2 hys2
    have ls2 := hys2
    have is2 : TI s2 s2.toInt := rfl
    refine ok_if (fun c1 => ?_) (fun c1 => ?_)
    · have dc1 := tl_le tn_31 is2 c1
      exact ok_some (ti_bd is2 (by omega) (by omega))
    · have dc1 := tl_nle tn_31 is2 c1
      refine ok_ltA (fun x8 => ?_)
      refine ok_ltA (fun x9 => ?_)
      refine ok_ltI (av_add is2 tn_1 (by omega) (by omega)) (fun x10 ix10 => ?_)
      refine ok_ltA (fun x11 => ?_)
      refine ok_ltA (fun x12 => ?_)
      refine ok_if (fun c2 => ?_) (fun c2 => ?_)
      · have dc2 := tl_le (rfl : TI x12 x12.toInt) tn_0 c2
        exact ok_some (ti_bd is2 (by omega) (by omega))
      · have dc2 := tl_nle (rfl : TI x12 x12.toInt) tn_0 c2
        refine ok_ltI (av_add is2 tn_1 (by omega) (by omega)) (fun x14 ix14 => ?_)
        exact ok_some ⟨(ti_bd ix14 (by omega) (by omega)), (mu_up ix14 (by omega) (by omega))⟩
  · exact (ti_bd tn_0 (by omega) (by omega))
  · exact mu_0 tn_0 (by omega)
  · intro y1 hyy1
    have ly1 := hyy1
    have iy1 : TI y1 y1.toInt := rfl
    refine ok_ltI (av_mul tn_2 iy1 (by omega) (by omega)) (fun x4 ix4 => ?_)
    refine ok_ltI (av_add ix4 tn_1 (by omega) (by omega)) (fun x5 ix5 => ?_)
    exact ok_some ⟨t, (fr_0 p [] M), trivial⟩
theorem s_bitsOfTe {G : GG} {M : DD} {p : Nat} {w : Int} {L : List Nat} (t : TT G M p w L) {p0 : Int32} {p1 : Int32} : OK (FX10_bitsOfTe G M p0 p1) (fun y => TT G y.1 p w L ∧ Fr p [] M y.1 ∧ True) := by
  unfold FX10_bitsOfTe
  have hw12 : 1 ≤ w ∧ w ≤ 2 := by rcases tt_w t with h | h <;> omega
  refine ok_bnd (Q := fun (z : Int32 × DD) => True ∧ TT G z.2 p w L ∧ Fr p [] M z.2) ?_ ?_
  · refine ok_if (fun c1 => ?_) (fun c1 => ?_)
    · have dc1 := tl_eq (rfl : TI p0 p0.toInt) tn_1 c1
      exact ok_some ⟨trivial, t, (fr_0 p [] M)⟩
    · refine ok_bnd (s_bitsOfUe t) ?_
      intro y3 hyy3
      obtain ⟨ty3, gy3, _⟩ := hyy3
      have fy3 := fr_tr (fr_0 p [] M) gy3 rfl
      exact ok_some ⟨trivial, ty3, fy3⟩
  · intro y1 hyy1
    obtain ⟨_, ty1_2, fy1_2⟩ := hyy1
    exact ok_some ⟨ty1_2, fy1_2, trivial⟩
theorem s_bitsOf {G : GG} {M : DD} {p : Nat} {w : Int} {L : List Nat} (t : TT G M p w L) {p0 : Int32} {a0 : Int} (i0 : TI p0 a0) {p1 : Int32} {p2 : Int32} {p3 : Int32} (h0 : 0 ≤ a0) (h1 : a0 ≤ 1) : OK (FX0_bitsOf G M 116 p0 p1 p2 p3) (fun y => TT G y.1 p w L ∧ Fr p [] M y.1 ∧ True) := by
  unfold FX0_bitsOf
  have hw12 : 1 ≤ w ∧ w ≤ 2 := by rcases tt_w t with h | h <;> omega
  refine ok_dr (f_r (b := 125) t rfl (by decide)) (g_lt t (by decide)) (g_k t (by decide) rfl) ?_
  refine ok_dr (f_r (b := 215) t rfl (by decide)) (g_lt t (by decide)) (g_k t (by decide) rfl) ?_
  refine ok_ltI (av_add tn_9 i0 (by omega) (by omega)) (fun x4 ix4 => ?_)
  refine ok_dr (f_r (b := 216) t rfl (by decide)) (g_lt t (by decide)) (g_k t (by decide) rfl) ?_
  refine ok_chk (nxg (g_n (i := 216) (n := 27) t (by decide) rfl) ix4 (by omega) (by omega)) ?_
  refine ok_ltB (ib_216 t ix4 (by omega)) (fun x6 lx6 => ?_)
  have ix6 : TI x6 x6.toInt := rfl
  refine ok_ltB (ib_p t (by simp [PYL] : (125, 18, -2048, 2047) ∈ PYL)) (fun x7 lx7 => ?_)
  have ix7 : TI x7 x7.toInt := rfl
  refine ok_ltA (fun x8 => ?_)
  refine ok_bnd (s_indexOfSe t) ?_
  intro y9 hyy9
  obtain ⟨ty9, gy9, _⟩ := hyy9
  have fy9 := fr_tr (fr_0 p [] M) gy9 rfl
  refine ok_bnd (s_bitsOfUe ty9) ?_
  intro y10 hyy10
  obtain ⟨ty10, gy10, _⟩ := hyy10
  have fy10 := fr_tr fy9 gy10 rfl
  refine ok_dr (f_r (b := 125) ty10 rfl (by decide)) (g_lt ty10 (by decide)) (g_k ty10 (by decide) rfl) ?_
  refine ok_ltB (ib_p ty10 (by simp [PYL] : (125, 19, -2048, 2047) ∈ PYL)) (fun x12 lx12 => ?_)
  have ix12 : TI x12 x12.toInt := rfl
  refine ok_ltA (fun x13 => ?_)
  refine ok_bnd (s_indexOfSe ty10) ?_
  intro y14 hyy14
  obtain ⟨ty14, gy14, _⟩ := hyy14
  have fy14 := fr_tr fy10 gy14 rfl
  refine ok_bnd (s_bitsOfUe ty14) ?_
  intro y15 hyy15
  obtain ⟨ty15, gy15, _⟩ := hyy15
  have fy15 := fr_tr fy14 gy15 rfl
  refine ok_ltA (fun x16 => ?_)
  refine ok_bnd (Q := fun (z : Int32 × DD) => True ∧ TT G z.2 p w L ∧ Fr p [] M z.2) ?_ ?_
  · refine ok_if (fun c1 => ?_) (fun c1 => ?_)
    · have dc1 := tl_le ix6 tn_1 c1
      exact ok_some ⟨trivial, ty15, fy15⟩
    · have dc1 := tl_nle ix6 tn_1 c1
      refine ok_ltI (av_sub ix6 tn_1 (by omega) (by omega)) (fun x20 ix20 => ?_)
      refine ok_bnd (s_bitsOfTe ty15) ?_
      intro y21 hyy21
      obtain ⟨ty21, gy21, _⟩ := hyy21
      have fy21 := fr_tr fy15 gy21 rfl
      exact ok_some ⟨trivial, ty21, fy21⟩
  · intro y17 hyy17
    obtain ⟨_, ty17_2, fy17_2⟩ := hyy17
    refine ok_ltA (fun x18 => ?_)
    exact ok_some ⟨ty17_2, fy17_2, trivial⟩
theorem s_noteBest {G : GG} {M : DD} {p : Nat} {w : Int} {L : List Nat} (t : TT G M p w L) {p0 : Int32} {a0 : Int} (i0 : TI p0 a0) {p1 : Int32} {p2 : Int32} {a2 : Int} (i2 : TI p2 a2) {p3 : Int32} {a3 : Int} (i3 : TI p3 a3) {p4 : Int32} {a4 : Int} (i4 : TI p4 a4) (h0 : 0 ≤ a0) (h1 : a0 ≤ 1) (h2 : 0 ≤ a2) (h3 : a2 ≤ 7) (h4 : -2048 ≤ a3) (h5 : a3 ≤ 2047) (h6 : -2048 ≤ a4) (h7 : a4 ≤ 2047) : OK (FX0_noteBest G M 116 p0 p1 p2 p3 p4) (fun y => TT G y p w L ∧ Fr p [14] M y) := by
  unfold FX0_noteBest
  have hw12 : 1 ≤ w ∧ w ≤ 2 := by rcases tt_w t with h | h <;> omega
  refine ok_ltI (av_mul tn_5 i0 (by omega) (by omega)) (fun x1 ix1 => ?_)
  refine ok_dr (f_r (b := 214) t rfl (by decide)) (g_lt t (by decide)) (g_k t (by decide) rfl) ?_
  refine ok_chk (nxg (g_n (i := 214) (n := 29) t (by decide) rfl) ix1 (by omega) (by omega)) ?_
  refine ok_ltA (fun x3 => ?_)
  refine ok_bnd (Q := fun (z : DD) => TT G z p w L ∧ Fr p [14] M z) ?_ ?_
  · refine ok_if (fun c1 => ?_) (fun c1 => ?_)
    · have dc1 := tl_le (rfl : TI x3 x3.toInt) (rfl : TI p1 p1.toInt) c1
      exact ok_some ⟨t, (fr_0 p [14] M)⟩
    · have dc1 := tl_nle (rfl : TI x3 x3.toInt) (rfl : TI p1 p1.toInt) c1
      refine ok_chk (nxg (g_n (i := 214) (n := 29) t (by decide) rfl) ix1 (by omega) (by omega)) ?_
      refine ok_ltt (fun M6 eM6 => ?_)
      have tM6 : TT G M6 p w L := by rw [eM6]; exact (tt_214g t ix1 (rfl : TI p1 p1.toInt) (by omega) (by omega) (by omega) (by omega))
      have fM6 : Fr p [14] M M6 := by rw [eM6]; exact (fr_w (fr_0 p [14] M) rfl)
      clear eM6
      refine ok_ltI (av_add ix1 tn_1 (by omega) (by omega)) (fun x7 ix7 => ?_)
      refine ok_dr (f_r (b := 214) tM6 rfl (by decide)) (g_lt tM6 (by decide)) (g_k tM6 (by decide) rfl) ?_
      refine ok_chk (nxg (g_n (i := 214) (n := 29) tM6 (by decide) rfl) ix7 (by omega) (by omega)) ?_
      refine ok_ltt (fun M9 eM9 => ?_)
      have tM9 : TT G M9 p w L := by rw [eM9]; exact (tt_214g tM6 ix7 i2 (by omega) (by omega) (by omega) (by omega))
      have fM9 : Fr p [14] M M9 := by rw [eM9]; exact (fr_w fM6 rfl)
      clear eM9
      refine ok_ltI (av_add ix1 tn_2 (by omega) (by omega)) (fun x10 ix10 => ?_)
      refine ok_dr (f_r (b := 214) tM9 rfl (by decide)) (g_lt tM9 (by decide)) (g_k tM9 (by decide) rfl) ?_
      refine ok_chk (nxg (g_n (i := 214) (n := 29) tM9 (by decide) rfl) ix10 (by omega) (by omega)) ?_
      refine ok_ltt (fun M12 eM12 => ?_)
      have tM12 : TT G M12 p w L := by rw [eM12]; exact (tt_214g tM9 ix10 i3 (by omega) (by omega) (by omega) (by omega))
      have fM12 : Fr p [14] M M12 := by rw [eM12]; exact (fr_w fM9 rfl)
      clear eM12
      refine ok_ltI (av_add ix1 tn_3 (by omega) (by omega)) (fun x13 ix13 => ?_)
      refine ok_dr (f_r (b := 214) tM12 rfl (by decide)) (g_lt tM12 (by decide)) (g_k tM12 (by decide) rfl) ?_
      refine ok_chk (nxg (g_n (i := 214) (n := 29) tM12 (by decide) rfl) ix13 (by omega) (by omega)) ?_
      refine ok_ltt (fun M15 eM15 => ?_)
      have tM15 : TT G M15 p w L := by rw [eM15]; exact (tt_214g tM12 ix13 i4 (by omega) (by omega) (by omega) (by omega))
      have fM15 : Fr p [14] M M15 := by rw [eM15]; exact (fr_w fM12 rfl)
      clear eM15
      refine ok_ltI (av_add ix1 tn_4 (by omega) (by omega)) (fun x16 ix16 => ?_)
      refine ok_bnd (s_bitsOf tM15 i0 (by omega) (by omega)) ?_
      intro y17 hyy17
      obtain ⟨ty17, gy17, _⟩ := hyy17
      have fy17 := fr_tr fM15 gy17 rfl
      refine ok_dr (f_r (b := 214) tM15 rfl (by decide)) (g_lt ty17 (by decide)) (g_k ty17 (by decide) rfl) ?_
      refine ok_chk (nxg (g_n (i := 214) (n := 29) ty17 (by decide) rfl) ix16 (by omega) (by omega)) ?_
      refine ok_ltt (fun M19 eM19 => ?_)
      have tM19 : TT G M19 p w L := by rw [eM19]; exact (tt_214g ty17 ix16 (rfl : TI y17.2 y17.2.toInt) (by omega) (by omega) (by omega) (by omega))
      have fM19 : Fr p [14] M M19 := by rw [eM19]; exact (fr_w fy17 rfl)
      clear eM19
      exact ok_some ⟨tM19, fM19⟩
  · intro y4 hyy4
    obtain ⟨ty4, fy4⟩ := hyy4
    exact ok_some ⟨ty4, fy4⟩
theorem s_costOf {G : GG} {M : DD} {p : Nat} {w : Int} {L : List Nat} (t : TT G M p w L) {p0 : Int32} {a0 : Int} (i0 : TI p0 a0) {p1 : Int32} {a1 : Int} (i1 : TI p1 a1) {p2 : Int32} {a2 : Int} (i2 : TI p2 a2) {p3 : Int32} {a3 : Int} (i3 : TI p3 a3) {p4 : Int32} {a4 : Int} (i4 : TI p4 a4) (h0 : 0 ≤ a0) (h1 : a0 < 2 * w) (h2 : 0 ≤ a1) (h3 : a1 ≤ 1) (h4 : 0 ≤ a2) (h5 : a2 ≤ 7) : OK (FX0_costOf G M 116 p0 p1 p2 p3 p4) (fun y => TT G y.1 p w L ∧ Fr p [1] M y.1 ∧ ((y.2.toInt < 2147483647 → -2048 ≤ a3 ∧ a3 ≤ 2047 ∧ -2048 ≤ a4 ∧ a4 ≤ 2047))) := by
  unfold FX0_costOf
  have r3 := i32_b i3
  have r4 := i32_b i4
  have hw12 : 1 ≤ w ∧ w ≤ 2 := by rcases tt_w t with h | h <;> omega
  refine ok_if (fun c1 => ?_) (fun c1 => ?_)
  · have dc1 := tl_lt i3 tn_m2048 c1
    exact ok_some ⟨t, (fr_0 p [1] M), (by have q : _ = _ := tn_2147483647; (try dsimp only); omega)⟩
  · have dc1 := tl_nlt i3 tn_m2048 c1
    refine ok_if (fun c2 => ?_) (fun c2 => ?_)
    · have dc2 := tl_lt tn_2047 i3 c2
      exact ok_some ⟨t, (fr_0 p [1] M), (by have q : _ = _ := tn_2147483647; (try dsimp only); omega)⟩
    · have dc2 := tl_nlt tn_2047 i3 c2
      refine ok_if (fun c3 => ?_) (fun c3 => ?_)
      · have dc3 := tl_lt i4 tn_m2048 c3
        exact ok_some ⟨t, (fr_0 p [1] M), (by have q : _ = _ := tn_2147483647; (try dsimp only); omega)⟩
      · have dc3 := tl_nlt i4 tn_m2048 c3
        refine ok_if (fun c4 => ?_) (fun c4 => ?_)
        · have dc4 := tl_le i4 tn_2047 c4
          refine ok_dr (f_r (b := 138) t rfl (by decide)) (g_lt t (by decide)) (g_k t (by decide) rfl) ?_
          refine ok_ltI (av_mul tn_3 i1 (by omega) (by omega)) (fun x6 ix6 => ?_)
          refine ok_ltI (av_sub tn_3 ix6 (by omega) (by omega)) (fun x7 ix7 => ?_)
          refine ok_dr (f_r (b := 144) t rfl (by decide)) (g_lt t (by decide)) (g_k t (by decide) rfl) ?_
          refine ok_chk (nxg (g_n (i := 144) (n := 6) t (by decide) rfl) ix7 (by omega) (by omega)) ?_
          refine ok_ltt (fun M9 eM9 => ?_)
          have tM9 : TT G M9 p w L := by rw [eM9]; exact (tt_144 t (fun _ => (ti_ib tn_m1 (by omega) (by omega))))
          have fM9 : Fr p [1] M M9 := by rw [eM9]; exact (fr_w (fr_0 p [1] M) rfl)
          clear eM9
          refine ok_ltI (av_mul tn_3 i1 (by omega) (by omega)) (fun x10 ix10 => ?_)
          refine ok_chk (nxg (g_n (i := 144) (n := 6) tM9 (by decide) rfl) ix10 (by omega) (by omega)) ?_
          refine ok_ltt (fun M11 eM11 => ?_)
          have tM11 : TT G M11 p w L := by rw [eM11]; exact (tt_144 tM9 (fun _ => (ti_ib i2 (by omega) (by omega))))
          have fM11 : Fr p [1] M M11 := by rw [eM11]; exact (fr_w fM9 rfl)
          clear eM11
          refine ok_ltI (av_mul tn_3 i1 (by omega) (by omega)) (fun x12 ix12 => ?_)
          refine ok_ltI (av_add ix12 tn_1 (by omega) (by omega)) (fun x13 ix13 => ?_)
          refine ok_chk (nxg (g_n (i := 144) (n := 6) tM11 (by decide) rfl) ix13 (by omega) (by omega)) ?_
          refine ok_ltt (fun M14 eM14 => ?_)
          have tM14 : TT G M14 p w L := by rw [eM14]; exact (tt_144n tM11 ix13 (by omega) (by omega))
          have fM14 : Fr p [1] M M14 := by rw [eM14]; exact (fr_w fM11 rfl)
          clear eM14
          refine ok_ltI (av_mul tn_3 i1 (by omega) (by omega)) (fun x15 ix15 => ?_)
          refine ok_ltI (av_add ix15 tn_2 (by omega) (by omega)) (fun x16 ix16 => ?_)
          refine ok_chk (nxg (g_n (i := 144) (n := 6) tM14 (by decide) rfl) ix16 (by omega) (by omega)) ?_
          refine ok_ltt (fun M17 eM17 => ?_)
          have tM17 : TT G M17 p w L := by rw [eM17]; exact (tt_144n tM14 ix16 (by omega) (by omega))
          have fM17 : Fr p [1] M M17 := by rw [eM17]; exact (fr_w fM14 rfl)
          clear eM17
          refine ok_dr (f_r (b := 138) tM17 rfl (by decide)) (g_lt tM17 (by decide)) (g_k tM17 (by decide) rfl) ?_
          refine ok_bnd (s_predictRegion tM17 (f_r (b := 125) tM17 rfl (by decide)) i0 tn_0 tn_16 (by omega) (by omega) (by omega) (by omega) (by omega)) ?_
          intro y19 hyy19
          obtain ⟨ty19, gy19⟩ := hyy19
          have fy19 := fr_tr fM17 gy19 rfl
          refine ok_dr (f_r (b := 209) ty19 rfl (by decide)) (g_lt ty19 (by decide)) (g_k ty19 (by decide) rfl) ?_
          refine ok_chk (nxg (g_n (i := 209) (n := 3) ty19 (by decide) rfl) tn_0 (by omega) (by omega)) ?_
          refine ok_dr (f_r (b := 138) ty19 rfl (by decide)) (g_lt ty19 (by decide)) (g_k ty19 (by decide) rfl) ?_
          obtain ⟨c5, hc5, nc5, ec5⟩ := ps_0 ty19
          refine ok_bnd (s_differences ty19 (f_r (b := 125) ty19 rfl (by decide)) ec5 hc5 nc5 i0 tn_0 tn_16 (by omega) (by omega) (by omega) (by omega) (by omega) (by omega) (by omega)) ?_
          intro y22 hyy22
          obtain ⟨ty22, gy22, _⟩ := hyy22
          have fy22 := fr_tr fy19 gy22 rfl
          refine ok_bnd (s_priceOfBit ty22) ?_
          intro y23 hyy23
          obtain ⟨ty23, gy23, _⟩ := hyy23
          have fy23 := fr_tr fy22 gy23 rfl
          refine ok_bnd (s_bitsOf ty23 i1 (by omega) (by omega)) ?_
          intro y24 hyy24
          obtain ⟨ty24, gy24, _⟩ := hyy24
          have fy24 := fr_tr fy23 gy24 rfl
          refine ok_ltA (fun x25 => ?_)
          refine ok_ltA (fun x26 => ?_)
          exact ok_some ⟨ty24, fy24, (by have q : _ = _ := (rfl : TI x26 x26.toInt); (try dsimp only); omega)⟩
        · have dc4 := tl_nle i4 tn_2047 c4
          exact ok_some ⟨t, (fr_0 p [1] M), (by have q : _ = _ := tn_2147483647; (try dsimp only); omega)⟩
theorem s_costOfBoth {G : GG} {M : DD} {p : Nat} {w : Int} {L : List Nat} (t : TT G M p w L) {p0 : Int32} {a0 : Int} (i0 : TI p0 a0) (h0 : 0 ≤ a0) (h1 : a0 < 2 * w) : OK (FX0_costOfBoth G M 116 p0) (fun y => TT G y.1 p w L ∧ Fr p [1] M y.1 ∧ True) := by
  unfold FX0_costOfBoth
  have hw12 : 1 ≤ w ∧ w ≤ 2 := by rcases tt_w t with h | h <;> omega
  refine ok_dr (f_r (b := 214) t rfl (by decide)) (g_lt t (by decide)) (g_k t (by decide) rfl) ?_
  refine ok_chk (nxg (g_n (i := 214) (n := 29) t (by decide) rfl) tn_0 (by omega) (by omega)) ?_
  refine ok_ltA (fun x3 => ?_)
  refine ok_if (fun c1 => ?_) (fun c1 => ?_)
  · have dc1 := tl_eq (rfl : TI x3 x3.toInt) tn_2147483647 c1
    exact ok_some ⟨t, (fr_0 p [1] M), trivial⟩
  · refine ok_chk (nxg (g_n (i := 214) (n := 29) t (by decide) rfl) tn_5 (by omega) (by omega)) ?_
    refine ok_ltA (fun x5 => ?_)
    refine ok_if (fun c2 => ?_) (fun c2 => ?_)
    · have dc2 := tl_eq (rfl : TI x5 x5.toInt) tn_2147483647 c2
      exact ok_some ⟨t, (fr_0 p [1] M), trivial⟩
    · refine ok_bnd (Q := fun (z : Int32 × DD) => (0 ≤ z.1.toInt ∧ z.1.toInt ≤ 2) ∧ TT G z.2 p w L ∧ Fr p [1] M z.2) (ok_itr (fun (z : Int32 × DD) => (0 ≤ z.1.toInt ∧ z.1.toInt ≤ 2) ∧ TT G z.2 p w L ∧ Fr p [1] M z.2) (fun z => (2 - z.1.toInt).toNat) ?_ _ _ ?_ ?_) ?_
      · intro s8 hys8
        obtain ⟨ls8_1, ts8_2, fs8_2⟩ := hys8
        have is8_1 : TI s8.1 s8.1.toInt := rfl
        refine ok_if (fun c3 => ?_) (fun c3 => ?_)
        · have dc3 := tl_le tn_2 is8_1 c3
          exact ok_some ⟨(ti_bd is8_1 (by omega) (by omega)), ts8_2, fs8_2⟩
        · have dc3 := tl_nle tn_2 is8_1 c3
          refine ok_ltI (av_mul tn_5 is8_1 (by omega) (by omega)) (fun x24 ix24 => ?_)
          refine ok_ltI (av_add ix24 tn_1 (by omega) (by omega)) (fun x25 ix25 => ?_)
          refine ok_dr (f_r (b := 138) ts8_2 rfl (by decide)) (g_lt ts8_2 (by decide)) (g_k ts8_2 (by decide) rfl) ?_
          refine ok_ltI (av_mul tn_3 is8_1 (by omega) (by omega)) (fun x27 ix27 => ?_)
          refine ok_dr (f_r (b := 214) ts8_2 rfl (by decide)) (g_lt ts8_2 (by decide)) (g_k ts8_2 (by decide) rfl) ?_
          refine ok_dr (f_r (b := 144) ts8_2 rfl (by decide)) (g_lt ts8_2 (by decide)) (g_k ts8_2 (by decide) rfl) ?_
          refine ok_chk (cpx ix25 ix27 tn_3 (by omega) (by omega) (by omega) (by have q := (g_n (i := 214) (n := 29) ts8_2 (by decide) rfl); omega) (by have q := (g_n (i := 144) (n := 6) ts8_2 (by decide) rfl); omega)) ?_
          refine ok_ltt (fun M30 eM30 => ?_)
          have tM30 : TT G M30 p w L := by rw [eM30]; exact (tt_mot ts8_2 ix25 ix27 (by omega))
          have fM30 : Fr p [1] M M30 := by rw [eM30]; exact (fr_r fs8_2 (fun _ => rfl))
          clear eM30
          refine ok_ltI (av_add is8_1 tn_1 (by omega) (by omega)) (fun x31 ix31 => ?_)
          exact ok_some ⟨⟨(ti_bd ix31 (by omega) (by omega)), tM30, fM30⟩, (mu_up ix31 (by omega) (by omega))⟩
      · exact ⟨(ti_bd tn_0 (by omega) (by omega)), t, (fr_0 p [1] M)⟩
      · exact mu_0 tn_0 (by omega)
      · intro y7 hyy7
        obtain ⟨ly7_1, ty7_2, fy7_2⟩ := hyy7
        have iy7_1 : TI y7.1 y7.1.toInt := rfl
        refine ok_dr (f_r (b := 138) ty7_2 rfl (by decide)) (g_lt ty7_2 (by decide)) (g_k ty7_2 (by decide) rfl) ?_
        refine ok_bnd (s_predictRegion ty7_2 (f_r (b := 125) ty7_2 rfl (by decide)) i0 tn_0 tn_16 (by omega) (by omega) (by omega) (by omega) (by omega)) ?_
        intro y11 hyy11
        obtain ⟨ty11, gy11⟩ := hyy11
        have fy11 := fr_tr fy7_2 gy11 rfl
        refine ok_dr (f_r (b := 209) ty11 rfl (by decide)) (g_lt ty11 (by decide)) (g_k ty11 (by decide) rfl) ?_
        refine ok_chk (nxg (g_n (i := 209) (n := 3) ty11 (by decide) rfl) tn_0 (by omega) (by omega)) ?_
        refine ok_dr (f_r (b := 138) ty11 rfl (by decide)) (g_lt ty11 (by decide)) (g_k ty11 (by decide) rfl) ?_
        obtain ⟨c4, hc4, nc4, ec4⟩ := ps_0 ty11
        refine ok_bnd (s_differences ty11 (f_r (b := 125) ty11 rfl (by decide)) ec4 hc4 nc4 i0 tn_0 tn_16 (by omega) (by omega) (by omega) (by omega) (by omega) (by omega) (by omega)) ?_
        intro y14 hyy14
        obtain ⟨ty14, gy14, _⟩ := hyy14
        have fy14 := fr_tr fy11 gy14 rfl
        refine ok_bnd (s_priceOfBit ty14) ?_
        intro y15 hyy15
        obtain ⟨ty15, gy15, _⟩ := hyy15
        have fy15 := fr_tr fy14 gy15 rfl
        refine ok_dr (f_r (b := 214) ty15 rfl (by decide)) (g_lt ty15 (by decide)) (g_k ty15 (by decide) rfl) ?_
        refine ok_chk (nxg (g_n (i := 214) (n := 29) ty15 (by decide) rfl) tn_4 (by omega) (by omega)) ?_
        refine ok_ltA (fun x17 => ?_)
        refine ok_chk (nxg (g_n (i := 214) (n := 29) ty15 (by decide) rfl) tn_9 (by omega) (by omega)) ?_
        refine ok_ltA (fun x18 => ?_)
        refine ok_ltA (fun x19 => ?_)
        refine ok_ltA (fun x20 => ?_)
        refine ok_ltA (fun x21 => ?_)
        exact ok_some ⟨ty15, fy15, trivial⟩
theorem s_costOfDirect {G : GG} {M : DD} {p : Nat} {w : Int} {L : List Nat} (t : TT G M p w L) {p0 : Int32} {a0 : Int} (i0 : TI p0 a0) (h0 : 0 ≤ a0) (h1 : a0 < 2 * w) (hos : HOS M p) : OK (FX0_costOfDirect G M 116 p0) (fun y => TT G y.1 p w L ∧ Fr p [1, 10, 17, 19, 20] M y.1 ∧ True) := by
  unfold FX0_costOfDirect
  have hw12 : 1 ≤ w ∧ w ≤ 2 := by rcases tt_w t with h | h <;> omega
  refine ok_dr (f_r (b := 125) t rfl (by decide)) (g_lt t (by decide)) (g_k t (by decide) rfl) ?_
  refine ok_bnd (s_direct t i0 (by omega) (by omega) (ho_tr t (fr_0 p [1, 10, 17, 19, 20] M) hos rfl)) ?_
  intro y3 hyy3
  obtain ⟨ty3, gy3, ly3⟩ := hyy3
  have fy3 := fr_tr (fr_0 p [1, 10, 17, 19, 20] M) gy3 rfl
  have iy3 : TI y3.2 y3.2.toInt := rfl
  refine ok_if (fun c1 => ?_) (fun c1 => ?_)
  · have dc1 := tl_eq iy3 tn_0 c1
    exact ok_some ⟨ty3, fy3, trivial⟩
  · refine ok_dr (f_r (b := 138) ty3 rfl (by decide)) (g_lt ty3 (by decide)) (g_k ty3 (by decide) rfl) ?_
    refine ok_bnd (s_predictByLists ty3 (f_r (b := 125) ty3 rfl (by decide)) i0 (by omega) (by omega)) ?_
    intro y6 hyy6
    obtain ⟨ty6, gy6⟩ := hyy6
    have fy6 := fr_tr fy3 gy6 rfl
    refine ok_dr (f_r (b := 209) ty6 rfl (by decide)) (g_lt ty6 (by decide)) (g_k ty6 (by decide) rfl) ?_
    refine ok_chk (nxg (g_n (i := 209) (n := 3) ty6 (by decide) rfl) tn_0 (by omega) (by omega)) ?_
    refine ok_dr (f_r (b := 138) ty6 rfl (by decide)) (g_lt ty6 (by decide)) (g_k ty6 (by decide) rfl) ?_
    obtain ⟨c2, hc2, nc2, ec2⟩ := ps_0 ty6
    refine ok_bnd (s_differences ty6 (f_r (b := 125) ty6 rfl (by decide)) ec2 hc2 nc2 i0 tn_0 tn_16 (by omega) (by omega) (by omega) (by omega) (by omega) (by omega) (by omega)) ?_
    intro y9 hyy9
    obtain ⟨ty9, gy9, _⟩ := hyy9
    have fy9 := fr_tr fy6 gy9 rfl
    exact ok_some ⟨ty9, fy9, trivial⟩
theorem s_searchList {G : GG} {M : DD} {p : Nat} {w : Int} {L : List Nat} (t : TT G M p w L) {p0 : Int32} {a0 : Int} (i0 : TI p0 a0) {p1 : Int32} {a1 : Int} (i1 : TI p1 a1) (h0 : 0 ≤ a0) (h1 : a0 < 2 * w) (h2 : 0 ≤ a1) (h3 : a1 ≤ 1) : OK (FX0_searchList G M 116 p0 p1) (fun y => TT G y p w L ∧ Fr p [1, 10, 14] M y) := by
  unfold FX0_searchList
  have hw12 : 1 ≤ w ∧ w ≤ 2 := by rcases tt_w t with h | h <;> omega
  refine ok_ltI (av_mul tn_5 i1 (by omega) (by omega)) (fun x1 ix1 => ?_)
  refine ok_dr (f_r (b := 214) t rfl (by decide)) (g_lt t (by decide)) (g_k t (by decide) rfl) ?_
  refine ok_chk (nxg (g_n (i := 214) (n := 29) t (by decide) rfl) ix1 (by omega) (by omega)) ?_
  refine ok_ltt (fun M3 eM3 => ?_)
  have tM3 : TT G M3 p w L := by rw [eM3]; exact (tt_214g t ix1 tn_2147483647 (by omega) (by omega) (by omega) (by omega))
  have fM3 : Fr p [1, 10, 14] M M3 := by rw [eM3]; exact (fr_w (fr_0 p [1, 10, 14] M) rfl)
  clear eM3
  refine ok_bnd (Q := fun (z : Int32 × DD) => (0 ≤ z.1.toInt ∧ z.1.toInt ≤ 2) ∧ TT G z.2 p w L ∧ Fr p [1, 10, 14] M z.2) (ok_itr (fun (z : Int32 × DD) => (0 ≤ z.1.toInt ∧ z.1.toInt ≤ 2) ∧ TT G z.2 p w L ∧ Fr p [1, 10, 14] M z.2) (fun z => (2 - z.1.toInt).toNat) ?_ _ _ ?_ ?_) ?_
  · intro s5 hys5
    obtain ⟨ls5_1, ts5_2, fs5_2⟩ := hys5
    have is5_1 : TI s5.1 s5.1.toInt := rfl
    refine ok_dr (f_r (b := 125) ts5_2 rfl (by decide)) (g_lt ts5_2 (by decide)) (g_k ts5_2 (by decide) rfl) ?_
    refine ok_dr (f_r (b := 215) ts5_2 rfl (by decide)) (g_lt ts5_2 (by decide)) (g_k ts5_2 (by decide) rfl) ?_
    refine ok_ltI (av_add tn_9 i1 (by omega) (by omega)) (fun x10 ix10 => ?_)
    refine ok_dr (f_r (b := 216) ts5_2 rfl (by decide)) (g_lt ts5_2 (by decide)) (g_k ts5_2 (by decide) rfl) ?_
    refine ok_chk (nxg (g_n (i := 216) (n := 27) ts5_2 (by decide) rfl) ix10 (by omega) (by omega)) ?_
    refine ok_ltB (ib_216 ts5_2 ix10 (by omega)) (fun x12 lx12 => ?_)
    have ix12 : TI x12 x12.toInt := rfl
    refine ok_if (fun c1 => ?_) (fun c1 => ?_)
    · have dc1 := tl_le ix12 is5_1 c1
      exact ok_some ⟨(ti_bd is5_1 (by omega) (by omega)), ts5_2, fs5_2⟩
    · have dc1 := tl_nle ix12 is5_1 c1
      refine ok_bnd (s_guess ts5_2 i0 i1 is5_1 tn_0 tn_16 (by omega) (by omega) (by omega) (by omega) (by omega) (by omega) (by omega) (by omega) (by omega)) ?_
      intro y14 hyy14
      obtain ⟨ty14, gy14⟩ := hyy14
      have fy14 := fr_tr fs5_2 gy14 rfl
      refine ok_dr (f_r (b := 125) ty14 rfl (by decide)) (g_lt ty14 (by decide)) (g_k ty14 (by decide) rfl) ?_
      refine ok_ltB (ib_p ty14 (by simp [PYL] : (125, 18, -2048, 2047) ∈ PYL)) (fun x16 lx16 => ?_)
      have ix16 : TI x16 x16.toInt := rfl
      refine ok_ltI (av_add ix16 tn_2 (by omega) (by omega)) (fun x17 ix17 => ?_)
      refine ok_ltI (av_sar 2 ix17 (by decide)) (fun x18 ix18 => ?_)
      refine ok_ltB (ib_p ty14 (by simp [PYL] : (125, 19, -2048, 2047) ∈ PYL)) (fun x19 lx19 => ?_)
      have ix19 : TI x19 x19.toInt := rfl
      refine ok_ltI (av_add ix19 tn_2 (by omega) (by omega)) (fun x20 ix20 => ?_)
      refine ok_ltI (av_sar 2 ix20 (by decide)) (fun x21 ix21 => ?_)
      refine ok_dr (f_r (b := 118) ty14 rfl (by decide)) (g_lt ty14 (by decide)) (g_k ty14 (by decide) rfl) ?_
      refine ok_chk (nxg (g_n (i := 118) (n := 24) ty14 (by decide) rfl) tn_10 (by omega) (by omega)) ?_
      refine ok_ltB (ib_p ty14 (by simp [PYL] : (118, 10, 0, 1) ∈ PYL)) (fun x23 lx23 => ?_)
      have ix23 : TI x23 x23.toInt := rfl
      refine ok_bnd (Q := fun (z : Int32 × Int32 × Int32 × Int32 × DD) => True ∧ (-2048 ≤ z.2.1.toInt ∧ z.2.1.toInt ≤ 2047) ∧ (-2048 ≤ z.2.2.1.toInt ∧ z.2.2.1.toInt ≤ 2047) ∧ (0 ≤ z.2.2.2.1.toInt ∧ z.2.2.2.1.toInt ≤ 9) ∧ TT G z.2.2.2.2 p w L ∧ Fr p [1, 10, 14] M z.2.2.2.2) (ok_itr (fun (z : Int32 × Int32 × Int32 × Int32 × DD) => True ∧ (-2048 ≤ z.2.1.toInt ∧ z.2.1.toInt ≤ 2047) ∧ (-2048 ≤ z.2.2.1.toInt ∧ z.2.2.1.toInt ≤ 2047) ∧ (0 ≤ z.2.2.2.1.toInt ∧ z.2.2.2.1.toInt ≤ 9) ∧ TT G z.2.2.2.2 p w L ∧ Fr p [1, 10, 14] M z.2.2.2.2) (fun z => (9 - z.2.2.2.1.toInt).toNat) ?_ _ _ ?_ ?_) ?_
      · intro s25 hys25
        obtain ⟨_, ls25_2_1, ls25_2_2_1, ls25_2_2_2_1, ts25_2_2_2_2, fs25_2_2_2_2⟩ := hys25
        have us25_1 := i32_b (rfl : TI s25.1 s25.1.toInt)
        have is25_2_1 : TI s25.2.1 s25.2.1.toInt := rfl
        have is25_2_2_1 : TI s25.2.2.1 s25.2.2.1.toInt := rfl
        have is25_2_2_2_1 : TI s25.2.2.2.1 s25.2.2.2.1.toInt := rfl
        refine ok_ltI (av_mul tn_2 ix23 (by omega) (by omega)) (fun x56 ix56 => ?_)
        refine ok_ltI (av_add ix56 tn_1 (by omega) (by omega)) (fun x57 ix57 => ?_)
        refine ok_ltI (av_mul tn_2 ix23 (by omega) (by omega)) (fun x58 ix58 => ?_)
        refine ok_ltI (av_add ix58 tn_1 (by omega) (by omega)) (fun x59 ix59 => ?_)
        refine ok_ltB (sq9 ix57 ix59 (by omega)) (fun x60 lx60 => ?_)
        have ix60 : TI x60 x60.toInt := rfl
        refine ok_if (fun c2 => ?_) (fun c2 => ?_)
        · have dc2 := tl_le ix60 is25_2_2_2_1 c2
          exact ok_some ⟨trivial, (ti_bd is25_2_1 (by omega) (by omega)), (ti_bd is25_2_2_1 (by omega) (by omega)), (ti_bd is25_2_2_2_1 (by omega) (by omega)), ts25_2_2_2_2, fs25_2_2_2_2⟩
        · have dc2 := tl_nle ix60 is25_2_2_2_1 c2
          refine ok_ltI (av_mul tn_2 ix23 (by omega) (by omega)) (fun x62 ix62 => ?_)
          refine ok_ltI (av_add ix62 tn_1 (by omega) (by omega)) (fun x63 ix63 => ?_)
          refine ok_chk (nz ix63 (by omega)) ?_
          refine ok_ltB (md3 (rfl : TI s25.2.2.2.1 s25.2.2.2.1.toInt) ix63 (by omega) (by omega) (by omega)) (fun x64 lx64 => ?_)
          have ix64 : TI x64 x64.toInt := rfl
          refine ok_ltI (av_add ix18 ix64 (by omega) (by omega)) (fun x65 ix65 => ?_)
          refine ok_ltI (av_sub ix65 ix23 (by omega) (by omega)) (fun x66 ix66 => ?_)
          refine ok_ltI (av_mul tn_4 ix66 (by omega) (by omega)) (fun x67 ix67 => ?_)
          refine ok_ltI (av_mul tn_2 ix23 (by omega) (by omega)) (fun x68 ix68 => ?_)
          refine ok_ltI (av_add ix68 tn_1 (by omega) (by omega)) (fun x69 ix69 => ?_)
          refine ok_chk (nz ix69 (by omega)) ?_
          refine ok_ltB (dv9 (rfl : TI s25.2.2.2.1 s25.2.2.2.1.toInt) ix69 (by omega) (by omega) (by omega)) (fun x70 lx70 => ?_)
          have ix70 : TI x70 x70.toInt := rfl
          refine ok_ltI (av_add ix21 ix70 (by omega) (by omega)) (fun x71 ix71 => ?_)
          refine ok_ltI (av_sub ix71 ix23 (by omega) (by omega)) (fun x72 ix72 => ?_)
          refine ok_ltI (av_mul tn_4 ix72 (by omega) (by omega)) (fun x73 ix73 => ?_)
          refine ok_bnd (s_costOf ts25_2_2_2_2 i0 i1 is5_1 ix67 ix73 (by omega) (by omega) (by omega) (by omega) (by omega) (by omega)) ?_
          intro y74 hyy74
          obtain ⟨ty74, gy74, ly74⟩ := hyy74
          have fy74 := fr_tr fs25_2_2_2_2 gy74 rfl
          have iy74 : TI y74.2 y74.2.toInt := rfl
          refine ok_bnd (Q := fun (z : Int32 × Int32 × Int32) => True ∧ (-2052 ≤ z.2.1.toInt ∧ z.2.1.toInt ≤ 2056) ∧ (-2052 ≤ z.2.2.toInt ∧ z.2.2.toInt ≤ 2084) ∧ (-2048 ≤ z.2.1.toInt ∧ z.2.1.toInt ≤ 2047 ∧ -2048 ≤ z.2.2.toInt ∧ z.2.2.toInt ≤ 2047)) ?_ ?_
          · refine ok_if (fun c3 => ?_) (fun c3 => ?_)
            · have dc3 := tl_le (rfl : TI s25.1 s25.1.toInt) iy74 c3
              exact ok_some ⟨trivial, (ti_bd is25_2_1 (by omega) (by omega)), (ti_bd is25_2_2_1 (by omega) (by omega)), (by have q0 : _ = _ := (rfl : TI s25.1 s25.1.toInt); have q1 : _ = _ := is25_2_1; have q2 : _ = _ := is25_2_2_1; (try dsimp only); omega)⟩
            · have dc3 := tl_nle (rfl : TI s25.1 s25.1.toInt) iy74 c3
              exact ok_some ⟨trivial, (ti_bd ix67 (by omega) (by omega)), (ti_bd ix73 (by omega) (by omega)), (by have q0 : _ = _ := iy74; have q1 : _ = _ := ix67; have q2 : _ = _ := ix73; (try dsimp only); omega)⟩
          · intro y75 hyy75
            obtain ⟨_, ly75_2_1, ly75_2_2, jy75⟩ := hyy75
            have uy75_1 := i32_b (rfl : TI y75.1 y75.1.toInt)
            have iy75_2_1 : TI y75.2.1 y75.2.1.toInt := rfl
            have iy75_2_2 : TI y75.2.2 y75.2.2.toInt := rfl
            refine ok_ltI (av_add is25_2_2_2_1 tn_1 (by omega) (by omega)) (fun x76 ix76 => ?_)
            exact ok_some ⟨⟨trivial, (ti_bd iy75_2_1 (by omega) (by omega)), (ti_bd iy75_2_2 (by omega) (by omega)), (ti_bd ix76 (by omega) (by omega)), ty74, fy74⟩, (mu_up ix76 (by omega) (by omega))⟩
      · exact ⟨trivial, (ti_bd tn_0 (by omega) (by omega)), (ti_bd tn_0 (by omega) (by omega)), (ti_bd tn_0 (by omega) (by omega)), ty14, fy14⟩
      · exact mu_0 tn_0 (by omega)
      · intro y24 hyy24
        obtain ⟨_, ly24_2_1, ly24_2_2_1, ly24_2_2_2_1, ty24_2_2_2_2, fy24_2_2_2_2⟩ := hyy24
        have uy24_1 := i32_b (rfl : TI y24.1 y24.1.toInt)
        have iy24_2_1 : TI y24.2.1 y24.2.1.toInt := rfl
        have iy24_2_2_1 : TI y24.2.2.1 y24.2.2.1.toInt := rfl
        have iy24_2_2_2_1 : TI y24.2.2.2.1 y24.2.2.2.1.toInt := rfl
        refine ok_bnd (Q := fun (z : Int32 × Int32 × Int32 × Int32 × DD) => True ∧ (-2048 ≤ z.2.1.toInt ∧ z.2.1.toInt ≤ 2047) ∧ (-2048 ≤ z.2.2.1.toInt ∧ z.2.2.1.toInt ≤ 2047) ∧ (0 ≤ z.2.2.2.1.toInt ∧ z.2.2.2.1.toInt ≤ 2) ∧ TT G z.2.2.2.2 p w L ∧ Fr p [1, 10, 14] M z.2.2.2.2) (ok_itr (fun (z : Int32 × Int32 × Int32 × Int32 × DD) => True ∧ (-2048 ≤ z.2.1.toInt ∧ z.2.1.toInt ≤ 2047) ∧ (-2048 ≤ z.2.2.1.toInt ∧ z.2.2.1.toInt ≤ 2047) ∧ (0 ≤ z.2.2.2.1.toInt ∧ z.2.2.2.1.toInt ≤ 2) ∧ TT G z.2.2.2.2 p w L ∧ Fr p [1, 10, 14] M z.2.2.2.2) (fun z => (z.2.2.2.1.toInt - 0).toNat) ?_ _ _ ?_ ?_) ?_
        · intro s28 hys28
          obtain ⟨_, ls28_2_1, ls28_2_2_1, ls28_2_2_2_1, ts28_2_2_2_2, fs28_2_2_2_2⟩ := hys28
          have us28_1 := i32_b (rfl : TI s28.1 s28.1.toInt)
          have is28_2_1 : TI s28.2.1 s28.2.1.toInt := rfl
          have is28_2_2_1 : TI s28.2.2.1 s28.2.2.1.toInt := rfl
          have is28_2_2_2_1 : TI s28.2.2.2.1 s28.2.2.2.1.toInt := rfl
          refine ok_if (fun c4 => ?_) (fun c4 => ?_)
          · have dc4 := tl_le is28_2_2_2_1 tn_0 c4
            exact ok_some ⟨trivial, (ti_bd is28_2_1 (by omega) (by omega)), (ti_bd is28_2_2_1 (by omega) (by omega)), (ti_bd is28_2_2_2_1 (by omega) (by omega)), ts28_2_2_2_2, fs28_2_2_2_2⟩
          · have dc4 := tl_nle is28_2_2_2_1 tn_0 c4
            refine ok_if (fun c5 => ?_) (fun c5 => ?_)
            · have dc5 := tl_le tn_2147483647 (rfl : TI s28.1 s28.1.toInt) c5
              exact ok_some ⟨trivial, (ti_bd is28_2_1 (by omega) (by omega)), (ti_bd is28_2_2_1 (by omega) (by omega)), (ti_bd is28_2_2_2_1 (by omega) (by omega)), ts28_2_2_2_2, fs28_2_2_2_2⟩
            · have dc5 := tl_nle tn_2147483647 (rfl : TI s28.1 s28.1.toInt) c5
              refine ok_bnd (Q := fun (z : Int32 × Int32 × Int32 × Int32 × DD) => True ∧ (-2048 ≤ z.2.1.toInt ∧ z.2.1.toInt ≤ 2047) ∧ (-2048 ≤ z.2.2.1.toInt ∧ z.2.2.1.toInt ≤ 2047) ∧ (0 ≤ z.2.2.2.1.toInt ∧ z.2.2.2.1.toInt ≤ 9) ∧ TT G z.2.2.2.2 p w L ∧ Fr p [1, 10, 14] M z.2.2.2.2) (ok_itr (fun (z : Int32 × Int32 × Int32 × Int32 × DD) => True ∧ (-2048 ≤ z.2.1.toInt ∧ z.2.1.toInt ≤ 2047) ∧ (-2048 ≤ z.2.2.1.toInt ∧ z.2.2.1.toInt ≤ 2047) ∧ (0 ≤ z.2.2.2.1.toInt ∧ z.2.2.2.1.toInt ≤ 9) ∧ TT G z.2.2.2.2 p w L ∧ Fr p [1, 10, 14] M z.2.2.2.2) (fun z => (9 - z.2.2.2.1.toInt).toNat) ?_ _ _ ?_ ?_) ?_
              · intro s36 hys36
                obtain ⟨_, ls36_2_1, ls36_2_2_1, ls36_2_2_2_1, ts36_2_2_2_2, fs36_2_2_2_2⟩ := hys36
                have us36_1 := i32_b (rfl : TI s36.1 s36.1.toInt)
                have is36_2_1 : TI s36.2.1 s36.2.1.toInt := rfl
                have is36_2_2_1 : TI s36.2.2.1 s36.2.2.1.toInt := rfl
                have is36_2_2_2_1 : TI s36.2.2.2.1 s36.2.2.2.1.toInt := rfl
                refine ok_if (fun c6 => ?_) (fun c6 => ?_)
                · have dc6 := tl_le tn_9 is36_2_2_2_1 c6
                  exact ok_some ⟨trivial, (ti_bd is36_2_1 (by omega) (by omega)), (ti_bd is36_2_2_1 (by omega) (by omega)), (ti_bd is36_2_2_2_1 (by omega) (by omega)), ts36_2_2_2_2, fs36_2_2_2_2⟩
                · have dc6 := tl_nle tn_9 is36_2_2_2_1 c6
                  refine ok_ltI (av_mod is36_2_2_2_1 tn_3 (by omega) (by omega)) (fun x41 ix41 => ?_)
                  refine ok_ltI (av_sub ix41 tn_1 (by omega) (by omega)) (fun x42 ix42 => ?_)
                  refine ok_ltA (fun x43 => ?_)
                  refine ok_ltA (fun x44 => ?_)
                  refine ok_ltI (av_div is36_2_2_2_1 tn_3 (by omega) (by omega)) (fun x45 ix45 => ?_)
                  refine ok_ltI (av_sub ix45 tn_1 (by omega) (by omega)) (fun x46 ix46 => ?_)
                  refine ok_ltA (fun x47 => ?_)
                  refine ok_ltA (fun x48 => ?_)
                  refine ok_bnd (Q := fun (z : Int32 × DD) => True ∧ TT G z.2 p w L ∧ Fr p [1, 10, 14] M z.2 ∧ (z.1.toInt < 2147483647 → -2048 ≤ x44.toInt ∧ x44.toInt ≤ 2047 ∧ -2048 ≤ x48.toInt ∧ x48.toInt ≤ 2047)) ?_ ?_
                  · refine ok_if (fun c7 => ?_) (fun c7 => ?_)
                    · have dc7 := tl_eq is36_2_2_2_1 tn_4 c7
                      exact ok_some ⟨trivial, ts36_2_2_2_2, fs36_2_2_2_2, (by have q0 : _ = _ := tn_2147483647; (try dsimp only); omega)⟩
                    · refine ok_bnd (s_costOf ts36_2_2_2_2 i0 i1 is5_1 (rfl : TI x44 x44.toInt) (rfl : TI x48 x48.toInt) (by omega) (by omega) (by omega) (by omega) (by omega) (by omega)) ?_
                      intro y54 hyy54
                      obtain ⟨ty54, gy54, ly54⟩ := hyy54
                      have fy54 := fr_tr fs36_2_2_2_2 gy54 rfl
                      have iy54 : TI y54.2 y54.2.toInt := rfl
                      exact ok_some ⟨trivial, ty54, fy54, (by have q0 : _ = _ := iy54; (try dsimp only); omega)⟩
                  · intro y49 hyy49
                    obtain ⟨_, ty49_2, fy49_2, jy49⟩ := hyy49
                    have uy49_1 := i32_b (rfl : TI y49.1 y49.1.toInt)
                    refine ok_bnd (Q := fun (z : Int32 × Int32 × Int32) => True ∧ True ∧ True ∧ (-2048 ≤ z.2.1.toInt ∧ z.2.1.toInt ≤ 2047 ∧ -2048 ≤ z.2.2.toInt ∧ z.2.2.toInt ≤ 2047)) ?_ ?_
                    · refine ok_if (fun c8 => ?_) (fun c8 => ?_)
                      · have dc8 := tl_le (rfl : TI s36.1 s36.1.toInt) (rfl : TI y49.1 y49.1.toInt) c8
                        exact ok_some ⟨trivial, trivial, trivial, (by have q0 : _ = _ := (rfl : TI s36.1 s36.1.toInt); have q1 : _ = _ := is36_2_1; have q2 : _ = _ := is36_2_2_1; (try dsimp only); omega)⟩
                      · have dc8 := tl_nle (rfl : TI s36.1 s36.1.toInt) (rfl : TI y49.1 y49.1.toInt) c8
                        exact ok_some ⟨trivial, trivial, trivial, (by have q0 : _ = _ := (rfl : TI y49.1 y49.1.toInt); have q1 : _ = _ := (rfl : TI x44 x44.toInt); have q2 : _ = _ := (rfl : TI x48 x48.toInt); (try dsimp only); omega)⟩
                    · intro y50 hyy50
                      obtain ⟨_, _, _, jy50⟩ := hyy50
                      have uy50_1 := i32_b (rfl : TI y50.1 y50.1.toInt)
                      have uy50_2_1 := i32_b (rfl : TI y50.2.1 y50.2.1.toInt)
                      have uy50_2_2 := i32_b (rfl : TI y50.2.2 y50.2.2.toInt)
                      refine ok_ltI (av_add is36_2_2_2_1 tn_1 (by omega) (by omega)) (fun x51 ix51 => ?_)
                      exact ok_some ⟨⟨trivial, (ti_bd (rfl : TI y50.2.1 y50.2.1.toInt) (by omega) (by omega)), (ti_bd (rfl : TI y50.2.2 y50.2.2.toInt) (by omega) (by omega)), (ti_bd ix51 (by omega) (by omega)), ty49_2, fy49_2⟩, (mu_up ix51 (by omega) (by omega))⟩
              · exact ⟨trivial, (ti_bd is28_2_1 (by omega) (by omega)), (ti_bd is28_2_2_1 (by omega) (by omega)), (ti_bd tn_0 (by omega) (by omega)), ts28_2_2_2_2, fs28_2_2_2_2⟩
              · exact mu_0 tn_0 (by omega)
              · intro y35 hyy35
                obtain ⟨_, ly35_2_1, ly35_2_2_1, ly35_2_2_2_1, ty35_2_2_2_2, fy35_2_2_2_2⟩ := hyy35
                have uy35_1 := i32_b (rfl : TI y35.1 y35.1.toInt)
                have iy35_2_1 : TI y35.2.1 y35.2.1.toInt := rfl
                have iy35_2_2_1 : TI y35.2.2.1 y35.2.2.1.toInt := rfl
                have iy35_2_2_2_1 : TI y35.2.2.2.1 y35.2.2.2.1.toInt := rfl
                refine ok_ltI (av_add is28_2_2_2_1 tn_m1 (by omega) (by omega)) (fun x38 ix38 => ?_)
                exact ok_some ⟨⟨trivial, (ti_bd iy35_2_1 (by omega) (by omega)), (ti_bd iy35_2_2_1 (by omega) (by omega)), (ti_bd ix38 (by omega) (by omega)), ty35_2_2_2_2, fy35_2_2_2_2⟩, (mu_dn ix38 (by omega) (by omega))⟩
        · exact ⟨trivial, (ti_bd iy24_2_1 (by omega) (by omega)), (ti_bd iy24_2_2_1 (by omega) (by omega)), (ti_bd tn_2 (by omega) (by omega)), ty24_2_2_2_2, fy24_2_2_2_2⟩
        · exact mu_0d tn_2 (by omega)
        · intro y27 hyy27
          obtain ⟨_, ly27_2_1, ly27_2_2_1, ly27_2_2_2_1, ty27_2_2_2_2, fy27_2_2_2_2⟩ := hyy27
          have uy27_1 := i32_b (rfl : TI y27.1 y27.1.toInt)
          have iy27_2_1 : TI y27.2.1 y27.2.1.toInt := rfl
          have iy27_2_2_1 : TI y27.2.2.1 y27.2.2.1.toInt := rfl
          have iy27_2_2_2_1 : TI y27.2.2.2.1 y27.2.2.2.1.toInt := rfl
          refine ok_bnd (s_noteBest ty27_2_2_2_2 i1 is5_1 iy27_2_1 iy27_2_2_1 (by omega) (by omega) (by omega) (by omega) (by omega) (by omega) (by omega) (by omega)) ?_
          intro y30 hyy30
          obtain ⟨ty30, gy30⟩ := hyy30
          have fy30 := fr_tr fy27_2_2_2_2 gy30 rfl
          refine ok_ltI (av_add is5_1 tn_1 (by omega) (by omega)) (fun x31 ix31 => ?_)
          exact ok_some ⟨⟨(ti_bd ix31 (by omega) (by omega)), ty30, fy30⟩, (mu_up ix31 (by omega) (by omega))⟩
  · exact ⟨(ti_bd tn_0 (by omega) (by omega)), tM3, fM3⟩
  · exact mu_0 tn_0 (by omega)
  · intro y4 hyy4
    obtain ⟨ly4_1, ty4_2, fy4_2⟩ := hyy4
    have iy4_1 : TI y4.1 y4.1.toInt := rfl
    exact ok_some ⟨ty4_2, fy4_2⟩
theorem s_useBest {G : GG} {M : DD} {p : Nat} {w : Int} {L : List Nat} (t : TT G M p w L) {p0 : Int32} {a0 : Int} (i0 : TI p0 a0) {p1 : Int32} {p2 : Int32} {a2 : Int} (i2 : TI p2 a2) (h0 : 0 ≤ a0) (h1 : a0 < 2 * w) (h2 : 0 ≤ a2) (h3 : a2 ≤ 22) (hox : p1.toInt = 1 → HOS M p) : OK (FX0_useBest G M 116 p0 p1 p2) (fun y => TT G y p w L ∧ Fr p [3, 9, 10, 17, 19, 20, 21, 22] M y) := by
  unfold FX0_useBest
  have hw12 : 1 ≤ w ∧ w ≤ 2 := by rcases tt_w t with h | h <;> omega
  refine ok_dr (f_r (b := 125) t rfl (by decide)) (g_lt t (by decide)) (g_k t (by decide) rfl) ?_
  refine ok_ltI (av_mul tn_8 i0 (by omega) (by omega)) (fun x3 ix3 => ?_)
  refine ok_ltI (av_add ix3 tn_1 (by omega) (by omega)) (fun x4 ix4 => ?_)
  refine ok_dr (f_r (b := 129) t rfl (by decide)) (g_lt t (by decide)) (g_k t (by decide) rfl) ?_
  refine ok_chk (nxg (g_n (i := 129) (n := 256) t (by decide) rfl) ix4 (by omega) (by omega)) ?_
  refine ok_ltt (fun M6 eM6 => ?_)
  have tM6 : TT G M6 p w L := by rw [eM6]; exact (tt_w0 t rfl)
  have fM6 : Fr p [3, 9, 10, 17, 19, 20, 21, 22] M M6 := by rw [eM6]; exact (fr_w (fr_0 p [3, 9, 10, 17, 19, 20, 21, 22] M) rfl)
  clear eM6
  refine ok_if (fun c1 => ?_) (fun c1 => ?_)
  · have dc1 := tl_eq (rfl : TI p1 p1.toInt) tn_1 c1
    refine ok_if (fun c2 => ?_) (fun c2 => ?_)
    · have dc2 := tl_eq i2 tn_0 c2
      refine ok_dr (f_r (b := 125) tM6 rfl (by decide)) (g_lt tM6 (by decide)) (g_k tM6 (by decide) rfl) ?_
      refine ok_bnd (s_direct tM6 i0 (by omega) (by omega) (ho_tr tM6 fM6 (hox (by omega)) rfl)) ?_
      intro y78 hyy78
      obtain ⟨ty78, gy78, ly78⟩ := hyy78
      have fy78 := fr_tr fM6 gy78 rfl
      have iy78 : TI y78.2 y78.2.toInt := rfl
      exact ok_some ⟨ty78, fy78⟩
    · have dc2 := tl_ne i2 tn_0 c2
      refine ok_dr (f_r (b := 125) tM6 rfl (by decide)) (g_lt tM6 (by decide)) (g_k tM6 (by decide) rfl) ?_
      refine ok_bnd (s_plan tM6 i2 (by omega) (by omega)) ?_
      intro y44 hyy44
      obtain ⟨ty44, gy44⟩ := hyy44
      have fy44 := fr_tr fM6 gy44 rfl
      refine ok_bnd (Q := fun (z : Int32 × DD) => (0 ≤ z.1.toInt ∧ z.1.toInt ≤ 2) ∧ TT G z.2 p w L ∧ Fr p [3, 9, 10, 17, 19, 20, 21, 22] M z.2) (ok_itr (fun (z : Int32 × DD) => (0 ≤ z.1.toInt ∧ z.1.toInt ≤ 2) ∧ TT G z.2 p w L ∧ Fr p [3, 9, 10, 17, 19, 20, 21, 22] M z.2) (fun z => (2 - z.1.toInt).toNat) ?_ _ _ ?_ ?_) ?_
      · intro s46 hys46
        obtain ⟨ls46_1, ts46_2, fs46_2⟩ := hys46
        have is46_1 : TI s46.1 s46.1.toInt := rfl
        refine ok_if (fun c3 => ?_) (fun c3 => ?_)
        · have dc3 := tl_le tn_2 is46_1 c3
          exact ok_some ⟨(ti_bd is46_1 (by omega) (by omega)), ts46_2, fs46_2⟩
        · have dc3 := tl_nle tn_2 is46_1 c3
          refine ok_dr (f_r (b := 125) ts46_2 rfl (by decide)) (g_lt ts46_2 (by decide)) (g_k ts46_2 (by decide) rfl) ?_
          refine ok_dr (f_r (b := 135) ts46_2 rfl (by decide)) (g_lt ts46_2 (by decide)) (g_k ts46_2 (by decide) rfl) ?_
          refine ok_chk (nxg (g_n (i := 135) (n := 80) ts46_2 (by decide) rfl) tn_3 (by omega) (by omega)) ?_
          refine ok_ltB (ib_t ts46_2 (by simp [TYL] : (135, 0, 16) ∈ TYL) _) (fun x52 lx52 => ?_)
          have ix52 : TI x52 x52.toInt := rfl
          refine ok_ltA (fun x53 => ?_)
          refine ok_ltI (av_and 1 (rfl : TI x53 x53.toInt) (by decide) (by decide)) (fun x54 ix54 => ?_)
          refine ok_bnd (Q := fun (z : DD) => TT G z p w L ∧ Fr p [3, 9, 10, 17, 19, 20, 21, 22] M z) ?_ ?_
          · refine ok_if (fun c4 => ?_) (fun c4 => ?_)
            · have dc4 := tl_eq ix54 tn_1 c4
              refine ok_ltI (av_mul tn_5 is46_1 (by omega) (by omega)) (fun x58 ix58 => ?_)
              refine ok_ltI (av_add ix58 tn_1 (by omega) (by omega)) (fun x59 ix59 => ?_)
              refine ok_dr (f_r (b := 214) ts46_2 rfl (by decide)) (g_lt ts46_2 (by decide)) (g_k ts46_2 (by decide) rfl) ?_
              refine ok_chk (nxg (g_n (i := 214) (n := 29) ts46_2 (by decide) rfl) ix59 (by omega) (by omega)) ?_
              refine ok_ltB (ib_214 ts46_2 ix59 (by omega)) (fun x61 lx61 => ?_)
              have ix61 : TI x61 x61.toInt := rfl
              refine ok_bnd (s_guess ts46_2 i0 is46_1 ix61 tn_0 tn_16 (by omega) (by omega) (by omega) (by omega) (by omega) (by omega) (by omega) (by omega) (by omega)) ?_
              intro y62 hyy62
              obtain ⟨ty62, gy62⟩ := hyy62
              have fy62 := fr_tr fs46_2 gy62 rfl
              refine ok_ltI (av_mul tn_5 is46_1 (by omega) (by omega)) (fun x63 ix63 => ?_)
              refine ok_ltI (av_add ix63 tn_1 (by omega) (by omega)) (fun x64 ix64 => ?_)
              refine ok_dr (f_r (b := 214) ty62 rfl (by decide)) (g_lt ty62 (by decide)) (g_k ty62 (by decide) rfl) ?_
              refine ok_chk (nxg (g_n (i := 214) (n := 29) ty62 (by decide) rfl) ix64 (by omega) (by omega)) ?_
              refine ok_ltB (ib_214 ty62 ix64 (by omega)) (fun x66 lx66 => ?_)
              have ix66 : TI x66 x66.toInt := rfl
              refine ok_dr (f_r (b := 125) ty62 rfl (by decide)) (g_lt ty62 (by decide)) (g_k ty62 (by decide) rfl) ?_
              refine ok_bnd (s_setReference ty62 i0 is46_1 tn_0 ix66 (by omega) (by omega) (by omega) (by omega) (by omega) (by omega) (by omega) (by omega)) ?_
              intro y68 hyy68
              obtain ⟨ty68, gy68⟩ := hyy68
              have fy68 := fr_tr fy62 gy68 rfl
              refine ok_ltI (av_mul tn_5 is46_1 (by omega) (by omega)) (fun x69 ix69 => ?_)
              refine ok_ltI (av_add ix69 tn_2 (by omega) (by omega)) (fun x70 ix70 => ?_)
              refine ok_dr (f_r (b := 214) ty68 rfl (by decide)) (g_lt ty68 (by decide)) (g_k ty68 (by decide) rfl) ?_
              refine ok_chk (nxg (g_n (i := 214) (n := 29) ty68 (by decide) rfl) ix70 (by omega) (by omega)) ?_
              refine ok_ltB (ib_214v ty68 ix70 (by omega)) (fun x72 lx72 => ?_)
              have ix72 : TI x72 x72.toInt := rfl
              refine ok_ltI (av_mul tn_5 is46_1 (by omega) (by omega)) (fun x73 ix73 => ?_)
              refine ok_ltI (av_add ix73 tn_3 (by omega) (by omega)) (fun x74 ix74 => ?_)
              refine ok_chk (nxg (g_n (i := 214) (n := 29) ty68 (by decide) rfl) ix74 (by omega) (by omega)) ?_
              refine ok_ltB (ib_214v ty68 ix74 (by omega)) (fun x75 lx75 => ?_)
              have ix75 : TI x75 x75.toInt := rfl
              refine ok_bnd (s_setVector ty68 i0 is46_1 tn_0 ix72 ix75 (by omega) (by omega) (by omega) (by omega) (by omega) (by omega) (by omega) (by omega) (by omega) (by omega)) ?_
              intro y76 hyy76
              obtain ⟨ty76, gy76⟩ := hyy76
              have fy76 := fr_tr fy68 gy76 rfl
              exact ok_some ⟨ty76, fy76⟩
            · have dc4 := tl_ne ix54 tn_1 c4
              exact ok_some ⟨ts46_2, fs46_2⟩
          · intro y55 hyy55
            obtain ⟨ty55, fy55⟩ := hyy55
            refine ok_ltI (av_add is46_1 tn_1 (by omega) (by omega)) (fun x56 ix56 => ?_)
            exact ok_some ⟨⟨(ti_bd ix56 (by omega) (by omega)), ty55, fy55⟩, (mu_up ix56 (by omega) (by omega))⟩
      · exact ⟨(ti_bd tn_0 (by omega) (by omega)), ty44, fy44⟩
      · exact mu_0 tn_0 (by omega)
      · intro y45 hyy45
        obtain ⟨ly45_1, ty45_2, fy45_2⟩ := hyy45
        have iy45_1 : TI y45.1 y45.1.toInt := rfl
        exact ok_some ⟨ty45_2, fy45_2⟩
  · have dc1 := tl_ne (rfl : TI p1 p1.toInt) tn_1 c1
    refine ok_dr (f_r (b := 125) tM6 rfl (by decide)) (g_lt tM6 (by decide)) (g_k tM6 (by decide) rfl) ?_
    refine ok_bnd (s_plan tM6 i2 (by omega) (by omega)) ?_
    intro y9 hyy9
    obtain ⟨ty9, gy9⟩ := hyy9
    have fy9 := fr_tr fM6 gy9 rfl
    refine ok_bnd (Q := fun (z : Int32 × DD) => (0 ≤ z.1.toInt ∧ z.1.toInt ≤ 2) ∧ TT G z.2 p w L ∧ Fr p [3, 9, 10, 17, 19, 20, 21, 22] M z.2) (ok_itr (fun (z : Int32 × DD) => (0 ≤ z.1.toInt ∧ z.1.toInt ≤ 2) ∧ TT G z.2 p w L ∧ Fr p [3, 9, 10, 17, 19, 20, 21, 22] M z.2) (fun z => (2 - z.1.toInt).toNat) ?_ _ _ ?_ ?_) ?_
    · intro s11 hys11
      obtain ⟨ls11_1, ts11_2, fs11_2⟩ := hys11
      have is11_1 : TI s11.1 s11.1.toInt := rfl
      refine ok_if (fun c5 => ?_) (fun c5 => ?_)
      · have dc5 := tl_le tn_2 is11_1 c5
        exact ok_some ⟨(ti_bd is11_1 (by omega) (by omega)), ts11_2, fs11_2⟩
      · have dc5 := tl_nle tn_2 is11_1 c5
        refine ok_dr (f_r (b := 125) ts11_2 rfl (by decide)) (g_lt ts11_2 (by decide)) (g_k ts11_2 (by decide) rfl) ?_
        refine ok_dr (f_r (b := 135) ts11_2 rfl (by decide)) (g_lt ts11_2 (by decide)) (g_k ts11_2 (by decide) rfl) ?_
        refine ok_chk (nxg (g_n (i := 135) (n := 80) ts11_2 (by decide) rfl) tn_3 (by omega) (by omega)) ?_
        refine ok_ltB (ib_t ts11_2 (by simp [TYL] : (135, 0, 16) ∈ TYL) _) (fun x17 lx17 => ?_)
        have ix17 : TI x17 x17.toInt := rfl
        refine ok_ltA (fun x18 => ?_)
        refine ok_ltI (av_and 1 (rfl : TI x18 x18.toInt) (by decide) (by decide)) (fun x19 ix19 => ?_)
        refine ok_bnd (Q := fun (z : DD) => TT G z p w L ∧ Fr p [3, 9, 10, 17, 19, 20, 21, 22] M z) ?_ ?_
        · refine ok_if (fun c6 => ?_) (fun c6 => ?_)
          · have dc6 := tl_eq ix19 tn_1 c6
            refine ok_ltI (av_mul tn_5 is11_1 (by omega) (by omega)) (fun x23 ix23 => ?_)
            refine ok_ltI (av_add ix23 tn_1 (by omega) (by omega)) (fun x24 ix24 => ?_)
            refine ok_dr (f_r (b := 214) ts11_2 rfl (by decide)) (g_lt ts11_2 (by decide)) (g_k ts11_2 (by decide) rfl) ?_
            refine ok_chk (nxg (g_n (i := 214) (n := 29) ts11_2 (by decide) rfl) ix24 (by omega) (by omega)) ?_
            refine ok_ltB (ib_214 ts11_2 ix24 (by omega)) (fun x26 lx26 => ?_)
            have ix26 : TI x26 x26.toInt := rfl
            refine ok_bnd (s_guess ts11_2 i0 is11_1 ix26 tn_0 tn_16 (by omega) (by omega) (by omega) (by omega) (by omega) (by omega) (by omega) (by omega) (by omega)) ?_
            intro y27 hyy27
            obtain ⟨ty27, gy27⟩ := hyy27
            have fy27 := fr_tr fs11_2 gy27 rfl
            refine ok_ltI (av_mul tn_5 is11_1 (by omega) (by omega)) (fun x28 ix28 => ?_)
            refine ok_ltI (av_add ix28 tn_1 (by omega) (by omega)) (fun x29 ix29 => ?_)
            refine ok_dr (f_r (b := 214) ty27 rfl (by decide)) (g_lt ty27 (by decide)) (g_k ty27 (by decide) rfl) ?_
            refine ok_chk (nxg (g_n (i := 214) (n := 29) ty27 (by decide) rfl) ix29 (by omega) (by omega)) ?_
            refine ok_ltB (ib_214 ty27 ix29 (by omega)) (fun x31 lx31 => ?_)
            have ix31 : TI x31 x31.toInt := rfl
            refine ok_dr (f_r (b := 125) ty27 rfl (by decide)) (g_lt ty27 (by decide)) (g_k ty27 (by decide) rfl) ?_
            refine ok_bnd (s_setReference ty27 i0 is11_1 tn_0 ix31 (by omega) (by omega) (by omega) (by omega) (by omega) (by omega) (by omega) (by omega)) ?_
            intro y33 hyy33
            obtain ⟨ty33, gy33⟩ := hyy33
            have fy33 := fr_tr fy27 gy33 rfl
            refine ok_ltI (av_mul tn_5 is11_1 (by omega) (by omega)) (fun x34 ix34 => ?_)
            refine ok_ltI (av_add ix34 tn_2 (by omega) (by omega)) (fun x35 ix35 => ?_)
            refine ok_dr (f_r (b := 214) ty33 rfl (by decide)) (g_lt ty33 (by decide)) (g_k ty33 (by decide) rfl) ?_
            refine ok_chk (nxg (g_n (i := 214) (n := 29) ty33 (by decide) rfl) ix35 (by omega) (by omega)) ?_
            refine ok_ltB (ib_214v ty33 ix35 (by omega)) (fun x37 lx37 => ?_)
            have ix37 : TI x37 x37.toInt := rfl
            refine ok_ltI (av_mul tn_5 is11_1 (by omega) (by omega)) (fun x38 ix38 => ?_)
            refine ok_ltI (av_add ix38 tn_3 (by omega) (by omega)) (fun x39 ix39 => ?_)
            refine ok_chk (nxg (g_n (i := 214) (n := 29) ty33 (by decide) rfl) ix39 (by omega) (by omega)) ?_
            refine ok_ltB (ib_214v ty33 ix39 (by omega)) (fun x40 lx40 => ?_)
            have ix40 : TI x40 x40.toInt := rfl
            refine ok_bnd (s_setVector ty33 i0 is11_1 tn_0 ix37 ix40 (by omega) (by omega) (by omega) (by omega) (by omega) (by omega) (by omega) (by omega) (by omega) (by omega)) ?_
            intro y41 hyy41
            obtain ⟨ty41, gy41⟩ := hyy41
            have fy41 := fr_tr fy33 gy41 rfl
            exact ok_some ⟨ty41, fy41⟩
          · have dc6 := tl_ne ix19 tn_1 c6
            exact ok_some ⟨ts11_2, fs11_2⟩
        · intro y20 hyy20
          obtain ⟨ty20, fy20⟩ := hyy20
          refine ok_ltI (av_add is11_1 tn_1 (by omega) (by omega)) (fun x21 ix21 => ?_)
          exact ok_some ⟨⟨(ti_bd ix21 (by omega) (by omega)), ty20, fy20⟩, (mu_up ix21 (by omega) (by omega))⟩
    · exact ⟨(ti_bd tn_0 (by omega) (by omega)), ty9, fy9⟩
    · exact mu_0 tn_0 (by omega)
    · intro y10 hyy10
      obtain ⟨ly10_1, ty10_2, fy10_2⟩ := hyy10
      have iy10_1 : TI y10.1 y10.1.toInt := rfl
      exact ok_some ⟨ty10_2, fy10_2⟩
theorem s_clearBlock {G : GG} {M : DD} {p : Nat} {w : Int} {L : List Nat} (t : TT G M p w L) {p0 : Int32} {a0 : Int} (i0 : TI p0 a0) (h0 : 0 ≤ a0) (h1 : a0 < 2 * w) : OK (FX9_clearBlock G M 125 p0) (fun y => TT G y p w L ∧ Fr p [3, 4, 5, 6, 7, 17, 19, 20] M y) := by
  unfold FX9_clearBlock
  have hw12 : 1 ≤ w ∧ w ≤ 2 := by rcases tt_w t with h | h <;> omega
  refine ok_ltI (av_mul tn_8 i0 (by omega) (by omega)) (fun x1 ix1 => ?_)
  refine ok_ltI (av_mul tn_8 i0 (by omega) (by omega)) (fun x2 ix2 => ?_)
  refine ok_ltI (av_add ix2 tn_8 (by omega) (by omega)) (fun x3 ix3 => ?_)
  refine ok_bnd (s_fillBf (S := [3, 4, 5, 6, 7, 17, 19, 20]) (M0 := M) (b := 129) (n := 256) t (f_r (b := 129) t rfl (by decide)) rfl rfl ix1 ix3 (by omega) (by omega) (by omega) (fr_0 p [3, 4, 5, 6, 7, 17, 19, 20] M) (fun _ => rfl)) ?_
  intro y4 hyy4
  obtain ⟨ty4, fy4⟩ := hyy4
  refine ok_ltI (av_mul tn_8 i0 (by omega) (by omega)) (fun x5 ix5 => ?_)
  refine ok_ltI (av_add ix5 tn_0 (by omega) (by omega)) (fun x6 ix6 => ?_)
  refine ok_dr (f_r (b := 129) ty4 rfl (by decide)) (g_lt ty4 (by decide)) (g_k ty4 (by decide) rfl) ?_
  refine ok_chk (nxg (g_n (i := 129) (n := 256) ty4 (by decide) rfl) ix6 (by omega) (by omega)) ?_
  refine ok_ltt (fun M8 eM8 => ?_)
  have tM8 : TT G M8 p w L := by rw [eM8]; exact (tt_w0 ty4 rfl)
  have fM8 : Fr p [3, 4, 5, 6, 7, 17, 19, 20] M M8 := by rw [eM8]; exact (fr_w fy4 rfl)
  clear eM8
  refine ok_ltI (av_mul tn_8 i0 (by omega) (by omega)) (fun x9 ix9 => ?_)
  refine ok_ltI (av_add ix9 tn_1 (by omega) (by omega)) (fun x10 ix10 => ?_)
  refine ok_dr (f_r (b := 129) tM8 rfl (by decide)) (g_lt tM8 (by decide)) (g_k tM8 (by decide) rfl) ?_
  refine ok_chk (nxg (g_n (i := 129) (n := 256) tM8 (by decide) rfl) ix10 (by omega) (by omega)) ?_
  refine ok_ltt (fun M12 eM12 => ?_)
  have tM12 : TT G M12 p w L := by rw [eM12]; exact (tt_w0 tM8 rfl)
  have fM12 : Fr p [3, 4, 5, 6, 7, 17, 19, 20] M M12 := by rw [eM12]; exact (fr_w fM8 rfl)
  clear eM12
  refine ok_ltI (av_mul tn_8 i0 (by omega) (by omega)) (fun x13 ix13 => ?_)
  refine ok_ltI (av_add ix13 tn_6 (by omega) (by omega)) (fun x14 ix14 => ?_)
  refine ok_dr (f_r (b := 129) tM12 rfl (by decide)) (g_lt tM12 (by decide)) (g_k tM12 (by decide) rfl) ?_
  refine ok_chk (nxg (g_n (i := 129) (n := 256) tM12 (by decide) rfl) ix14 (by omega) (by omega)) ?_
  refine ok_ltt (fun M16 eM16 => ?_)
  have tM16 : TT G M16 p w L := by rw [eM16]; exact (tt_w0 tM12 rfl)
  have fM16 : Fr p [3, 4, 5, 6, 7, 17, 19, 20] M M16 := by rw [eM16]; exact (fr_w fM12 rfl)
  clear eM16
  refine ok_ltI (av_mul tn_16 i0 (by omega) (by omega)) (fun x17 ix17 => ?_)
  refine ok_ltI (av_mul tn_16 i0 (by omega) (by omega)) (fun x18 ix18 => ?_)
  refine ok_ltI (av_add ix18 tn_16 (by omega) (by omega)) (fun x19 ix19 => ?_)
  refine ok_bnd (s_fillBt (S := [3, 4, 5, 6, 7, 17, 19, 20]) (M0 := M) (b := 130) (n := 512) tM16 (f_r (b := 130) tM16 rfl (by decide)) (0) (8) (by simp [TYL]) (ti_ib tn_2 (by omega) (by omega)) rfl ix17 ix19 (by omega) (by omega) (by omega) fM16 (fun _ => rfl)) ?_
  intro y20 hyy20
  obtain ⟨ty20, fy20⟩ := hyy20
  refine ok_ltI (av_mul tn_24 i0 (by omega) (by omega)) (fun x21 ix21 => ?_)
  refine ok_ltI (av_mul tn_24 i0 (by omega) (by omega)) (fun x22 ix22 => ?_)
  refine ok_ltI (av_add ix22 tn_24 (by omega) (by omega)) (fun x23 ix23 => ?_)
  refine ok_bnd (s_fillBf (S := [3, 4, 5, 6, 7, 17, 19, 20]) (M0 := M) (b := 131) (n := 768) ty20 (f_r (b := 131) ty20 rfl (by decide)) rfl rfl ix21 ix23 (by omega) (by omega) (by omega) fy20 (fun _ => rfl)) ?_
  intro y24 hyy24
  obtain ⟨ty24, fy24⟩ := hyy24
  refine ok_bnd (s_levelAt ty24 i0 tn_0 (by omega) (by omega) (by omega) (by omega)) ?_
  intro y25 hyy25
  obtain ⟨ty25, gy25, iy25⟩ := hyy25
  have fy25 := fr_tr fy24 gy25 rfl
  refine ok_ltI (av_add i0 tn_1 (by omega) (by omega)) (fun x26 ix26 => ?_)
  refine ok_bnd (s_levelAt ty25 ix26 tn_0 (by omega) (by omega) (by omega) (by omega)) ?_
  intro y27 hyy27
  obtain ⟨ty27, gy27, iy27⟩ := hyy27
  have fy27 := fr_tr fy25 gy27 rfl
  refine ok_bnd (s_fillBf (S := [3, 4, 5, 6, 7, 17, 19, 20]) (M0 := M) (b := 132) (n := 13824) ty27 (f_r (b := 132) ty24 rfl (by decide)) rfl rfl iy25 iy27 (by omega) (by omega) (by omega) fy27 (fun _ => rfl)) ?_
  intro y28 hyy28
  obtain ⟨ty28, fy28⟩ := hyy28
  refine ok_ltI (av_mul tn_3 i0 (by omega) (by omega)) (fun x29 ix29 => ?_)
  refine ok_ltI (av_mul tn_3 i0 (by omega) (by omega)) (fun x30 ix30 => ?_)
  refine ok_ltI (av_add ix30 tn_3 (by omega) (by omega)) (fun x31 ix31 => ?_)
  refine ok_bnd (s_fillBf (S := [3, 4, 5, 6, 7, 17, 19, 20]) (M0 := M) (b := 133) (n := 96) ty28 (f_r (b := 133) ty28 rfl (by decide)) rfl rfl ix29 ix31 (by omega) (by omega) (by omega) fy28 (fun _ => rfl)) ?_
  intro y32 hyy32
  obtain ⟨ty32, fy32⟩ := hyy32
  refine ok_bnd (s_clearMoves ty32 i0 (by omega) (by omega)) ?_
  intro y33 hyy33
  obtain ⟨ty33, gy33⟩ := hyy33
  have fy33 := fr_tr fy32 gy33 rfl
  exact ok_some ⟨ty33, fy33⟩
theorem s_costOfFour {G : GG} {M : DD} {p : Nat} {w : Int} {L : List Nat} (t : TT G M p w L) {p0 : Int32} {a0 : Int} (i0 : TI p0 a0) {p1 : Int32} {a1 : Int} (i1 : TI p1 a1) (h0 : 0 ≤ a0) (h1 : a0 < 2 * w) (h2 : 0 ≤ a1) (h3 : a1 ≤ 15) (h4 : a1 % 2 = 1 → 1 ≤ a0 % w) (h5 : a1 / 2 % 2 = 1 → w ≤ a0) (h6 : a1 / 4 % 2 = 1 → 1 ≤ a0 % w ∧ w ≤ a0) (h7 : a1 / 8 % 2 = 1 → w ≤ a0) : OK (FX0_costOfFour G M 116 p0 p1) (fun y => TT G y.1 p w L ∧ Fr p [1, 2, 3, 4, 5, 6, 7, 14, 17, 18, 19, 20] M y.1 ∧ True) := by
  unfold FX0_costOfFour
  have hw12 : 1 ≤ w ∧ w ≤ 2 := by rcases tt_w t with h | h <;> omega
  refine ok_dr (f_r (b := 125) t rfl (by decide)) (g_lt t (by decide)) (g_k t (by decide) rfl) ?_
  refine ok_dr (f_r (b := 215) t rfl (by decide)) (g_lt t (by decide)) (g_k t (by decide) rfl) ?_
  refine ok_dr (f_r (b := 216) t rfl (by decide)) (g_lt t (by decide)) (g_k t (by decide) rfl) ?_
  refine ok_chk (nxg (g_n (i := 216) (n := 27) t (by decide) rfl) tn_12 (by omega) (by omega)) ?_
  refine ok_ltB (ib_p t (by simp [PYL] : (216, 12, 12, 51) ∈ PYL)) (fun x5 lx5 => ?_)
  have ix5 : TI x5 x5.toInt := rfl
  refine ok_bnd (s_clearBlock t i0 (by omega) (by omega)) ?_
  intro y6 hyy6
  obtain ⟨ty6, gy6⟩ := hyy6
  have fy6 := fr_tr (fr_0 p [1, 2, 3, 4, 5, 6, 7, 14, 17, 18, 19, 20] M) gy6 rfl
  refine ok_dr (f_r (b := 125) ty6 rfl (by decide)) (g_lt ty6 (by decide)) (g_k ty6 (by decide) rfl) ?_
  refine ok_ltI (av_mul tn_8 i0 (by omega) (by omega)) (fun x8 ix8 => ?_)
  refine ok_ltI (av_add ix8 tn_0 (by omega) (by omega)) (fun x9 ix9 => ?_)
  refine ok_dr (f_r (b := 129) ty6 rfl (by decide)) (g_lt ty6 (by decide)) (g_k ty6 (by decide) rfl) ?_
  refine ok_chk (nxg (g_n (i := 129) (n := 256) ty6 (by decide) rfl) ix9 (by omega) (by omega)) ?_
  refine ok_ltt (fun M11 eM11 => ?_)
  have tM11 : TT G M11 p w L := by rw [eM11]; exact (tt_w0 ty6 rfl)
  have fM11 : Fr p [1, 2, 3, 4, 5, 6, 7, 14, 17, 18, 19, 20] M M11 := by rw [eM11]; exact (fr_w fy6 rfl)
  clear eM11
  refine ok_bnd (Q := fun (z : Int32 × Int32 × Int32 × DD) => True ∧ True ∧ (0 ≤ z.2.2.1.toInt ∧ z.2.2.1.toInt ≤ 16) ∧ TT G z.2.2.2 p w L ∧ Fr p [1, 2, 3, 4, 5, 6, 7, 14, 17, 18, 19, 20] M z.2.2.2) (ok_itr (fun (z : Int32 × Int32 × Int32 × DD) => True ∧ True ∧ (0 ≤ z.2.2.1.toInt ∧ z.2.2.1.toInt ≤ 16) ∧ TT G z.2.2.2 p w L ∧ Fr p [1, 2, 3, 4, 5, 6, 7, 14, 17, 18, 19, 20] M z.2.2.2) (fun z => (16 - z.2.2.1.toInt).toNat) ?_ _ _ ?_ ?_) ?_
  · intro s13 hys13
    obtain ⟨_, _, ls13_2_2_1, ts13_2_2_2, fs13_2_2_2⟩ := hys13
    have is13_2_2_1 : TI s13.2.2.1 s13.2.2.1.toInt := rfl
    refine ok_if (fun c1 => ?_) (fun c1 => ?_)
    · have dc1 := tl_le tn_16 is13_2_2_1 c1
      exact ok_some ⟨trivial, trivial, (ti_bd is13_2_2_1 (by omega) (by omega)), ts13_2_2_2, fs13_2_2_2⟩
    · have dc1 := tl_nle tn_16 is13_2_2_1 c1
      refine ok_bnd (s_sidesOf (mb := a0) ts13_2_2_2 is13_2_2_1 i1 (by omega) (by omega) (by omega) (by omega) (by omega) (by omega) (by omega) (by omega)) ?_
      intro y20 hyy20
      obtain ⟨ty20, gy20, ly20⟩ := hyy20
      have fy20 := fr_tr fs13_2_2_2 gy20 rfl
      have iy20 : TI y20.2 y20.2.toInt := rfl
      refine ok_dr (f_r (b := 125) ty20 rfl (by decide)) (g_lt ty20 (by decide)) (g_k ty20 (by decide) rfl) ?_
      refine ok_bnd (s_guessMode ty20 i0 is13_2_2_1 (by omega) (by omega) (by omega) (by omega)) ?_
      intro y22 hyy22
      obtain ⟨ty22, gy22, ly22⟩ := hyy22
      have fy22 := fr_tr fy20 gy22 rfl
      have iy22 : TI y22.2 y22.2.toInt := rfl
      refine ok_bnd (Q := fun (z : Int32 × Int32 × Int32 × DD) => True ∧ (0 ≤ z.2.1.toInt ∧ z.2.1.toInt ≤ 8) ∧ (0 ≤ z.2.2.1.toInt ∧ z.2.2.1.toInt ≤ 9) ∧ TT G z.2.2.2 p w L ∧ Fr p [1, 2, 3, 4, 5, 6, 7, 14, 17, 18, 19, 20] M z.2.2.2) (ok_itr (fun (z : Int32 × Int32 × Int32 × DD) => True ∧ (0 ≤ z.2.1.toInt ∧ z.2.1.toInt ≤ 8) ∧ (0 ≤ z.2.2.1.toInt ∧ z.2.2.1.toInt ≤ 9) ∧ TT G z.2.2.2 p w L ∧ Fr p [1, 2, 3, 4, 5, 6, 7, 14, 17, 18, 19, 20] M z.2.2.2) (fun z => (9 - z.2.2.1.toInt).toNat) ?_ _ _ ?_ ?_) ?_
      · intro s24 hys24
        obtain ⟨_, ls24_2_1, ls24_2_2_1, ts24_2_2_2, fs24_2_2_2⟩ := hys24
        have is24_2_1 : TI s24.2.1 s24.2.1.toInt := rfl
        have is24_2_2_1 : TI s24.2.2.1 s24.2.2.1.toInt := rfl
        refine ok_if (fun c2 => ?_) (fun c2 => ?_)
        · have dc2 := tl_le tn_9 is24_2_2_1 c2
          exact ok_some ⟨trivial, (ti_bd is24_2_1 (by omega) (by omega)), (ti_bd is24_2_2_1 (by omega) (by omega)), ts24_2_2_2, fs24_2_2_2⟩
        · have dc2 := tl_nle tn_9 is24_2_2_1 c2
          refine ok_bnd (s_mayBeFour ts24_2_2_2) ?_
          intro y48 hyy48
          obtain ⟨ty48, gy48, ly48⟩ := hyy48
          have fy48 := fr_tr fs24_2_2_2 gy48 rfl
          have iy48 : TI y48.2 y48.2.toInt := rfl
          refine ok_bnd (Q := fun (z : Int32 × Int32 × DD) => True ∧ (0 ≤ z.2.1.toInt ∧ z.2.1.toInt ≤ 8) ∧ TT G z.2.2 p w L ∧ Fr p [1, 2, 3, 4, 5, 6, 7, 14, 17, 18, 19, 20] M z.2.2) ?_ ?_
          · refine ok_if (fun c3 => ?_) (fun c3 => ?_)
            · have dc3 := tl_eq iy48 tn_0 c3
              exact ok_some ⟨trivial, (ti_bd is24_2_1 (by omega) (by omega)), ty48, fy48⟩
            · refine ok_dr (f_r (b := 138) ty48 rfl (by decide)) (g_lt ty48 (by decide)) (g_k ty48 (by decide) rfl) ?_
              refine ok_bnd (s_predictFour ty48 (f_r (b := 125) ty48 rfl (by decide)) i0 is13_2_2_1 iy20 (by omega) (by omega) (by omega) (by omega) (by omega) (by omega) (by omega) (by omega) (by omega) (by omega)) ?_
              intro y53 hyy53
              obtain ⟨ty53, gy53⟩ := hyy53
              have fy53 := fr_tr fy48 gy53 rfl
              refine ok_dr (f_r (b := 209) ty53 rfl (by decide)) (g_lt ty53 (by decide)) (g_k ty53 (by decide) rfl) ?_
              refine ok_chk (nxg (g_n (i := 209) (n := 3) ty53 (by decide) rfl) tn_0 (by omega) (by omega)) ?_
              refine ok_dr (f_r (b := 138) ty53 rfl (by decide)) (g_lt ty53 (by decide)) (g_k ty53 (by decide) rfl) ?_
              obtain ⟨c4, hc4, nc4, ec4⟩ := ps_0 ty53
              refine ok_bnd (s_differences ty53 (f_r (b := 125) ty53 rfl (by decide)) ec4 hc4 nc4 i0 is13_2_2_1 tn_4 (by omega) (by omega) (by omega) (by omega) (by omega) (by omega) (by omega)) ?_
              intro y56 hyy56
              obtain ⟨ty56, gy56, _⟩ := hyy56
              have fy56 := fr_tr fy53 gy56 rfl
              refine ok_bnd (Q := fun (z : Int32) => (0 ≤ z.toInt ∧ z.toInt ≤ 8)) ?_ ?_
              · refine ok_if (fun c5 => ?_) (fun c5 => ?_)
                · have dc5 := tl_le (rfl : TI s24.1 s24.1.toInt) (rfl : TI y56.2 y56.2.toInt) c5
                  exact ok_some (ti_bd is24_2_1 (by omega) (by omega))
                · have dc5 := tl_nle (rfl : TI s24.1 s24.1.toInt) (rfl : TI y56.2 y56.2.toInt) c5
                  exact ok_some (ti_bd is24_2_2_1 (by omega) (by omega))
              · intro y57 hyy57
                have ly57 := hyy57
                have iy57 : TI y57 y57.toInt := rfl
                refine ok_bnd (Q := fun (z : Int32) => True) ?_ ?_
                · refine ok_if (fun c6 => ?_) (fun c6 => ?_)
                  · have dc6 := tl_le (rfl : TI s24.1 s24.1.toInt) (rfl : TI y56.2 y56.2.toInt) c6
                    exact ok_some trivial
                  · have dc6 := tl_nle (rfl : TI s24.1 s24.1.toInt) (rfl : TI y56.2 y56.2.toInt) c6
                    exact ok_some trivial
                · intro y58 hyy58
                  have u_y58 := hyy58
                  exact ok_some ⟨trivial, (ti_bd iy57 (by omega) (by omega)), ty56, fy56⟩
          · intro y49 hyy49
            obtain ⟨_, ly49_2_1, ty49_2_2, fy49_2_2⟩ := hyy49
            have iy49_2_1 : TI y49.2.1 y49.2.1.toInt := rfl
            refine ok_ltI (av_add is24_2_2_1 tn_1 (by omega) (by omega)) (fun x50 ix50 => ?_)
            exact ok_some ⟨⟨trivial, (ti_bd iy49_2_1 (by omega) (by omega)), (ti_bd ix50 (by omega) (by omega)), ty49_2_2, fy49_2_2⟩, (mu_up ix50 (by omega) (by omega))⟩
      · exact ⟨trivial, (ti_bd tn_2 (by omega) (by omega)), (ti_bd tn_0 (by omega) (by omega)), ty22, fy22⟩
      · exact mu_0 tn_0 (by omega)
      · intro y23 hyy23
        obtain ⟨_, ly23_2_1, ly23_2_2_1, ty23_2_2_2, fy23_2_2_2⟩ := hyy23
        have iy23_2_1 : TI y23.2.1 y23.2.1.toInt := rfl
        have iy23_2_2_1 : TI y23.2.2.1 y23.2.2.1.toInt := rfl
        refine ok_ltA (fun x26 => ?_)
        refine ok_bnd (Q := fun (z : Int32) => (1 ≤ z.toInt ∧ z.toInt ≤ 4)) ?_ ?_
        · refine ok_if (fun c7 => ?_) (fun c7 => ?_)
          · have dc7 := tl_eq iy23_2_1 iy22 c7
            exact ok_some (ti_bd tn_1 (by omega) (by omega))
          · exact ok_some (ti_bd tn_4 (by omega) (by omega))
        · intro y27 hyy27
          have ly27 := hyy27
          have iy27 : TI y27 y27.toInt := rfl
          refine ok_ltA (fun x28 => ?_)
          refine ok_ltI (av_add tn_13 is13_2_2_1 (by omega) (by omega)) (fun x29 ix29 => ?_)
          refine ok_dr (f_r (b := 214) ty23_2_2_2 rfl (by decide)) (g_lt ty23_2_2_2 (by decide)) (g_k ty23_2_2_2 (by decide) rfl) ?_
          refine ok_chk (nxg (g_n (i := 214) (n := 29) ty23_2_2_2 (by decide) rfl) ix29 (by omega) (by omega)) ?_
          refine ok_ltt (fun M31 eM31 => ?_)
          have tM31 : TT G M31 p w L := by rw [eM31]; exact (tt_214g ty23_2_2_2 ix29 iy23_2_1 (by omega) (by omega) (by omega) (by omega))
          have fM31 : Fr p [1, 2, 3, 4, 5, 6, 7, 14, 17, 18, 19, 20] M M31 := by rw [eM31]; exact (fr_w fy23_2_2_2 rfl)
          clear eM31
          refine ok_dr (f_r (b := 125) tM31 rfl (by decide)) (g_lt tM31 (by decide)) (g_k tM31 (by decide) rfl) ?_
          refine ok_ltI (av_mul tn_16 i0 (by omega) (by omega)) (fun x33 ix33 => ?_)
          refine ok_ltI (av_add ix33 is13_2_2_1 (by omega) (by omega)) (fun x34 ix34 => ?_)
          refine ok_dr (f_r (b := 130) tM31 rfl (by decide)) (g_lt tM31 (by decide)) (g_k tM31 (by decide) rfl) ?_
          refine ok_chk (nxg (g_n (i := 130) (n := 512) tM31 (by decide) rfl) ix34 (by omega) (by omega)) ?_
          refine ok_ltt (fun M36 eM36 => ?_)
          have tM36 : TT G M36 p w L := by rw [eM36]; exact (tt_wt tM31 (0) (8) rfl (by simp [TYL]) (ti_ib iy23_2_1 (by omega) (by omega)))
          have fM36 : Fr p [1, 2, 3, 4, 5, 6, 7, 14, 17, 18, 19, 20] M M36 := by rw [eM36]; exact (fr_w fM31 rfl)
          clear eM36
          refine ok_dr (f_r (b := 138) tM36 rfl (by decide)) (g_lt tM36 (by decide)) (g_k tM36 (by decide) rfl) ?_
          refine ok_bnd (s_predictFour tM36 (f_r (b := 125) tM36 rfl (by decide)) i0 is13_2_2_1 iy20 (by omega) (by omega) (by omega) (by omega) (by omega) (by omega) (by omega) (by omega) (by omega) (by omega)) ?_
          intro y38 hyy38
          obtain ⟨ty38, gy38⟩ := hyy38
          have fy38 := fr_tr fM36 gy38 rfl
          refine ok_dr (f_r (b := 209) ty38 rfl (by decide)) (g_lt ty38 (by decide)) (g_k ty38 (by decide) rfl) ?_
          refine ok_chk (nxg (g_n (i := 209) (n := 3) ty38 (by decide) rfl) tn_0 (by omega) (by omega)) ?_
          refine ok_dr (f_r (b := 138) ty38 rfl (by decide)) (g_lt ty38 (by decide)) (g_k ty38 (by decide) rfl) ?_
          obtain ⟨c8, hc8, nc8, ec8⟩ := ps_0 ty38
          refine ok_bnd (s_measureLuma ty38 (f_r (b := 125) ty38 rfl (by decide)) ec8 hc8 nc8 i0 is13_2_2_1 ix5 (by omega) (by omega) (by omega) (by omega) (by omega) (by omega) (by omega)) ?_
          intro y41 hyy41
          obtain ⟨ty41, gy41, _⟩ := hyy41
          have fy41 := fr_tr fy38 gy41 rfl
          refine ok_dr (f_r (b := 138) ty41 rfl (by decide)) (g_lt ty41 (by decide)) (g_k ty41 (by decide) rfl) ?_
          refine ok_bnd (s_fillLuma ty41 (f_r (b := 125) ty41 rfl (by decide)) i0 is13_2_2_1 ix5 (by omega) (by omega) (by omega) (by omega) (by omega) (by omega)) ?_
          intro y43 hyy43
          obtain ⟨ty43, gy43⟩ := hyy43
          have fy43 := fr_tr fy41 gy43 rfl
          refine ok_ltI (av_add is13_2_2_1 tn_1 (by omega) (by omega)) (fun x44 ix44 => ?_)
          exact ok_some ⟨⟨trivial, trivial, (ti_bd ix44 (by omega) (by omega)), ty43, fy43⟩, (mu_up ix44 (by omega) (by omega))⟩
  · exact ⟨trivial, trivial, (ti_bd tn_0 (by omega) (by omega)), tM11, fM11⟩
  · exact mu_0 tn_0 (by omega)
  · intro y12 hyy12
    obtain ⟨_, _, ly12_2_2_1, ty12_2_2_2, fy12_2_2_2⟩ := hyy12
    have iy12_2_2_1 : TI y12.2.2.1 y12.2.2.1.toInt := rfl
    refine ok_bnd (s_priceOfBit ty12_2_2_2) ?_
    intro y15 hyy15
    obtain ⟨ty15, gy15, _⟩ := hyy15
    have fy15 := fr_tr fy12_2_2_2 gy15 rfl
    refine ok_ltA (fun x16 => ?_)
    refine ok_ltA (fun x17 => ?_)
    exact ok_some ⟨ty15, fy15, trivial⟩
