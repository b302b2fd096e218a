/-! safety of the coder's functions, printed out of their trees -/
theorem s_maySkip {G : GG} {M : DD} {p : Nat} {w : Int} {L : List Nat} (t : TT G M p w L) {p0 : Int32} {a0 : Int} (i0 : TI p0 a0) (h0 : 0 ≤ a0) (h1 : a0 < 2 * w) : OK (FX0_maySkip G M 116 p0) (fun y => TT G y.1 p w L ∧ Fr p [10] M y.1 ∧ (0 ≤ y.2.toInt ∧ y.2.toInt ≤ 1)) := by
  unfold FX0_maySkip
  have hw12 : 1 ≤ w ∧ w ≤ 2 := by rcases tt_w t with h | h <;> omega
  refine ok_ltI (av_mul tn_8 i0 (by omega) (by omega)) (fun x1 ix1 => ?_)
  refine ok_dr (f_r (b := 125) t rfl (by decide)) (g_lt t (by decide)) (g_k t (by decide) rfl) ?_
  refine ok_ltI (av_add ix1 tn_0 (by omega) (by omega)) (fun x3 ix3 => ?_)
  refine ok_dr (f_r (b := 129) t rfl (by decide)) (g_lt t (by decide)) (g_k t (by decide) rfl) ?_
  refine ok_chk (nxg (g_n (i := 129) (n := 256) t (by decide) rfl) ix3 (by omega) (by omega)) ?_
  refine ok_ltA (fun x5 => ?_)
  refine ok_if (fun c1 => ?_) (fun c1 => ?_)
  · have dc1 := tl_eq (rfl : TI x5 x5.toInt) tn_3 c1
    refine ok_ltI (av_add ix1 tn_1 (by omega) (by omega)) (fun x7 ix7 => ?_)
    refine ok_chk (nxg (g_n (i := 129) (n := 256) t (by decide) rfl) ix7 (by omega) (by omega)) ?_
    refine ok_ltA (fun x8 => ?_)
    refine ok_if (fun c2 => ?_) (fun c2 => ?_)
    · have dc2 := tl_eq (rfl : TI x8 x8.toInt) tn_0 c2
      refine ok_ltI (av_add ix1 tn_3 (by omega) (by omega)) (fun x10 ix10 => ?_)
      refine ok_chk (nxg (g_n (i := 129) (n := 256) t (by decide) rfl) ix10 (by omega) (by omega)) ?_
      refine ok_ltA (fun x11 => ?_)
      refine ok_ltI (av_add ix1 tn_4 (by omega) (by omega)) (fun x12 ix12 => ?_)
      refine ok_chk (nxg (g_n (i := 129) (n := 256) t (by decide) rfl) ix12 (by omega) (by omega)) ?_
      refine ok_ltA (fun x13 => ?_)
      refine ok_ltA (fun x14 => ?_)
      refine ok_if (fun c3 => ?_) (fun c3 => ?_)
      · have dc3 := tl_le (rfl : TI x14 x14.toInt) tn_0 c3
        refine ok_dr (f_r (b := 215) t rfl (by decide)) (g_lt t (by decide)) (g_k t (by decide) rfl) ?_
        refine ok_dr (f_r (b := 216) t rfl (by decide)) (g_lt t (by decide)) (g_k t (by decide) rfl) ?_
        refine ok_chk (nxg (g_n (i := 216) (n := 27) t (by decide) rfl) tn_1 (by omega) (by omega)) ?_
        refine ok_ltB (ib_p t (by simp [PYL] : (216, 1, 0, 2) ∈ PYL)) (fun x18 lx18 => ?_)
        have ix18 : TI x18 x18.toInt := rfl
        refine ok_if (fun c4 => ?_) (fun c4 => ?_)
        · have dc4 := tl_eq ix18 tn_1 c4
          refine ok_chk (by decide) ?_
          exact ok_some ⟨t, (fr_0 p [10] M), (ti_bd tn_1 (by omega) (by omega))⟩
        · refine ok_bnd (s_guessSkipped t i0 (by omega) (by omega)) ?_
          intro y20 hyy20
          obtain ⟨ty20, gy20⟩ := hyy20
          have fy20 := fr_tr (fr_0 p [10] M) gy20 rfl
          refine ok_ltI (av_mul tn_16 i0 (by omega) (by omega)) (fun x21 ix21 => ?_)
          refine ok_dr (f_r (b := 125) ty20 rfl (by decide)) (g_lt ty20 (by decide)) (g_k ty20 (by decide) rfl) ?_
          refine ok_dr (tt_pic ty20) (by have q := (tt_q0b ty20 (tt_p ty20)); omega) (gk_0 ty20 (tt_p ty20)) ?_
          refine ok_dr (pr_5 ty20 (tt_p ty20)) (by have q := (tt_q0b ty20 (tt_p ty20)); omega) (gk_6 ty20 (tt_p ty20)) ?_
          refine ok_chk (nxg (gl_6 ty20 (tt_p ty20)) ix21 (by omega) (by omega)) ?_
          refine ok_ltB (ib_6 ty20 (tt_p ty20) _) (fun x25 lx25 => ?_)
          have ix25 : TI x25 x25.toInt := rfl
          refine ok_bnd (Q := fun (z : Int32) => (0 ≤ z.toInt ∧ z.toInt ≤ 1)) ?_ ?_
          · refine ok_if (fun c5 => ?_) (fun c5 => ?_)
            · have dc5 := tl_eq ix25 tn_0 c5
              refine ok_ltI (av_mul tn_2 ix21 (by omega) (by omega)) (fun x28 ix28 => ?_)
              refine ok_dr (pr_7 ty20 (tt_p ty20)) (by have q := (tt_q0b ty20 (tt_p ty20)); omega) (gk_8 ty20 (tt_p ty20)) ?_
              refine ok_chk (nxg (gl_8 ty20 (tt_p ty20)) ix28 (by omega) (by omega)) ?_
              refine ok_ltB (ib_8 ty20 (tt_p ty20) _) (fun x30 lx30 => ?_)
              have ix30 : TI x30 x30.toInt := rfl
              refine ok_ltB (ib_p ty20 (by simp [PYL] : (125, 18, -2048, 2047) ∈ PYL)) (fun x31 lx31 => ?_)
              have ix31 : TI x31 x31.toInt := rfl
              refine ok_bnd (Q := fun (z : Int32) => (0 ≤ z.toInt ∧ z.toInt ≤ 1)) ?_ ?_
              · refine ok_if (fun c6 => ?_) (fun c6 => ?_)
                · have dc6 := tl_eq ix30 ix31 c6
                  refine ok_ltI (av_mul tn_2 ix21 (by omega) (by omega)) (fun x34 ix34 => ?_)
                  refine ok_ltI (av_add ix34 tn_1 (by omega) (by omega)) (fun x35 ix35 => ?_)
                  refine ok_chk (nxg (gl_8 ty20 (tt_p ty20)) ix35 (by omega) (by omega)) ?_
                  refine ok_ltB (ib_8 ty20 (tt_p ty20) _) (fun x36 lx36 => ?_)
                  have ix36 : TI x36 x36.toInt := rfl
                  refine ok_ltB (ib_p ty20 (by simp [PYL] : (125, 19, -2048, 2047) ∈ PYL)) (fun x37 lx37 => ?_)
                  have ix37 : TI x37 x37.toInt := rfl
                  refine ok_bnd (Q := fun (z : Int32) => (0 ≤ z.toInt ∧ z.toInt ≤ 1)) ?_ ?_
                  · refine ok_if (fun c7 => ?_) (fun c7 => ?_)
                    · have dc7 := tl_eq ix36 ix37 c7
                      exact ok_some (ti_bd tn_1 (by omega) (by omega))
                    · exact ok_some (ti_bd tn_0 (by omega) (by omega))
                  · intro y38 hyy38
                    have ly38 := hyy38
                    have iy38 : TI y38 y38.toInt := rfl
                    exact ok_some (ti_bd iy38 (by omega) (by omega))
                · exact ok_some (ti_bd tn_0 (by omega) (by omega))
              · intro y32 hyy32
                have ly32 := hyy32
                have iy32 : TI y32 y32.toInt := rfl
                exact ok_some (ti_bd iy32 (by omega) (by omega))
            · exact ok_some (ti_bd tn_0 (by omega) (by omega))
          · intro y26 hyy26
            have ly26 := hyy26
            have iy26 : TI y26 y26.toInt := rfl
            refine ok_chk (t01 iy26 (by omega) (by omega)) ?_
            exact ok_some ⟨ty20, fy20, (ti_bd iy26 (by omega) (by omega))⟩
      · have dc3 := tl_nle (rfl : TI x14 x14.toInt) tn_0 c3
        refine ok_chk (by decide) ?_
        exact ok_some ⟨t, (fr_0 p [10] M), (ti_bd tn_0 (by omega) (by omega))⟩
    · refine ok_chk (by decide) ?_
      exact ok_some ⟨t, (fr_0 p [10] M), (ti_bd tn_0 (by omega) (by omega))⟩
  · refine ok_chk (by decide) ?_
    exact ok_some ⟨t, (fr_0 p [10] M), (ti_bd tn_0 (by omega) (by omega))⟩
theorem s_buildPieces {G : GG} {M : DD} {p : Nat} {w : Int} {L : List Nat} (t : TT G M p w L) {p0 : Int32} {a0 : Int} (i0 : TI p0 a0) {p1 : Int32} {a1 : Int} (i1 : TI p1 a1) {p2 : Int32} {a2 : Int} (i2 : TI p2 a2) {p3 : Int32} (h0 : 0 ≤ a0) (h1 : a0 < 2 * w) (h2 : 0 ≤ a1) (h3 : a1 ≤ 51) (h4 : 0 ≤ a2) (h5 : a2 ≤ 15) (h6 : a2 % 2 = 1 → 1 ≤ a0 % w) (h7 : a2 / 2 % 2 = 1 → w ≤ a0) (h8 : a2 / 4 % 2 = 1 → 1 ≤ a0 % w ∧ w ≤ a0) (h9 : a2 / 8 % 2 = 1 → w ≤ a0) : OK (FX0_buildPieces G M 116 p0 p1 p2 p3) (fun y => TT G y p w L ∧ Fr p [1, 2, 3, 5, 6, 18] M y) := by
  unfold FX0_buildPieces
  have hw12 : 1 ≤ w ∧ w ≤ 2 := by rcases tt_w t with h | h <;> omega
  refine ok_ltI (av_mul tn_8 i0 (by omega) (by omega)) (fun x1 ix1 => ?_)
  refine ok_dr (f_r (b := 125) t rfl (by decide)) (g_lt t (by decide)) (g_k t (by decide) rfl) ?_
  refine ok_ltI (av_add ix1 tn_0 (by omega) (by omega)) (fun x3 ix3 => ?_)
  refine ok_dr (f_r (b := 129) t rfl (by decide)) (g_lt t (by decide)) (g_k t (by decide) rfl) ?_
  refine ok_chk (nxg (g_n (i := 129) (n := 256) t (by decide) rfl) ix3 (by omega) (by omega)) ?_
  refine ok_ltA (fun x5 => ?_)
  refine ok_bnd (Q := fun (z : Int32) => (0 ≤ z.toInt ∧ z.toInt ≤ 1)) ?_ ?_
  · refine ok_if (fun c1 => ?_) (fun c1 => ?_)
    · have dc1 := tl_eq (rfl : TI x5 x5.toInt) tn_0 c1
      exact ok_some (ti_bd tn_1 (by omega) (by omega))
    · exact ok_some (ti_bd tn_0 (by omega) (by omega))
  · intro y6 hyy6
    have ly6 := hyy6
    have iy6 : TI y6 y6.toInt := rfl
    refine ok_bnd (Q := fun (z : Int32 × DD) => (0 ≤ z.1.toInt ∧ z.1.toInt ≤ 16) ∧ TT G z.2 p w L ∧ Fr p [1, 2, 3, 5, 6, 18] M z.2) (ok_itr (fun (z : Int32 × DD) => (0 ≤ z.1.toInt ∧ z.1.toInt ≤ 16) ∧ TT G z.2 p w L ∧ Fr p [1, 2, 3, 5, 6, 18] M z.2) (fun z => (16 - z.1.toInt).toNat) ?_ _ _ ?_ ?_) ?_
    · intro s8 hys8
      obtain ⟨ls8_1, ts8_2, fs8_2⟩ := hys8
      have is8_1 : TI s8.1 s8.1.toInt := rfl
      refine ok_if (fun c2 => ?_) (fun c2 => ?_)
      · have dc2 := tl_le tn_16 is8_1 c2
        exact ok_some ⟨(ti_bd is8_1 (by omega) (by omega)), ts8_2, fs8_2⟩
      · have dc2 := tl_nle tn_16 is8_1 c2
        refine ok_bnd (Q := fun (z : DD) => TT G z p w L ∧ Fr p [1, 2, 3, 5, 6, 18] M z) ?_ ?_
        · refine ok_if (fun c3 => ?_) (fun c3 => ?_)
          · have dc3 := tl_eq iy6 tn_0 c3
            exact ok_some ⟨ts8_2, fs8_2⟩
          · refine ok_dr (f_r (b := 125) ts8_2 rfl (by decide)) (g_lt ts8_2 (by decide)) (g_k ts8_2 (by decide) rfl) ?_
            refine ok_ltI (av_mul tn_16 i0 (by omega) (by omega)) (fun x33 ix33 => ?_)
            refine ok_ltI (av_add ix33 is8_1 (by omega) (by omega)) (fun x34 ix34 => ?_)
            refine ok_dr (f_r (b := 130) ts8_2 rfl (by decide)) (g_lt ts8_2 (by decide)) (g_k ts8_2 (by decide) rfl) ?_
            refine ok_chk (nxg (g_n (i := 130) (n := 512) ts8_2 (by decide) rfl) ix34 (by omega) (by omega)) ?_
            refine ok_ltB (ib_t ts8_2 (by simp [TYL] : (130, 0, 8) ∈ TYL) _) (fun x36 lx36 => ?_)
            have ix36 : TI x36 x36.toInt := rfl
            refine ok_bnd (s_sidesOf (mb := a0) ts8_2 is8_1 i2 (by omega) (by omega) (by omega) (by omega) (by omega) (by omega) (by omega) (by omega)) ?_
            intro y37 hyy37
            obtain ⟨ty37, gy37, ly37⟩ := hyy37
            have fy37 := fr_tr fs8_2 gy37 rfl
            have iy37 : TI y37.2 y37.2.toInt := rfl
            refine ok_dr (f_r (b := 138) ts8_2 rfl (by decide)) (g_lt ty37 (by decide)) (g_k ty37 (by decide) rfl) ?_
            refine ok_bnd (s_predictFour ty37 rfl i0 is8_1 iy37 (by omega) (by omega) (by omega) (by omega) (by omega) (by omega) (by omega) (by omega) (by omega) (by omega)) ?_
            intro y39 hyy39
            obtain ⟨ty39, gy39⟩ := hyy39
            have fy39 := fr_tr fy37 gy39 rfl
            exact ok_some ⟨ty39, fy39⟩
        · intro y12 hyy12
          obtain ⟨ty12, fy12⟩ := hyy12
          refine ok_bnd (Q := fun (z : DD) => TT G z p w L ∧ Fr p [1, 2, 3, 5, 6, 18] M z) ?_ ?_
          · refine ok_if (fun c4 => ?_) (fun c4 => ?_)
            · have dc4 := tl_eq (rfl : TI p3 p3.toInt) tn_0 c4
              refine ok_dr (f_r (b := 209) ty12 rfl (by decide)) (g_lt ty12 (by decide)) (g_k ty12 (by decide) rfl) ?_
              refine ok_chk (nxg (g_n (i := 209) (n := 3) ty12 (by decide) rfl) tn_0 (by omega) (by omega)) ?_
              refine ok_dr (f_r (b := 138) ty12 rfl (by decide)) (g_lt ty12 (by decide)) (g_k ty12 (by decide) rfl) ?_
              obtain ⟨c5, hc5, nc5, ec5⟩ := ps_0 ty12
              refine ok_bnd (s_measureLuma ty12 (f_r (b := 125) ty12 rfl (by decide)) ec5 hc5 nc5 i0 is8_1 i1 (by omega) (by omega) (by omega) (by omega) (by omega) (by omega) (by omega)) ?_
              intro y20 hyy20
              obtain ⟨ty20, gy20, _⟩ := hyy20
              have fy20 := fr_tr fy12 gy20 rfl
              refine ok_bnd (Q := fun (z : DD) => TT G z p w L ∧ Fr p [1, 2, 3, 5, 6, 18] M z) ?_ ?_
              · refine ok_if (fun c6 => ?_) (fun c6 => ?_)
                · have dc6 := tl_le (rfl : TI y20.2 y20.2.toInt) tn_0 c6
                  exact ok_some ⟨ty20, fy20⟩
                · have dc6 := tl_nle (rfl : TI y20.2 y20.2.toInt) tn_0 c6
                  refine ok_dr (f_r (b := 125) ty20 rfl (by decide)) (g_lt ty20 (by decide)) (g_k ty20 (by decide) rfl) ?_
                  refine ok_ltI (av_add ix1 tn_3 (by omega) (by omega)) (fun x24 ix24 => ?_)
                  refine ok_dr (f_r (b := 129) ty20 rfl (by decide)) (g_lt ty20 (by decide)) (g_k ty20 (by decide) rfl) ?_
                  refine ok_chk (nxg (g_n (i := 129) (n := 256) ty20 (by decide) rfl) ix24 (by omega) (by omega)) ?_
                  refine ok_ltA (fun x26 => ?_)
                  refine ok_ltI (av_div is8_1 tn_4 (by omega) (by omega)) (fun x27 ix27 => ?_)
                  refine ok_ltA (fun x28 => ?_)
                  refine ok_ltA (fun x29 => ?_)
                  refine ok_chk (nxg (g_n (i := 129) (n := 256) ty20 (by decide) rfl) ix24 (by omega) (by omega)) ?_
                  refine ok_ltt (fun M30 eM30 => ?_)
                  have tM30 : TT G M30 p w L := by rw [eM30]; exact (tt_w0 ty20 rfl)
                  have fM30 : Fr p [1, 2, 3, 5, 6, 18] M M30 := by rw [eM30]; exact (fr_w fy20 rfl)
                  clear eM30
                  exact ok_some ⟨tM30, fM30⟩
              · intro y21 hyy21
                obtain ⟨ty21, fy21⟩ := hyy21
                exact ok_some ⟨ty21, fy21⟩
            · exact ok_some ⟨ty12, fy12⟩
          · intro y13 hyy13
            obtain ⟨ty13, fy13⟩ := hyy13
            refine ok_dr (f_r (b := 138) ty13 rfl (by decide)) (g_lt ty13 (by decide)) (g_k ty13 (by decide) rfl) ?_
            refine ok_bnd (s_fillLuma ty13 (f_r (b := 125) ty13 rfl (by decide)) i0 is8_1 i1 (by omega) (by omega) (by omega) (by omega) (by omega) (by omega)) ?_
            intro y15 hyy15
            obtain ⟨ty15, gy15⟩ := hyy15
            have fy15 := fr_tr fy13 gy15 rfl
            refine ok_ltI (av_add is8_1 tn_1 (by omega) (by omega)) (fun x16 ix16 => ?_)
            exact ok_some ⟨⟨(ti_bd ix16 (by omega) (by omega)), ty15, fy15⟩, (mu_up ix16 (by omega) (by omega))⟩
    · exact ⟨(ti_bd tn_0 (by omega) (by omega)), t, (fr_0 p [1, 2, 3, 5, 6, 18] M)⟩
    · exact mu_0 tn_0 (by omega)
    · intro y7 hyy7
      obtain ⟨ly7_1, ty7_2, fy7_2⟩ := hyy7
      have iy7_1 : TI y7.1 y7.1.toInt := rfl
      exact ok_some ⟨ty7_2, fy7_2⟩
theorem s_build {G : GG} {M : DD} {p : Nat} {w : Int} {L : List Nat} (t : TT G M p w L) {p0 : Int32} {a0 : Int} (i0 : TI p0 a0) {p1 : Int32} {a1 : Int} (i1 : TI p1 a1) (h0 : 0 ≤ a0) (h1 : a0 < 2 * w) (h2 : 0 ≤ a1) (h3 : a1 ≤ 51) : OK (FX0_build G M 116 p0 p1) (fun y => TT G y p w L ∧ Fr p [1, 2, 3, 5, 6, 10, 18] M y) := by
  unfold FX0_build
  have hw12 : 1 ≤ w ∧ w ≤ 2 := by rcases tt_w t with h | h <;> omega
  refine ok_ltI (av_mul tn_8 i0 (by omega) (by omega)) (fun x1 ix1 => ?_)
  refine ok_dr (f_r (b := 125) t rfl (by decide)) (g_lt t (by decide)) (g_k t (by decide) rfl) ?_
  refine ok_ltI (av_add ix1 tn_0 (by omega) (by omega)) (fun x3 ix3 => ?_)
  refine ok_dr (f_r (b := 129) t rfl (by decide)) (g_lt t (by decide)) (g_k t (by decide) rfl) ?_
  refine ok_chk (nxg (g_n (i := 129) (n := 256) t (by decide) rfl) ix3 (by omega) (by omega)) ?_
  refine ok_ltA (fun x5 => ?_)
  refine ok_dr (f_r (b := 220) t rfl (by decide)) (g_lt t (by decide)) (g_k t (by decide) rfl) ?_
  refine ok_chk (nxg (g_n (i := 220) (n := 12) t (by decide) rfl) tn_8 (by omega) (by omega)) ?_
  refine ok_ltA (fun x7 => ?_)
  refine ok_bnd (s_colourStep t) ?_
  intro y8 hyy8
  obtain ⟨ty8, gy8, ly8⟩ := hyy8
  have fy8 := fr_tr (fr_0 p [1, 2, 3, 5, 6, 10, 18] M) gy8 rfl
  have iy8 : TI y8.2 y8.2.toInt := rfl
  refine ok_bnd (Q := fun (z : Int32) => (0 ≤ z.toInt ∧ z.toInt ≤ 1)) ?_ ?_
  · refine ok_if (fun c1 => ?_) (fun c1 => ?_)
    · have dc1 := tl_eq (rfl : TI x5 x5.toInt) tn_3 c1
      exact ok_some (ti_bd tn_0 (by omega) (by omega))
    · exact ok_some (ti_bd tn_1 (by omega) (by omega))
  · intro y9 hyy9
    have ly9 := hyy9
    have iy9 : TI y9 y9.toInt := rfl
    refine ok_bnd (Q := fun (z : Int32) => (0 ≤ z.toInt ∧ z.toInt ≤ 1)) ?_ ?_
    · refine ok_if (fun c2 => ?_) (fun c2 => ?_)
      · have dc2 := tl_eq iy9 tn_0 c2
        refine ok_dr (f_r (b := 125) ty8 rfl (by decide)) (g_lt ty8 (by decide)) (g_k ty8 (by decide) rfl) ?_
        refine ok_ltI (av_add ix1 tn_1 (by omega) (by omega)) (fun x76 ix76 => ?_)
        refine ok_dr (f_r (b := 129) ty8 rfl (by decide)) (g_lt ty8 (by decide)) (g_k ty8 (by decide) rfl) ?_
        refine ok_chk (nxg (g_n (i := 129) (n := 256) ty8 (by decide) rfl) ix76 (by omega) (by omega)) ?_
        refine ok_ltA (fun x78 => ?_)
        refine ok_bnd (Q := fun (z : Int32) => (0 ≤ z.toInt ∧ z.toInt ≤ 1)) ?_ ?_
        · refine ok_if (fun c3 => ?_) (fun c3 => ?_)
          · have dc3 := tl_le tn_0 (rfl : TI x78 x78.toInt) c3
            exact ok_some (ti_bd tn_0 (by omega) (by omega))
          · have dc3 := tl_nle tn_0 (rfl : TI x78 x78.toInt) c3
            exact ok_some (ti_bd tn_1 (by omega) (by omega))
        · intro y79 hyy79
          have ly79 := hyy79
          have iy79 : TI y79 y79.toInt := rfl
          exact ok_some (ti_bd iy79 (by omega) (by omega))
      · exact ok_some (ti_bd tn_0 (by omega) (by omega))
    · intro y10 hyy10
      have ly10 := hyy10
      have iy10 : TI y10 y10.toInt := rfl
      refine ok_dr (f_r (b := 125) ty8 rfl (by decide)) (g_lt ty8 (by decide)) (g_k ty8 (by decide) rfl) ?_
      refine ok_bnd (s_sides ty8 i0 (by omega) (by omega)) ?_
      intro y12 hyy12
      obtain ⟨ty12, gy12, ly12⟩ := hyy12
      have fy12 := fr_tr fy8 gy12 rfl
      have iy12 : TI y12.2 y12.2.toInt := rfl
      refine ok_if (fun c4 => ?_) (fun c4 => ?_)
      · have dc4 := tl_eq (rfl : TI x5 x5.toInt) tn_2 c4
        refine ok_dr (f_r (b := 138) ty12 rfl (by decide)) (g_lt ty12 (by decide)) (g_k ty12 (by decide) rfl) ?_
        refine ok_bnd (s_takeRaw ty12 (f_r (b := 125) ty12 rfl (by decide)) (f_r (b := 209) ty12 rfl (by decide)) i0 (by omega) (by omega)) ?_
        intro y66 hyy66
        obtain ⟨ty66, gy66⟩ := hyy66
        have fy66 := fr_tr fy12 gy66 rfl
        refine ok_dr (f_r (b := 138) ty66 rfl (by decide)) (g_lt ty66 (by decide)) (g_k ty66 (by decide) rfl) ?_
        refine ok_bnd (s_fillRaw ty66 (f_r (b := 125) ty66 rfl (by decide)) i0 (by omega) (by omega)) ?_
        intro y68 hyy68
        obtain ⟨ty68, gy68⟩ := hyy68
        have fy68 := fr_tr fy66 gy68 rfl
        refine ok_dr (f_r (b := 125) ty68 rfl (by decide)) (g_lt ty68 (by decide)) (g_k ty68 (by decide) rfl) ?_
        refine ok_ltI (av_mul tn_24 i0 (by omega) (by omega)) (fun x70 ix70 => ?_)
        refine ok_ltI (av_mul tn_24 i0 (by omega) (by omega)) (fun x71 ix71 => ?_)
        refine ok_ltI (av_add ix71 tn_24 (by omega) (by omega)) (fun x72 ix72 => ?_)
        refine ok_bnd (s_fillBf (S := [1, 2, 3, 5, 6, 10, 18]) (M0 := M) (b := 131) (n := 768) ty68 (f_r (b := 131) ty68 rfl (by decide)) rfl rfl ix70 ix72 (by omega) (by omega) (by omega) fy68 (fun _ => rfl)) ?_
        intro y73 hyy73
        obtain ⟨ty73, fy73⟩ := hyy73
        exact ok_some ⟨ty73, fy73⟩
      · refine ok_bnd (Q := fun (z : DD) => TT G z p w L ∧ Fr p [1, 2, 3, 5, 6, 10, 18] M z) ?_ ?_
        · refine ok_if (fun c5 => ?_) (fun c5 => ?_)
          · have dc5 := tl_eq iy9 tn_0 c5
            refine ok_dr (f_r (b := 138) ty12 rfl (by decide)) (g_lt ty12 (by decide)) (g_k ty12 (by decide) rfl) ?_
            refine ok_bnd (s_predictByLists ty12 (f_r (b := 125) ty12 rfl (by decide)) i0 (by omega) (by omega)) ?_
            intro y58 hyy58
            obtain ⟨ty58, gy58⟩ := hyy58
            have fy58 := fr_tr fy12 gy58 rfl
            exact ok_some ⟨ty58, fy58⟩
          · refine ok_dr (f_r (b := 125) ty12 rfl (by decide)) (g_lt ty12 (by decide)) (g_k ty12 (by decide) rfl) ?_
            refine ok_ltI (av_add ix1 tn_5 (by omega) (by omega)) (fun x60 ix60 => ?_)
            refine ok_dr (f_r (b := 129) ty12 rfl (by decide)) (g_lt ty12 (by decide)) (g_k ty12 (by decide) rfl) ?_
            refine ok_chk (nxg (g_n (i := 129) (n := 256) ty12 (by decide) rfl) ix60 (by omega) (by omega)) ?_
            refine ok_ltA (fun x62 => ?_)
            refine ok_dr (f_r (b := 138) ty12 rfl (by decide)) (g_lt ty12 (by decide)) (g_k ty12 (by decide) rfl) ?_
            refine ok_bnd (s_predictColours_ ty12 rfl i0 iy12 (by omega) (by omega) (by omega) (by omega) (by omega) (by omega) (by omega) (by omega)) ?_
            intro y64 hyy64
            obtain ⟨ty64, gy64⟩ := hyy64
            have fy64 := fr_tr fy12 gy64 rfl
            exact ok_some ⟨ty64, fy64⟩
        · intro y14 hyy14
          obtain ⟨ty14, fy14⟩ := hyy14
          refine ok_bnd (Q := fun (z : DD) => TT G z p w L ∧ Fr p [1, 2, 3, 5, 6, 10, 18] M z) ?_ ?_
          · refine ok_if (fun c6 => ?_) (fun c6 => ?_)
            · have dc6 := tl_eq (rfl : TI x5 x5.toInt) tn_1 c6
              refine ok_dr (f_r (b := 125) ty14 rfl (by decide)) (g_lt ty14 (by decide)) (g_k ty14 (by decide) rfl) ?_
              refine ok_ltI (av_mul tn_16 i0 (by omega) (by omega)) (fun x40 ix40 => ?_)
              refine ok_dr (f_r (b := 130) ty14 rfl (by decide)) (g_lt ty14 (by decide)) (g_k ty14 (by decide) rfl) ?_
              refine ok_chk (nxg (g_n (i := 130) (n := 512) ty14 (by decide) rfl) ix40 (by omega) (by omega)) ?_
              refine ok_ltB (ib_t ty14 (by simp [TYL] : (130, 0, 8) ∈ TYL) _) (fun x42 lx42 => ?_)
              have ix42 : TI x42 x42.toInt := rfl
              refine ok_dr (f_r (b := 138) ty14 rfl (by decide)) (g_lt ty14 (by decide)) (g_k ty14 (by decide) rfl) ?_
              refine ok_bnd (s_predictSixteen ty14 rfl i0 iy12 (by omega) (by omega) (by omega) (by omega) (by omega) (by omega) (by omega) (by omega)) ?_
              intro y44 hyy44
              obtain ⟨ty44, gy44⟩ := hyy44
              have fy44 := fr_tr fy14 gy44 rfl
              refine ok_dr (f_r (b := 125) ty44 rfl (by decide)) (g_lt ty44 (by decide)) (g_k ty44 (by decide) rfl) ?_
              refine ok_ltI (av_add ix1 tn_3 (by omega) (by omega)) (fun x46 ix46 => ?_)
              refine ok_dr (f_r (b := 209) ty44 rfl (by decide)) (g_lt ty44 (by decide)) (g_k ty44 (by decide) rfl) ?_
              refine ok_chk (nxg (g_n (i := 209) (n := 3) ty44 (by decide) rfl) tn_0 (by omega) (by omega)) ?_
              refine ok_dr (f_r (b := 138) ty44 rfl (by decide)) (g_lt ty44 (by decide)) (g_k ty44 (by decide) rfl) ?_
              obtain ⟨c7, hc7, nc7, ec7⟩ := ps_0 ty44
              refine ok_bnd (s_measureSixteen ty44 (f_r (b := 125) ty44 rfl (by decide)) ec7 hc7 nc7 i0 i1 (by omega) (by omega) (by omega) (by omega) (by omega)) ?_
              intro y49 hyy49
              obtain ⟨ty49, gy49, _⟩ := hyy49
              have fy49 := fr_tr fy44 gy49 rfl
              refine ok_bnd (Q := fun (z : Int32) => (0 ≤ z.toInt ∧ z.toInt ≤ 15)) ?_ ?_
              · refine ok_if (fun c8 => ?_) (fun c8 => ?_)
                · have dc8 := tl_eq (rfl : TI y49.2 y49.2.toInt) tn_0 c8
                  exact ok_some (ti_bd tn_0 (by omega) (by omega))
                · exact ok_some (ti_bd tn_15 (by omega) (by omega))
              · intro y50 hyy50
                have ly50 := hyy50
                have iy50 : TI y50 y50.toInt := rfl
                refine ok_dr (f_r (b := 129) ty44 rfl (by decide)) (g_lt ty49 (by decide)) (g_k ty49 (by decide) rfl) ?_
                refine ok_chk (nxg (g_n (i := 129) (n := 256) ty49 (by decide) rfl) ix46 (by omega) (by omega)) ?_
                refine ok_ltt (fun M52 eM52 => ?_)
                have tM52 : TT G M52 p w L := by rw [eM52]; exact (tt_w0 ty49 rfl)
                have fM52 : Fr p [1, 2, 3, 5, 6, 10, 18] M M52 := by rw [eM52]; exact (fr_w fy49 rfl)
                clear eM52
                refine ok_dr (f_r (b := 138) tM52 rfl (by decide)) (g_lt tM52 (by decide)) (g_k tM52 (by decide) rfl) ?_
                refine ok_bnd (s_fillSixteen tM52 (f_r (b := 125) tM52 rfl (by decide)) i0 i1 (by omega) (by omega) (by omega) (by omega)) ?_
                intro y54 hyy54
                obtain ⟨ty54, gy54⟩ := hyy54
                have fy54 := fr_tr fM52 gy54 rfl
                exact ok_some ⟨ty54, fy54⟩
            · refine ok_bnd (s_buildPieces ty14 i0 i1 iy12 (by omega) (by omega) (by omega) (by omega) (by omega) (by omega) (by omega) (by omega) (by omega) (by omega)) ?_
              intro y38 hyy38
              obtain ⟨ty38, gy38⟩ := hyy38
              have fy38 := fr_tr fy14 gy38 rfl
              exact ok_some ⟨ty38, fy38⟩
          · intro y15 hyy15
            obtain ⟨ty15, fy15⟩ := hyy15
            refine ok_bnd (Q := fun (z : DD) => TT G z p w L ∧ Fr p [1, 2, 3, 5, 6, 10, 18] M z) ?_ ?_
            · refine ok_if (fun c9 => ?_) (fun c9 => ?_)
              · have dc9 := tl_eq iy10 tn_0 c9
                refine ok_dr (f_r (b := 125) ty15 rfl (by decide)) (g_lt ty15 (by decide)) (g_k ty15 (by decide) rfl) ?_
                refine ok_ltI (av_add ix1 tn_4 (by omega) (by omega)) (fun x32 ix32 => ?_)
                refine ok_dr (f_r (b := 138) ty15 rfl (by decide)) (g_lt ty15 (by decide)) (g_k ty15 (by decide) rfl) ?_
                refine ok_bnd (s_measureColours ty15 (f_r (b := 125) ty15 rfl (by decide)) (f_r (b := 209) ty15 rfl (by decide)) i0 iy8 (by omega) (by omega) (by omega) (by omega)) ?_
                intro y34 hyy34
                obtain ⟨ty34, gy34, _⟩ := hyy34
                have fy34 := fr_tr fy15 gy34 rfl
                refine ok_dr (f_r (b := 129) ty15 rfl (by decide)) (g_lt ty34 (by decide)) (g_k ty34 (by decide) rfl) ?_
                refine ok_chk (nxg (g_n (i := 129) (n := 256) ty34 (by decide) rfl) ix32 (by omega) (by omega)) ?_
                refine ok_ltt (fun M36 eM36 => ?_)
                have tM36 : TT G M36 p w L := by rw [eM36]; exact (tt_w0 ty34 rfl)
                have fM36 : Fr p [1, 2, 3, 5, 6, 10, 18] M M36 := by rw [eM36]; exact (fr_w fy34 rfl)
                clear eM36
                exact ok_some ⟨tM36, fM36⟩
              · exact ok_some ⟨ty15, fy15⟩
            · intro y16 hyy16
              obtain ⟨ty16, fy16⟩ := hyy16
              refine ok_dr (f_r (b := 138) ty16 rfl (by decide)) (g_lt ty16 (by decide)) (g_k ty16 (by decide) rfl) ?_
              refine ok_bnd (s_fillColours ty16 (f_r (b := 125) ty16 rfl (by decide)) i0 iy8 (by omega) (by omega) (by omega) (by omega)) ?_
              intro y18 hyy18
              obtain ⟨ty18, gy18⟩ := hyy18
              have fy18 := fr_tr fy16 gy18 rfl
              refine ok_dr (f_r (b := 118) ty18 rfl (by decide)) (g_lt ty18 (by decide)) (g_k ty18 (by decide) rfl) ?_
              refine ok_chk (nxg (g_n (i := 118) (n := 24) ty18 (by decide) rfl) tn_8 (by omega) (by omega)) ?_
              refine ok_ltB (ib_p ty18 (by simp [PYL] : (118, 8, 0, 1) ∈ PYL)) (fun x20 lx20 => ?_)
              have ix20 : TI x20 x20.toInt := rfl
              refine ok_bnd (Q := fun (z : DD) => TT G z p w L ∧ Fr p [1, 2, 3, 5, 6, 10, 18] M z) ?_ ?_
              · refine ok_if (fun c10 => ?_) (fun c10 => ?_)
                · have dc10 := tl_eq ix20 tn_0 c10
                  refine ok_bnd (s_maySkip ty18 i0 (by omega) (by omega)) ?_
                  intro y23 hyy23
                  obtain ⟨ty23, gy23, ly23⟩ := hyy23
                  have fy23 := fr_tr fy18 gy23 rfl
                  have iy23 : TI y23.2 y23.2.toInt := rfl
                  refine ok_bnd (Q := fun (z : DD) => TT G z p w L ∧ Fr p [1, 2, 3, 5, 6, 10, 18] M z) ?_ ?_
                  · refine ok_if (fun c11 => ?_) (fun c11 => ?_)
                    · have dc11 := tl_eq iy23 tn_0 c11
                      exact ok_some ⟨ty23, fy23⟩
                    · refine ok_dr (f_r (b := 125) ty23 rfl (by decide)) (g_lt ty23 (by decide)) (g_k ty23 (by decide) rfl) ?_
                      refine ok_ltI (av_add ix1 tn_1 (by omega) (by omega)) (fun x27 ix27 => ?_)
                      refine ok_dr (f_r (b := 129) ty23 rfl (by decide)) (g_lt ty23 (by decide)) (g_k ty23 (by decide) rfl) ?_
                      refine ok_chk (nxg (g_n (i := 129) (n := 256) ty23 (by decide) rfl) ix27 (by omega) (by omega)) ?_
                      refine ok_ltt (fun M29 eM29 => ?_)
                      have tM29 : TT G M29 p w L := by rw [eM29]; exact (tt_w0 ty23 rfl)
                      have fM29 : Fr p [1, 2, 3, 5, 6, 10, 18] M M29 := by rw [eM29]; exact (fr_w fy23 rfl)
                      clear eM29
                      exact ok_some ⟨tM29, fM29⟩
                  · intro y24 hyy24
                    obtain ⟨ty24, fy24⟩ := hyy24
                    exact ok_some ⟨ty24, fy24⟩
                · exact ok_some ⟨ty18, fy18⟩
              · intro y21 hyy21
                obtain ⟨ty21, fy21⟩ := hyy21
                exact ok_some ⟨ty21, fy21⟩
theorem s_endBlock {G : GG} {M : DD} {p : Nat} {w : Int} {L : List Nat} (t : TT G M p w L) {p0 : Int32} {a0 : Int} (i0 : TI p0 a0) (h0 : 0 ≤ a0) (h1 : a0 < 2 * w) : OK (FX9_endBlock G M 125 p0) (fun y => TT G y p w L ∧ Fr p [3, 7, 16] M y) := by
  unfold FX9_endBlock
  have hw12 : 1 ≤ w ∧ w ≤ 2 := by rcases tt_w t with h | h <;> omega
  refine ok_ltI (av_mul tn_8 i0 (by omega) (by omega)) (fun x1 ix1 => ?_)
  refine ok_ltI (av_add ix1 tn_6 (by omega) (by omega)) (fun x2 ix2 => ?_)
  refine ok_ltA (fun x3 => ?_)
  refine ok_dr (f_r (b := 129) t rfl (by decide)) (g_lt t (by decide)) (g_k t (by decide) rfl) ?_
  refine ok_chk (nxg (g_n (i := 129) (n := 256) t (by decide) rfl) ix2 (by omega) (by omega)) ?_
  refine ok_ltt (fun M5 eM5 => ?_)
  have tM5 : TT G M5 p w L := by rw [eM5]; exact (tt_w0 t rfl)
  have fM5 : Fr p [3, 7, 16] M M5 := by rw [eM5]; exact (fr_w (fr_0 p [3, 7, 16] M) rfl)
  clear eM5
  refine ok_ltI (av_mul tn_3 i0 (by omega) (by omega)) (fun x6 ix6 => ?_)
  refine ok_dr (f_r (b := 215) tM5 rfl (by decide)) (g_lt tM5 (by decide)) (g_k tM5 (by decide) rfl) ?_
  refine ok_dr (f_r (b := 216) tM5 rfl (by decide)) (g_lt tM5 (by decide)) (g_k tM5 (by decide) rfl) ?_
  refine ok_chk (nxg (g_n (i := 216) (n := 27) tM5 (by decide) rfl) tn_13 (by omega) (by omega)) ?_
  refine ok_ltA (fun x9 => ?_)
  refine ok_dr (f_r (b := 133) tM5 rfl (by decide)) (g_lt tM5 (by decide)) (g_k tM5 (by decide) rfl) ?_
  refine ok_chk (nxg (g_n (i := 133) (n := 96) tM5 (by decide) rfl) ix6 (by omega) (by omega)) ?_
  refine ok_ltt (fun M11 eM11 => ?_)
  have tM11 : TT G M11 p w L := by rw [eM11]; exact (tt_w0 tM5 rfl)
  have fM11 : Fr p [3, 7, 16] M M11 := by rw [eM11]; exact (fr_w fM5 rfl)
  clear eM11
  refine ok_ltI (av_mul tn_3 i0 (by omega) (by omega)) (fun x12 ix12 => ?_)
  refine ok_ltI (av_add ix12 tn_1 (by omega) (by omega)) (fun x13 ix13 => ?_)
  refine ok_dr (f_r (b := 215) tM11 rfl (by decide)) (g_lt tM11 (by decide)) (g_k tM11 (by decide) rfl) ?_
  refine ok_dr (f_r (b := 216) tM11 rfl (by decide)) (g_lt tM11 (by decide)) (g_k tM11 (by decide) rfl) ?_
  refine ok_chk (nxg (g_n (i := 216) (n := 27) tM11 (by decide) rfl) tn_14 (by omega) (by omega)) ?_
  refine ok_ltA (fun x16 => ?_)
  refine ok_dr (f_r (b := 133) tM11 rfl (by decide)) (g_lt tM11 (by decide)) (g_k tM11 (by decide) rfl) ?_
  refine ok_chk (nxg (g_n (i := 133) (n := 96) tM11 (by decide) rfl) ix13 (by omega) (by omega)) ?_
  refine ok_ltt (fun M18 eM18 => ?_)
  have tM18 : TT G M18 p w L := by rw [eM18]; exact (tt_w0 tM11 rfl)
  have fM18 : Fr p [3, 7, 16] M M18 := by rw [eM18]; exact (fr_w fM11 rfl)
  clear eM18
  refine ok_ltI (av_mul tn_3 i0 (by omega) (by omega)) (fun x19 ix19 => ?_)
  refine ok_ltI (av_add ix19 tn_2 (by omega) (by omega)) (fun x20 ix20 => ?_)
  refine ok_dr (f_r (b := 215) tM18 rfl (by decide)) (g_lt tM18 (by decide)) (g_k tM18 (by decide) rfl) ?_
  refine ok_dr (f_r (b := 216) tM18 rfl (by decide)) (g_lt tM18 (by decide)) (g_k tM18 (by decide) rfl) ?_
  refine ok_chk (nxg (g_n (i := 216) (n := 27) tM18 (by decide) rfl) tn_15 (by omega) (by omega)) ?_
  refine ok_ltA (fun x23 => ?_)
  refine ok_dr (f_r (b := 133) tM18 rfl (by decide)) (g_lt tM18 (by decide)) (g_k tM18 (by decide) rfl) ?_
  refine ok_chk (nxg (g_n (i := 133) (n := 96) tM18 (by decide) rfl) ix20 (by omega) (by omega)) ?_
  refine ok_ltt (fun M25 eM25 => ?_)
  have tM25 : TT G M25 p w L := by rw [eM25]; exact (tt_w0 tM18 rfl)
  have fM25 : Fr p [3, 7, 16] M M25 := by rw [eM25]; exact (fr_w fM18 rfl)
  clear eM25
  refine ok_bnd (Q := fun (z : Int32 × DD) => (0 ≤ z.1.toInt ∧ z.1.toInt ≤ 2) ∧ TT G z.2 p w L ∧ Fr p [3, 7, 16] M z.2) (ok_itr (fun (z : Int32 × DD) => (0 ≤ z.1.toInt ∧ z.1.toInt ≤ 2) ∧ TT G z.2 p w L ∧ Fr p [3, 7, 16] M z.2) (fun z => (2 - z.1.toInt).toNat) ?_ _ _ ?_ ?_) ?_
  · intro s27 hys27
    obtain ⟨ls27_1, ts27_2, fs27_2⟩ := hys27
    have is27_1 : TI s27.1 s27.1.toInt := rfl
    refine ok_if (fun c1 => ?_) (fun c1 => ?_)
    · have dc1 := tl_le tn_2 is27_1 c1
      exact ok_some ⟨(ti_bd is27_1 (by omega) (by omega)), ts27_2, fs27_2⟩
    · have dc1 := tl_nle tn_2 is27_1 c1
      refine ok_bnd (Q := fun (z : Int32 × DD) => (0 ≤ z.1.toInt ∧ z.1.toInt ≤ 16) ∧ TT G z.2 p w L ∧ Fr p [3, 7, 16] M z.2) (ok_itr (fun (z : Int32 × DD) => (0 ≤ z.1.toInt ∧ z.1.toInt ≤ 16) ∧ TT G z.2 p w L ∧ Fr p [3, 7, 16] M z.2) (fun z => (16 - z.1.toInt).toNat) ?_ _ _ ?_ ?_) ?_
      · intro s32 hys32
        obtain ⟨ls32_1, ts32_2, fs32_2⟩ := hys32
        have is32_1 : TI s32.1 s32.1.toInt := rfl
        refine ok_if (fun c2 => ?_) (fun c2 => ?_)
        · have dc2 := tl_le tn_16 is32_1 c2
          exact ok_some ⟨(ti_bd is32_1 (by omega) (by omega)), ts32_2, fs32_2⟩
        · have dc2 := tl_nle tn_16 is32_1 c2
          refine ok_dr (tt_pic ts32_2) (by have q := (tt_q0b ts32_2 (tt_p ts32_2)); omega) (gk_0 ts32_2 (tt_p ts32_2)) ?_
          refine ok_ltI (av_mul tn_16 i0 (by omega) (by omega)) (fun x38 ix38 => ?_)
          refine ok_ltI (av_add ix38 is32_1 (by omega) (by omega)) (fun x39 ix39 => ?_)
          refine ok_bnd (s_at ts32_2 is27_1 ix39 (by omega) (by omega) (by omega) (by omega)) ?_
          intro y40 hyy40
          obtain ⟨ty40, gy40, iy40⟩ := hyy40
          have fy40 := fr_tr fs32_2 gy40 rfl
          refine ok_dr (pr_5 ts32_2 (tt_p ts32_2)) (by have q := (tt_q0b ty40 (tt_p ts32_2)); omega) (gk_6 ty40 (tt_p ts32_2)) ?_
          refine ok_chk (nxg (gl_6 ty40 (tt_p ts32_2)) iy40 (by omega) (by omega)) ?_
          refine ok_ltB (ib_6 ty40 (tt_p ts32_2) _) (fun x42 lx42 => ?_)
          have ix42 : TI x42 x42.toInt := rfl
          refine ok_bnd (Q := fun (z : DD) => TT G z p w L ∧ Fr p [3, 7, 16] M z) ?_ ?_
          · refine ok_if (fun c3 => ?_) (fun c3 => ?_)
            · have dc3 := tl_lt ix42 tn_0 c3
              exact ok_some ⟨ty40, fy40⟩
            · have dc3 := tl_nlt ix42 tn_0 c3
              refine ok_bnd (Q := fun (z : DD) => TT G z p w L ∧ Fr p [3, 7, 16] M z) ?_ ?_
              · refine ok_if (fun c4 => ?_) (fun c4 => ?_)
                · have dc4 := tl_le tn_9 ix42 c4
                  exfalso
                  omega
                · have dc4 := tl_nle tn_9 ix42 c4
                  refine ok_ltI (av_mul tn_9 is27_1 (by omega) (by omega)) (fun x48 ix48 => ?_)
                  refine ok_ltI (av_add ix48 ix42 (by omega) (by omega)) (fun x49 ix49 => ?_)
                  refine ok_dr (f_r (b := 126) ty40 rfl (by decide)) (g_lt ty40 (by decide)) (g_k ty40 (by decide) rfl) ?_
                  refine ok_chk (nxg (g_n (i := 126) (n := 18) ty40 (by decide) rfl) ix49 (by omega) (by omega)) ?_
                  refine ok_bnd (Q := fun (z : DD) => TT G z p w L ∧ Fr p [3, 7, 16] M z) ?_ ?_
                  · refine ok_if (fun c5 => ?_) (fun c5 => ?_)
                    · exact ok_some ⟨ty40, fy40⟩
                    · obtain ⟨qc5, hqc5, eqc5⟩ := tt_lst ty40 fy40.1 c5
                      refine ok_ltI (av_mul tn_9 is27_1 (by omega) (by omega)) (fun x53 ix53 => ?_)
                      refine ok_ltI (av_add ix53 ix42 (by omega) (by omega)) (fun x54 ix54 => ?_)
                      refine ok_chk (nxg (g_n (i := 126) (n := 18) ty40 (by decide) rfl) ix54 (by omega) (by omega)) ?_
                      refine ok_drL ty40 hqc5 (e := eqc5) (by rw [ti_inj ix49 ix54]) (by rw [fy40.1]) ?_
                      refine ok_ltA (fun x56 => ?_)
                      refine ok_bnd (Q := fun (z : DD) => TT G z p w L ∧ Fr p [3, 7, 16] M z) ?_ ?_
                      · refine ok_if (fun c6 => ?_) (fun c6 => ?_)
                        · have dc6 := tl_eq (rfl : TI x56 x56.toInt) tn_0 c6
                          refine ok_dr (tt_pic ty40) (by have q := (tt_q0b ty40 (tt_p ty40)); omega) (gk_0 ty40 (tt_p ty40)) ?_
                          refine ok_chk (by decide) ?_
                          refine ok_ltt (fun M60 eM60 => ?_)
                          have tM60 : TT G M60 p w L := by rw [eM60]; exact (tt_w14 ty40)
                          have fM60 : Fr p [3, 7, 16] M M60 := by rw [eM60]; exact (fr_w fy40 (by rw [pc_t (tt_p0 ty40) rfl]; rfl))
                          clear eM60
                          exact ok_some ⟨tM60, fM60⟩
                        · exact ok_some ⟨ty40, fy40⟩
                      · intro y57 hyy57
                        obtain ⟨ty57, fy57⟩ := hyy57
                        exact ok_some ⟨ty57, fy57⟩
                  · intro y51 hyy51
                    obtain ⟨ty51, fy51⟩ := hyy51
                    exact ok_some ⟨ty51, fy51⟩
              · intro y46 hyy46
                obtain ⟨ty46, fy46⟩ := hyy46
                exact ok_some ⟨ty46, fy46⟩
          · intro y43 hyy43
            obtain ⟨ty43, fy43⟩ := hyy43
            refine ok_ltI (av_add is32_1 tn_1 (by omega) (by omega)) (fun x44 ix44 => ?_)
            exact ok_some ⟨⟨(ti_bd ix44 (by omega) (by omega)), ty43, fy43⟩, (mu_up ix44 (by omega) (by omega))⟩
      · exact ⟨(ti_bd tn_0 (by omega) (by omega)), ts27_2, fs27_2⟩
      · exact mu_0 tn_0 (by omega)
      · intro y31 hyy31
        obtain ⟨ly31_1, ty31_2, fy31_2⟩ := hyy31
        have iy31_1 : TI y31.1 y31.1.toInt := rfl
        refine ok_ltI (av_add is27_1 tn_1 (by omega) (by omega)) (fun x34 ix34 => ?_)
        exact ok_some ⟨⟨(ti_bd ix34 (by omega) (by omega)), ty31_2, fy31_2⟩, (mu_up ix34 (by omega) (by omega))⟩
  · exact ⟨(ti_bd tn_0 (by omega) (by omega)), tM25, fM25⟩
  · exact mu_0 tn_0 (by omega)
  · intro y26 hyy26
    obtain ⟨ly26_1, ty26_2, fy26_2⟩ := hyy26
    have iy26_1 : TI y26.1 y26.1.toInt := rfl
    exact ok_some ⟨ty26_2, fy26_2⟩
theorem s_drawMode {G : GG} {M : DD} {p : Nat} {w : Int} {L : List Nat} (t : TT G M p w L) {p0 : Int32} {p1 : Int32} {a1 : Int} (i1 : TI p1 a1) {p2 : Int32} (h0 : 1 ≤ a1) (h1 : a1 ≤ 9) : OK (FX0_drawMode G M 116 p0 p1 p2) (fun y => TT G y.1 p w L ∧ Fr p [12] M y.1 ∧ (0 ≤ y.2.toInt ∧ y.2.toInt ≤ 8)) := by
  unfold FX0_drawMode
  have hw12 : 1 ≤ w ∧ w ≤ 2 := by rcases tt_w t with h | h <;> omega
  have kp1 : p1.toInt = _ := i1
  refine ok_bnd (Q := fun (z : Int32 × Int32 × DD) => True ∧ (0 ≤ z.2.1.toInt ∧ z.2.1.toInt ≤ p1.toInt) ∧ TT G z.2.2 p w L ∧ Fr p [12] M z.2.2) (ok_itr (fun (z : Int32 × Int32 × DD) => True ∧ (0 ≤ z.2.1.toInt ∧ z.2.1.toInt ≤ p1.toInt) ∧ TT G z.2.2 p w L ∧ Fr p [12] M z.2.2) (fun z => (p1.toInt - z.2.1.toInt).toNat) ?_ _ _ ?_ ?_) ?_
  · intro s2 hys2
    obtain ⟨_, ls2_2_1, ts2_2_2, fs2_2_2⟩ := hys2
    have is2_2_1 : TI s2.2.1 s2.2.1.toInt := rfl
    refine ok_if (fun c1 => ?_) (fun c1 => ?_)
    · have dc1 := tl_le i1 is2_2_1 c1
      exact ok_some ⟨trivial, (ti_bd is2_2_1 (by omega) (by omega)), ts2_2_2, fs2_2_2⟩
    · have dc1 := tl_nle i1 is2_2_1 c1
      refine ok_bnd (s_mayBe ts2_2_2) ?_
      intro y18 hyy18
      obtain ⟨ty18, gy18, ly18⟩ := hyy18
      have fy18 := fr_tr fs2_2_2 gy18 rfl
      have iy18 : TI y18.2 y18.2.toInt := rfl
      refine ok_bnd (Q := fun (z : Int32) => (0 ≤ z.toInt ∧ z.toInt ≤ 1)) ?_ ?_
      · refine ok_if (fun c2 => ?_) (fun c2 => ?_)
        · have dc2 := tl_eq iy18 tn_0 c2
          exact ok_some (ti_bd tn_0 (by omega) (by omega))
        · exact ok_some (ti_bd tn_1 (by omega) (by omega))
      · intro y19 hyy19
        have ly19 := hyy19
        have iy19 : TI y19 y19.toInt := rfl
        refine ok_ltA (fun x20 => ?_)
        refine ok_ltI (av_add is2_2_1 tn_1 (by omega) (by omega)) (fun x21 ix21 => ?_)
        exact ok_some ⟨⟨trivial, (ti_bd ix21 (by omega) (by omega)), ty18, fy18⟩, (mu_up ix21 (by omega) (by omega))⟩
  · exact ⟨trivial, (ti_bd tn_0 (by omega) (by omega)), t, (fr_0 p [12] M)⟩
  · exact mu_0 tn_0 (by omega)
  · intro y1 hyy1
    obtain ⟨_, ly1_2_1, ty1_2_2, fy1_2_2⟩ := hyy1
    have iy1_2_1 : TI y1.2.1 y1.2.1.toInt := rfl
    refine ok_bnd (s_draw ty1_2_2 (rfl : TI y1.1 y1.1.toInt)) ?_
    intro y4 hyy4
    obtain ⟨ty4, gy4, ly4⟩ := hyy4
    have fy4 := fr_tr fy1_2_2 gy4 rfl
    have iy4 : TI y4.2 y4.2.toInt := rfl
    have kp1 : p1.toInt = _ := i1
    refine ok_bnd (Q := fun (z : ( Int32 × Int32 × DD ) ⊕ ( DD × Int32 )) => match z with | .inl z => True ∧ (0 ≤ z.2.1.toInt ∧ z.2.1.toInt ≤ p1.toInt) ∧ TT G z.2.2 p w L ∧ Fr p [12] M z.2.2 | .inr r => TT G r.1 p w L ∧ Fr p [12] M r.1 ∧ (0 ≤ r.2.toInt ∧ r.2.toInt ≤ 8)) (ok_itr (fun (z : Int32 × Int32 × DD) => True ∧ (0 ≤ z.2.1.toInt ∧ z.2.1.toInt ≤ p1.toInt) ∧ TT G z.2.2 p w L ∧ Fr p [12] M z.2.2) (fun z => (p1.toInt - z.2.1.toInt).toNat) ?_ _ _ ?_ ?_) ?_
    · intro s6 hys6
      obtain ⟨_, ls6_2_1, ts6_2_2, fs6_2_2⟩ := hys6
      have is6_2_1 : TI s6.2.1 s6.2.1.toInt := rfl
      refine ok_if (fun c3 => ?_) (fun c3 => ?_)
      · have dc3 := tl_le i1 is6_2_1 c3
        exact ok_some ⟨trivial, (ti_bd is6_2_1 (by omega) (by omega)), ts6_2_2, fs6_2_2⟩
      · have dc3 := tl_nle i1 is6_2_1 c3
        refine ok_bnd (s_mayBe ts6_2_2) ?_
        intro y10 hyy10
        obtain ⟨ty10, gy10, ly10⟩ := hyy10
        have fy10 := fr_tr fs6_2_2 gy10 rfl
        have iy10 : TI y10.2 y10.2.toInt := rfl
        refine ok_bnd (Q := fun (z : Int32) => (0 ≤ z.toInt ∧ z.toInt ≤ 1)) ?_ ?_
        · refine ok_if (fun c4 => ?_) (fun c4 => ?_)
          · have dc4 := tl_eq iy10 tn_0 c4
            exact ok_some (ti_bd tn_0 (by omega) (by omega))
          · exact ok_some (ti_bd tn_1 (by omega) (by omega))
        · intro y11 hyy11
          have ly11 := hyy11
          have iy11 : TI y11 y11.toInt := rfl
          refine ok_ltA (fun x12 => ?_)
          refine ok_if (fun c5 => ?_) (fun c5 => ?_)
          · have dc5 := tl_le tn_0 (rfl : TI x12 x12.toInt) c5
            refine ok_ltI (av_add is6_2_1 tn_1 (by omega) (by omega)) (fun x14 ix14 => ?_)
            exact ok_some ⟨⟨trivial, (ti_bd ix14 (by omega) (by omega)), ty10, fy10⟩, (mu_up ix14 (by omega) (by omega))⟩
          · have dc5 := tl_nle tn_0 (rfl : TI x12 x12.toInt) c5
            exact ok_some ⟨ty10, fy10, (ti_bd is6_2_1 (by omega) (by omega))⟩
    · exact ⟨trivial, (ti_bd tn_0 (by omega) (by omega)), ty4, fy4⟩
    · exact mu_0 tn_0 (by omega)
    · intro y5 hyy5
      cases y5 with
      | inl z5k =>
        have hyz5k := hyy5
        show OK _ _
        obtain ⟨_, lz5k_2_1, tz5k_2_2, fz5k_2_2⟩ := hyz5k
        have iz5k_2_1 : TI z5k.2.1 z5k.2.1.toInt := rfl
        exact ok_some ⟨tz5k_2_2, fz5k_2_2, (ti_bd tn_0 (by omega) (by omega))⟩
      | inr r9 => exact ok_some hyy5
