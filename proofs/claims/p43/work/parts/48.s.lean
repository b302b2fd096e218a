/-! safety of the coder's functions, printed out of their trees -/
theorem s_fillWindow {G : GG} {M : DD} {p : Nat} {w : Int} {L : List Nat} (t : TT G M p w L) {p0 : Option Nat} {q0 : Nat} (e0 : p0 = some q0) (hq0 : q0 ∈ L) {p1 : Int32} {a1 : Int} (i1 : TI p1 a1) {p2 : Int32} {a2 : Int} (i2 : TI p2 a2) {p3 : Int32} {a3 : Int} (i3 : TI p3 a3) (h0 : -1000000000 ≤ a1) (h1 : a1 ≤ 1000000000) (h2 : -1000000000 ≤ a2) (h3 : a2 ≤ 1000000000) (h4 : 0 ≤ a3) (h5 : a3 ≤ 21) : OK (FX6_fillWindow G M 138 p0 p1 p2 p3) (fun y => TT G y p w L ∧ Fr p [1] M y) := by
  unfold FX6_fillWindow
  subst e0
  have hw12 : 1 ≤ w ∧ w ≤ 2 := by rcases tt_w t with h | h <;> omega
  rcases tt_w t with rfl | rfl
  · refine ok_dr rfl (by have q := (tt_q0b t hq0); omega) (gk_0 t hq0) ?_
    refine ok_dr (pr_4 t hq0) (by have q := (tt_q0b t hq0); omega) (gk_2 t hq0) ?_
    refine ok_chk (nxg (gl_2 t hq0) tn_0 (by omega) (by omega)) ?_
    refine ok_ltI (tw_q t hq0) (fun x3 ix3 => ?_)
    refine ok_ltI (av_mul tn_16 ix3 (by omega) (by omega)) (fun x4 ix4 => ?_)
    refine ok_ltI (th_q t hq0) (fun x5 ix5 => ?_)
    refine ok_ltI (av_mul tn_16 ix5 (by omega) (by omega)) (fun x6 ix6 => ?_)
    have kp3 : p3.toInt = _ := i3
    refine ok_bnd (Q := fun (z : Int32 × DD) => (0 ≤ z.1.toInt ∧ z.1.toInt ≤ p3.toInt) ∧ TT G z.2 p 1 L ∧ Fr p [1] M z.2) (ok_itr (fun (z : Int32 × DD) => (0 ≤ z.1.toInt ∧ z.1.toInt ≤ p3.toInt) ∧ TT G z.2 p 1 L ∧ Fr p [1] M z.2) (fun z => (p3.toInt - z.1.toInt).toNat) ?_ _ _ ?_ ?_) ?_
    · intro s8 hys8
      obtain ⟨ls8_1, ts8_2, fs8_2⟩ := hys8
      have is8_1 : TI s8.1 s8.1.toInt := rfl
      refine ok_if (fun c1 => ?_) (fun c1 => ?_)
      · have dc1 := tl_le i3 is8_1 c1
        exact ok_some ⟨(ti_bd is8_1 (by omega) (by omega)), ts8_2, fs8_2⟩
      · have dc1 := tl_nle i3 is8_1 c1
        refine ok_ltI (av_add i2 is8_1 (by omega) (by omega)) (fun x12 ix12 => ?_)
        refine ok_bnd (Q := fun (z : Int32) => (0 ≤ z.toInt ∧ z.toInt ≤ 31)) ?_ ?_
        · refine ok_if (fun c2 => ?_) (fun c2 => ?_)
          · have dc2 := tl_le tn_0 ix12 c2
            refine ok_bnd (Q := fun (z : Int32) => (0 ≤ z.toInt ∧ z.toInt ≤ 31)) ?_ ?_
            · refine ok_if (fun c3 => ?_) (fun c3 => ?_)
              · have dc3 := tl_lt ix12 ix6 c3
                exact ok_some (ti_bd ix12 (by omega) (by omega))
              · have dc3 := tl_nlt ix12 ix6 c3
                refine ok_ltI (av_sub ix6 tn_1 (by omega) (by omega)) (fun x38 ix38 => ?_)
                exact ok_some (ti_bd ix38 (by omega) (by omega))
            · intro y36 hyy36
              have ly36 := hyy36
              have iy36 : TI y36 y36.toInt := rfl
              exact ok_some (ti_bd iy36 (by omega) (by omega))
          · have dc2 := tl_nle tn_0 ix12 c2
            exact ok_some (ti_bd tn_0 (by omega) (by omega))
        · intro y13 hyy13
          have ly13 := hyy13
          have iy13 : TI y13 y13.toInt := rfl
          refine ok_ltI (av_mul iy13 ix4 (by omega) (by omega)) (fun x14 ix14 => ?_)
          have kp3 : p3.toInt = _ := i3
          refine ok_bnd (Q := fun (z : Int32 × DD) => (0 ≤ z.1.toInt ∧ z.1.toInt ≤ p3.toInt) ∧ TT G z.2 p 1 L ∧ Fr p [1] M z.2) (ok_itr (fun (z : Int32 × DD) => (0 ≤ z.1.toInt ∧ z.1.toInt ≤ p3.toInt) ∧ TT G z.2 p 1 L ∧ Fr p [1] M z.2) (fun z => (p3.toInt - z.1.toInt).toNat) ?_ _ _ ?_ ?_) ?_
          · intro s16 hys16
            obtain ⟨ls16_1, ts16_2, fs16_2⟩ := hys16
            have is16_1 : TI s16.1 s16.1.toInt := rfl
            refine ok_if (fun c4 => ?_) (fun c4 => ?_)
            · have dc4 := tl_le i3 is16_1 c4
              exact ok_some ⟨(ti_bd is16_1 (by omega) (by omega)), ts16_2, fs16_2⟩
            · have dc4 := tl_nle i3 is16_1 c4
              refine ok_ltI (av_add i1 is16_1 (by omega) (by omega)) (fun x21 ix21 => ?_)
              refine ok_ltI (av_mul is8_1 tn_21 (by omega) (by omega)) (fun x22 ix22 => ?_)
              refine ok_ltI (av_add ix22 is16_1 (by omega) (by omega)) (fun x23 ix23 => ?_)
              refine ok_bnd (Q := fun (z : Int32) => (0 ≤ z.toInt ∧ z.toInt ≤ 15)) ?_ ?_
              · refine ok_if (fun c5 => ?_) (fun c5 => ?_)
                · have dc5 := tl_le tn_0 ix21 c5
                  refine ok_bnd (Q := fun (z : Int32) => (0 ≤ z.toInt ∧ z.toInt ≤ 15)) ?_ ?_
                  · refine ok_if (fun c6 => ?_) (fun c6 => ?_)
                    · have dc6 := tl_lt ix21 ix4 c6
                      exact ok_some (ti_bd ix21 (by omega) (by omega))
                    · have dc6 := tl_nlt ix21 ix4 c6
                      refine ok_ltI (av_sub ix4 tn_1 (by omega) (by omega)) (fun x34 ix34 => ?_)
                      exact ok_some (ti_bd ix34 (by omega) (by omega))
                  · intro y32 hyy32
                    have ly32 := hyy32
                    have iy32 : TI y32 y32.toInt := rfl
                    exact ok_some (ti_bd iy32 (by omega) (by omega))
                · have dc5 := tl_nle tn_0 ix21 c5
                  exact ok_some (ti_bd tn_0 (by omega) (by omega))
              · intro y24 hyy24
                have ly24 := hyy24
                have iy24 : TI y24 y24.toInt := rfl
                refine ok_ltI (av_add ix14 iy24 (by omega) (by omega)) (fun x25 ix25 => ?_)
                refine ok_dp0 t hq0 ?_
                refine ok_chk (nxi (gl_9 t hq0) ix25 (by omega) (by omega)) ?_
                refine ok_ltA (fun x27 => ?_)
                refine ok_dr (f_r (b := 142) ts16_2 rfl (by decide)) (g_lt ts16_2 (by decide)) (g_k ts16_2 (by decide) rfl) ?_
                refine ok_chk (nxg (g_n (i := 142) (n := 441) ts16_2 (by decide) rfl) ix23 (by omega) (by omega)) ?_
                refine ok_ltt (fun M29 eM29 => ?_)
                have tM29 : TT G M29 p 1 L := by rw [eM29]; exact (tt_w0 ts16_2 rfl)
                have fM29 : Fr p [1] M M29 := by rw [eM29]; exact (fr_w fs16_2 rfl)
                clear eM29
                refine ok_ltI (av_add is16_1 tn_1 (by omega) (by omega)) (fun x30 ix30 => ?_)
                exact ok_some ⟨⟨(ti_bd ix30 (by omega) (by omega)), tM29, fM29⟩, (mu_up ix30 (by omega) (by omega))⟩
          · exact ⟨(ti_bd tn_0 (by omega) (by omega)), ts8_2, fs8_2⟩
          · exact mu_0 tn_0 (by omega)
          · intro y15 hyy15
            obtain ⟨ly15_1, ty15_2, fy15_2⟩ := hyy15
            have iy15_1 : TI y15.1 y15.1.toInt := rfl
            refine ok_ltI (av_add is8_1 tn_1 (by omega) (by omega)) (fun x18 ix18 => ?_)
            exact ok_some ⟨⟨(ti_bd ix18 (by omega) (by omega)), ty15_2, fy15_2⟩, (mu_up ix18 (by omega) (by omega))⟩
    · exact ⟨(ti_bd tn_0 (by omega) (by omega)), t, (fr_0 p [1] M)⟩
    · exact mu_0 tn_0 (by omega)
    · intro y7 hyy7
      obtain ⟨ly7_1, ty7_2, fy7_2⟩ := hyy7
      have iy7_1 : TI y7.1 y7.1.toInt := rfl
      exact ok_some ⟨ty7_2, fy7_2⟩
  · refine ok_dr rfl (by have q := (tt_q0b t hq0); omega) (gk_0 t hq0) ?_
    refine ok_dr (pr_4 t hq0) (by have q := (tt_q0b t hq0); omega) (gk_2 t hq0) ?_
    refine ok_chk (nxg (gl_2 t hq0) tn_0 (by omega) (by omega)) ?_
    refine ok_ltI (tw_q t hq0) (fun x3 ix3 => ?_)
    refine ok_ltI (av_mul tn_16 ix3 (by omega) (by omega)) (fun x4 ix4 => ?_)
    refine ok_ltI (th_q t hq0) (fun x5 ix5 => ?_)
    refine ok_ltI (av_mul tn_16 ix5 (by omega) (by omega)) (fun x6 ix6 => ?_)
    have kp3 : p3.toInt = _ := i3
    refine ok_bnd (Q := fun (z : Int32 × DD) => (0 ≤ z.1.toInt ∧ z.1.toInt ≤ p3.toInt) ∧ TT G z.2 p 2 L ∧ Fr p [1] M z.2) (ok_itr (fun (z : Int32 × DD) => (0 ≤ z.1.toInt ∧ z.1.toInt ≤ p3.toInt) ∧ TT G z.2 p 2 L ∧ Fr p [1] M z.2) (fun z => (p3.toInt - z.1.toInt).toNat) ?_ _ _ ?_ ?_) ?_
    · intro s8 hys8
      obtain ⟨ls8_1, ts8_2, fs8_2⟩ := hys8
      have is8_1 : TI s8.1 s8.1.toInt := rfl
      refine ok_if (fun c1 => ?_) (fun c1 => ?_)
      · have dc1 := tl_le i3 is8_1 c1
        exact ok_some ⟨(ti_bd is8_1 (by omega) (by omega)), ts8_2, fs8_2⟩
      · have dc1 := tl_nle i3 is8_1 c1
        refine ok_ltI (av_add i2 is8_1 (by omega) (by omega)) (fun x12 ix12 => ?_)
        refine ok_bnd (Q := fun (z : Int32) => (0 ≤ z.toInt ∧ z.toInt ≤ 31)) ?_ ?_
        · refine ok_if (fun c2 => ?_) (fun c2 => ?_)
          · have dc2 := tl_le tn_0 ix12 c2
            refine ok_bnd (Q := fun (z : Int32) => (0 ≤ z.toInt ∧ z.toInt ≤ 31)) ?_ ?_
            · refine ok_if (fun c3 => ?_) (fun c3 => ?_)
              · have dc3 := tl_lt ix12 ix6 c3
                exact ok_some (ti_bd ix12 (by omega) (by omega))
              · have dc3 := tl_nlt ix12 ix6 c3
                refine ok_ltI (av_sub ix6 tn_1 (by omega) (by omega)) (fun x38 ix38 => ?_)
                exact ok_some (ti_bd ix38 (by omega) (by omega))
            · intro y36 hyy36
              have ly36 := hyy36
              have iy36 : TI y36 y36.toInt := rfl
              exact ok_some (ti_bd iy36 (by omega) (by omega))
          · have dc2 := tl_nle tn_0 ix12 c2
            exact ok_some (ti_bd tn_0 (by omega) (by omega))
        · intro y13 hyy13
          have ly13 := hyy13
          have iy13 : TI y13 y13.toInt := rfl
          refine ok_ltI (av_mul iy13 ix4 (by omega) (by omega)) (fun x14 ix14 => ?_)
          have kp3 : p3.toInt = _ := i3
          refine ok_bnd (Q := fun (z : Int32 × DD) => (0 ≤ z.1.toInt ∧ z.1.toInt ≤ p3.toInt) ∧ TT G z.2 p 2 L ∧ Fr p [1] M z.2) (ok_itr (fun (z : Int32 × DD) => (0 ≤ z.1.toInt ∧ z.1.toInt ≤ p3.toInt) ∧ TT G z.2 p 2 L ∧ Fr p [1] M z.2) (fun z => (p3.toInt - z.1.toInt).toNat) ?_ _ _ ?_ ?_) ?_
          · intro s16 hys16
            obtain ⟨ls16_1, ts16_2, fs16_2⟩ := hys16
            have is16_1 : TI s16.1 s16.1.toInt := rfl
            refine ok_if (fun c4 => ?_) (fun c4 => ?_)
            · have dc4 := tl_le i3 is16_1 c4
              exact ok_some ⟨(ti_bd is16_1 (by omega) (by omega)), ts16_2, fs16_2⟩
            · have dc4 := tl_nle i3 is16_1 c4
              refine ok_ltI (av_add i1 is16_1 (by omega) (by omega)) (fun x21 ix21 => ?_)
              refine ok_ltI (av_mul is8_1 tn_21 (by omega) (by omega)) (fun x22 ix22 => ?_)
              refine ok_ltI (av_add ix22 is16_1 (by omega) (by omega)) (fun x23 ix23 => ?_)
              refine ok_bnd (Q := fun (z : Int32) => (0 ≤ z.toInt ∧ z.toInt ≤ 31)) ?_ ?_
              · refine ok_if (fun c5 => ?_) (fun c5 => ?_)
                · have dc5 := tl_le tn_0 ix21 c5
                  refine ok_bnd (Q := fun (z : Int32) => (0 ≤ z.toInt ∧ z.toInt ≤ 31)) ?_ ?_
                  · refine ok_if (fun c6 => ?_) (fun c6 => ?_)
                    · have dc6 := tl_lt ix21 ix4 c6
                      exact ok_some (ti_bd ix21 (by omega) (by omega))
                    · have dc6 := tl_nlt ix21 ix4 c6
                      refine ok_ltI (av_sub ix4 tn_1 (by omega) (by omega)) (fun x34 ix34 => ?_)
                      exact ok_some (ti_bd ix34 (by omega) (by omega))
                  · intro y32 hyy32
                    have ly32 := hyy32
                    have iy32 : TI y32 y32.toInt := rfl
                    exact ok_some (ti_bd iy32 (by omega) (by omega))
                · have dc5 := tl_nle tn_0 ix21 c5
                  exact ok_some (ti_bd tn_0 (by omega) (by omega))
              · intro y24 hyy24
                have ly24 := hyy24
                have iy24 : TI y24 y24.toInt := rfl
                refine ok_ltI (av_add ix14 iy24 (by omega) (by omega)) (fun x25 ix25 => ?_)
                refine ok_dp0 t hq0 ?_
                refine ok_chk (nxi (gl_9 t hq0) ix25 (by omega) (by omega)) ?_
                refine ok_ltA (fun x27 => ?_)
                refine ok_dr (f_r (b := 142) ts16_2 rfl (by decide)) (g_lt ts16_2 (by decide)) (g_k ts16_2 (by decide) rfl) ?_
                refine ok_chk (nxg (g_n (i := 142) (n := 441) ts16_2 (by decide) rfl) ix23 (by omega) (by omega)) ?_
                refine ok_ltt (fun M29 eM29 => ?_)
                have tM29 : TT G M29 p 2 L := by rw [eM29]; exact (tt_w0 ts16_2 rfl)
                have fM29 : Fr p [1] M M29 := by rw [eM29]; exact (fr_w fs16_2 rfl)
                clear eM29
                refine ok_ltI (av_add is16_1 tn_1 (by omega) (by omega)) (fun x30 ix30 => ?_)
                exact ok_some ⟨⟨(ti_bd ix30 (by omega) (by omega)), tM29, fM29⟩, (mu_up ix30 (by omega) (by omega))⟩
          · exact ⟨(ti_bd tn_0 (by omega) (by omega)), ts8_2, fs8_2⟩
          · exact mu_0 tn_0 (by omega)
          · intro y15 hyy15
            obtain ⟨ly15_1, ty15_2, fy15_2⟩ := hyy15
            have iy15_1 : TI y15.1 y15.1.toInt := rfl
            refine ok_ltI (av_add is8_1 tn_1 (by omega) (by omega)) (fun x18 ix18 => ?_)
            exact ok_some ⟨⟨(ti_bd ix18 (by omega) (by omega)), ty15_2, fy15_2⟩, (mu_up ix18 (by omega) (by omega))⟩
    · exact ⟨(ti_bd tn_0 (by omega) (by omega)), t, (fr_0 p [1] M)⟩
    · exact mu_0 tn_0 (by omega)
    · intro y7 hyy7
      obtain ⟨ly7_1, ty7_2, fy7_2⟩ := hyy7
      have iy7_1 : TI y7.1 y7.1.toInt := rfl
      exact ok_some ⟨ty7_2, fy7_2⟩
theorem s_tapRows {G : GG} {M : DD} {p : Nat} {w : Int} {L : List Nat} (t : TT G M p w L) {p0 : Int32} {a0 : Int} (i0 : TI p0 a0) {p1 : Int32} {a1 : Int} (i1 : TI p1 a1) {p2 : Option Nat} {c2 : Nat} (e2 : p2 = some c2) (hc2 : (c2 == 140 || c2 == 141) = true) {p3 : Int32} {a3 : Int} (i3 : TI p3 a3) {p4 : Int32} (h0 : a0 = 4 ∨ a0 = 8 ∨ a0 = 16) (h1 : 0 ≤ a1) (h2 : a1 ≤ 3) (h3 : 0 ≤ a3) (h4 : a3 + 16 * (a0 - 1) + a0 ≤ 384) : OK (FX6_tapRows G M 138 p0 p1 p2 p3 p4) (fun y => TT G y p w L ∧ Fr p [1] M y) := by
  unfold FX6_tapRows
  subst e2
  have hw12 : 1 ≤ w ∧ w ≤ 2 := by rcases tt_w t with h | h <;> omega
  rcases h0 with rfl | rfl | rfl
  · refine ok_bnd (Q := fun (z : Int32 × DD) => (0 ≤ z.1.toInt ∧ z.1.toInt ≤ (4 * 4)) ∧ TT G z.2 p w L ∧ Fr p [1] M z.2) (ok_itr (fun (z : Int32 × DD) => (0 ≤ z.1.toInt ∧ z.1.toInt ≤ (4 * 4)) ∧ TT G z.2 p w L ∧ Fr p [1] M z.2) (fun z => ((4 * 4) - z.1.toInt).toNat) ?_ _ _ ?_ ?_) ?_
    · intro s2 hys2
      obtain ⟨ls2_1, ts2_2, fs2_2⟩ := hys2
      have is2_1 : TI s2.1 s2.1.toInt := rfl
      refine ok_ltI (av_mul i0 i0 (by omega) (by omega)) (fun x5 ix5 => ?_)
      refine ok_if (fun c1 => ?_) (fun c1 => ?_)
      · have dc1 := tl_le ix5 is2_1 c1
        exact ok_some ⟨(ti_bd is2_1 (by omega) (by omega)), ts2_2, fs2_2⟩
      · have dc1 := tl_nle ix5 is2_1 c1
        refine ok_chk (nz i0 (by omega)) ?_
        refine ok_ltI (av_div is2_1 i0 (by omega) (by omega)) (fun x7 ix7 => ?_)
        refine ok_ltI (av_add ix7 i1 (by omega) (by omega)) (fun x8 ix8 => ?_)
        refine ok_ltI (av_mul ix8 tn_21 (by omega) (by omega)) (fun x9 ix9 => ?_)
        refine ok_chk (nz i0 (by omega)) ?_
        refine ok_ltI (av_mod is2_1 i0 (by omega) (by omega)) (fun x10 ix10 => ?_)
        refine ok_ltI (av_add ix9 ix10 (by omega) (by omega)) (fun x11 ix11 => ?_)
        refine ok_dr (f_r (b := 142) t rfl (by decide)) (g_lt ts2_2 (by decide)) (g_k ts2_2 (by decide) rfl) ?_
        refine ok_chk (nxg (g_n (i := 142) (n := 441) ts2_2 (by decide) rfl) ix11 (by omega) (by omega)) ?_
        refine ok_ltA (fun x13 => ?_)
        refine ok_ltI (av_add ix11 tn_1 (by omega) (by omega)) (fun x14 ix14 => ?_)
        refine ok_chk (nxg (g_n (i := 142) (n := 441) ts2_2 (by decide) rfl) ix14 (by omega) (by omega)) ?_
        refine ok_ltA (fun x15 => ?_)
        refine ok_ltA (fun x16 => ?_)
        refine ok_ltA (fun x17 => ?_)
        refine ok_ltI (av_add ix11 tn_2 (by omega) (by omega)) (fun x18 ix18 => ?_)
        refine ok_chk (nxg (g_n (i := 142) (n := 441) ts2_2 (by decide) rfl) ix18 (by omega) (by omega)) ?_
        refine ok_ltA (fun x19 => ?_)
        refine ok_ltA (fun x20 => ?_)
        refine ok_ltA (fun x21 => ?_)
        refine ok_ltI (av_add ix11 tn_3 (by omega) (by omega)) (fun x22 ix22 => ?_)
        refine ok_chk (nxg (g_n (i := 142) (n := 441) ts2_2 (by decide) rfl) ix22 (by omega) (by omega)) ?_
        refine ok_ltA (fun x23 => ?_)
        refine ok_ltA (fun x24 => ?_)
        refine ok_ltA (fun x25 => ?_)
        refine ok_ltI (av_add ix11 tn_4 (by omega) (by omega)) (fun x26 ix26 => ?_)
        refine ok_chk (nxg (g_n (i := 142) (n := 441) ts2_2 (by decide) rfl) ix26 (by omega) (by omega)) ?_
        refine ok_ltA (fun x27 => ?_)
        refine ok_ltA (fun x28 => ?_)
        refine ok_ltA (fun x29 => ?_)
        refine ok_ltI (av_add ix11 tn_5 (by omega) (by omega)) (fun x30 ix30 => ?_)
        refine ok_chk (nxg (g_n (i := 142) (n := 441) ts2_2 (by decide) rfl) ix30 (by omega) (by omega)) ?_
        refine ok_ltA (fun x31 => ?_)
        refine ok_ltA (fun x32 => ?_)
        refine ok_ltA (fun x33 => ?_)
        refine ok_ltA (fun x34 => ?_)
        refine ok_bnd (Q := fun (z : Int32) => (0 ≤ z.toInt ∧ z.toInt ≤ 255)) ?_ ?_
        · refine ok_if (fun c2 => ?_) (fun c2 => ?_)
          · have dc2 := tl_le tn_0 (rfl : TI x34 x34.toInt) c2
            refine ok_bnd (Q := fun (z : Int32) => (0 ≤ z.toInt ∧ z.toInt ≤ 255)) ?_ ?_
            · refine ok_if (fun c3 => ?_) (fun c3 => ?_)
              · have dc3 := tl_le (rfl : TI x34 x34.toInt) tn_255 c3
                exact ok_some (ti_bd (rfl : TI x34 x34.toInt) (by omega) (by omega))
              · have dc3 := tl_nle (rfl : TI x34 x34.toInt) tn_255 c3
                exact ok_some (ti_bd tn_255 (by omega) (by omega))
            · intro y52 hyy52
              have ly52 := hyy52
              have iy52 : TI y52 y52.toInt := rfl
              exact ok_some (ti_bd iy52 (by omega) (by omega))
          · have dc2 := tl_nle tn_0 (rfl : TI x34 x34.toInt) c2
            exact ok_some (ti_bd tn_0 (by omega) (by omega))
        · intro y35 hyy35
          have ly35 := hyy35
          have iy35 : TI y35 y35.toInt := rfl
          refine ok_chk (nz i0 (by omega)) ?_
          refine ok_ltI (av_div is2_1 i0 (by omega) (by omega)) (fun x36 ix36 => ?_)
          refine ok_ltI (av_mul ix36 tn_16 (by omega) (by omega)) (fun x37 ix37 => ?_)
          refine ok_ltI (av_add i3 ix37 (by omega) (by omega)) (fun x38 ix38 => ?_)
          refine ok_chk (nz i0 (by omega)) ?_
          refine ok_ltI (av_mod is2_1 i0 (by omega) (by omega)) (fun x39 ix39 => ?_)
          refine ok_ltI (av_add ix38 ix39 (by omega) (by omega)) (fun x40 ix40 => ?_)
          refine ok_bnd (Q := fun (z : Int32) => True) ?_ ?_
          · refine ok_if (fun c4 => ?_) (fun c4 => ?_)
            · have dc4 := tl_eq (rfl : TI p4 p4.toInt) tn_0 c4
              exact ok_some trivial
            · refine ok_dr rfl (g_lt ts2_2 (two_lt hc2)) (gk_two ts2_2 hc2) ?_
              refine ok_chk (nxg (gl_two ts2_2 hc2) ix40 (by omega) (by omega)) ?_
              refine ok_ltA (fun x47 => ?_)
              refine ok_ltA (fun x48 => ?_)
              refine ok_ltA (fun x49 => ?_)
              refine ok_ltA (fun x50 => ?_)
              exact ok_some trivial
          · intro y41 hyy41
            have u_y41 := hyy41
            refine ok_dr rfl (g_lt ts2_2 (two_lt hc2)) (gk_two ts2_2 hc2) ?_
            refine ok_chk (nxg (gl_two ts2_2 hc2) ix40 (by omega) (by omega)) ?_
            refine ok_ltt (fun M43 eM43 => ?_)
            have tM43 : TT G M43 p w L := by rw [eM43]; exact (tt_two ts2_2 hc2)
            have fM43 : Fr p [1] M M43 := by rw [eM43]; exact (fr_w fs2_2 (pc_two hc2 rfl))
            clear eM43
            refine ok_ltI (av_add is2_1 tn_1 (by omega) (by omega)) (fun x44 ix44 => ?_)
            exact ok_some ⟨⟨(ti_bd ix44 (by omega) (by omega)), tM43, fM43⟩, (mu_up ix44 (by omega) (by omega))⟩
    · exact ⟨(ti_bd tn_0 (by omega) (by omega)), t, (fr_0 p [1] M)⟩
    · exact mu_0 tn_0 (by omega)
    · intro y1 hyy1
      obtain ⟨ly1_1, ty1_2, fy1_2⟩ := hyy1
      have iy1_1 : TI y1.1 y1.1.toInt := rfl
      exact ok_some ⟨ty1_2, fy1_2⟩
  · refine ok_bnd (Q := fun (z : Int32 × DD) => (0 ≤ z.1.toInt ∧ z.1.toInt ≤ (8 * 8)) ∧ TT G z.2 p w L ∧ Fr p [1] M z.2) (ok_itr (fun (z : Int32 × DD) => (0 ≤ z.1.toInt ∧ z.1.toInt ≤ (8 * 8)) ∧ TT G z.2 p w L ∧ Fr p [1] M z.2) (fun z => ((8 * 8) - z.1.toInt).toNat) ?_ _ _ ?_ ?_) ?_
    · intro s2 hys2
      obtain ⟨ls2_1, ts2_2, fs2_2⟩ := hys2
      have is2_1 : TI s2.1 s2.1.toInt := rfl
      refine ok_ltI (av_mul i0 i0 (by omega) (by omega)) (fun x5 ix5 => ?_)
      refine ok_if (fun c1 => ?_) (fun c1 => ?_)
      · have dc1 := tl_le ix5 is2_1 c1
        exact ok_some ⟨(ti_bd is2_1 (by omega) (by omega)), ts2_2, fs2_2⟩
      · have dc1 := tl_nle ix5 is2_1 c1
        refine ok_chk (nz i0 (by omega)) ?_
        refine ok_ltI (av_div is2_1 i0 (by omega) (by omega)) (fun x7 ix7 => ?_)
        refine ok_ltI (av_add ix7 i1 (by omega) (by omega)) (fun x8 ix8 => ?_)
        refine ok_ltI (av_mul ix8 tn_21 (by omega) (by omega)) (fun x9 ix9 => ?_)
        refine ok_chk (nz i0 (by omega)) ?_
        refine ok_ltI (av_mod is2_1 i0 (by omega) (by omega)) (fun x10 ix10 => ?_)
        refine ok_ltI (av_add ix9 ix10 (by omega) (by omega)) (fun x11 ix11 => ?_)
        refine ok_dr (f_r (b := 142) t rfl (by decide)) (g_lt ts2_2 (by decide)) (g_k ts2_2 (by decide) rfl) ?_
        refine ok_chk (nxg (g_n (i := 142) (n := 441) ts2_2 (by decide) rfl) ix11 (by omega) (by omega)) ?_
        refine ok_ltA (fun x13 => ?_)
        refine ok_ltI (av_add ix11 tn_1 (by omega) (by omega)) (fun x14 ix14 => ?_)
        refine ok_chk (nxg (g_n (i := 142) (n := 441) ts2_2 (by decide) rfl) ix14 (by omega) (by omega)) ?_
        refine ok_ltA (fun x15 => ?_)
        refine ok_ltA (fun x16 => ?_)
        refine ok_ltA (fun x17 => ?_)
        refine ok_ltI (av_add ix11 tn_2 (by omega) (by omega)) (fun x18 ix18 => ?_)
        refine ok_chk (nxg (g_n (i := 142) (n := 441) ts2_2 (by decide) rfl) ix18 (by omega) (by omega)) ?_
        refine ok_ltA (fun x19 => ?_)
        refine ok_ltA (fun x20 => ?_)
        refine ok_ltA (fun x21 => ?_)
        refine ok_ltI (av_add ix11 tn_3 (by omega) (by omega)) (fun x22 ix22 => ?_)
        refine ok_chk (nxg (g_n (i := 142) (n := 441) ts2_2 (by decide) rfl) ix22 (by omega) (by omega)) ?_
        refine ok_ltA (fun x23 => ?_)
        refine ok_ltA (fun x24 => ?_)
        refine ok_ltA (fun x25 => ?_)
        refine ok_ltI (av_add ix11 tn_4 (by omega) (by omega)) (fun x26 ix26 => ?_)
        refine ok_chk (nxg (g_n (i := 142) (n := 441) ts2_2 (by decide) rfl) ix26 (by omega) (by omega)) ?_
        refine ok_ltA (fun x27 => ?_)
        refine ok_ltA (fun x28 => ?_)
        refine ok_ltA (fun x29 => ?_)
        refine ok_ltI (av_add ix11 tn_5 (by omega) (by omega)) (fun x30 ix30 => ?_)
        refine ok_chk (nxg (g_n (i := 142) (n := 441) ts2_2 (by decide) rfl) ix30 (by omega) (by omega)) ?_
        refine ok_ltA (fun x31 => ?_)
        refine ok_ltA (fun x32 => ?_)
        refine ok_ltA (fun x33 => ?_)
        refine ok_ltA (fun x34 => ?_)
        refine ok_bnd (Q := fun (z : Int32) => (0 ≤ z.toInt ∧ z.toInt ≤ 255)) ?_ ?_
        · refine ok_if (fun c2 => ?_) (fun c2 => ?_)
          · have dc2 := tl_le tn_0 (rfl : TI x34 x34.toInt) c2
            refine ok_bnd (Q := fun (z : Int32) => (0 ≤ z.toInt ∧ z.toInt ≤ 255)) ?_ ?_
            · refine ok_if (fun c3 => ?_) (fun c3 => ?_)
              · have dc3 := tl_le (rfl : TI x34 x34.toInt) tn_255 c3
                exact ok_some (ti_bd (rfl : TI x34 x34.toInt) (by omega) (by omega))
              · have dc3 := tl_nle (rfl : TI x34 x34.toInt) tn_255 c3
                exact ok_some (ti_bd tn_255 (by omega) (by omega))
            · intro y52 hyy52
              have ly52 := hyy52
              have iy52 : TI y52 y52.toInt := rfl
              exact ok_some (ti_bd iy52 (by omega) (by omega))
          · have dc2 := tl_nle tn_0 (rfl : TI x34 x34.toInt) c2
            exact ok_some (ti_bd tn_0 (by omega) (by omega))
        · intro y35 hyy35
          have ly35 := hyy35
          have iy35 : TI y35 y35.toInt := rfl
          refine ok_chk (nz i0 (by omega)) ?_
          refine ok_ltI (av_div is2_1 i0 (by omega) (by omega)) (fun x36 ix36 => ?_)
          refine ok_ltI (av_mul ix36 tn_16 (by omega) (by omega)) (fun x37 ix37 => ?_)
          refine ok_ltI (av_add i3 ix37 (by omega) (by omega)) (fun x38 ix38 => ?_)
          refine ok_chk (nz i0 (by omega)) ?_
          refine ok_ltI (av_mod is2_1 i0 (by omega) (by omega)) (fun x39 ix39 => ?_)
          refine ok_ltI (av_add ix38 ix39 (by omega) (by omega)) (fun x40 ix40 => ?_)
          refine ok_bnd (Q := fun (z : Int32) => True) ?_ ?_
          · refine ok_if (fun c4 => ?_) (fun c4 => ?_)
            · have dc4 := tl_eq (rfl : TI p4 p4.toInt) tn_0 c4
              exact ok_some trivial
            · refine ok_dr rfl (g_lt ts2_2 (two_lt hc2)) (gk_two ts2_2 hc2) ?_
              refine ok_chk (nxg (gl_two ts2_2 hc2) ix40 (by omega) (by omega)) ?_
              refine ok_ltA (fun x47 => ?_)
              refine ok_ltA (fun x48 => ?_)
              refine ok_ltA (fun x49 => ?_)
              refine ok_ltA (fun x50 => ?_)
              exact ok_some trivial
          · intro y41 hyy41
            have u_y41 := hyy41
            refine ok_dr rfl (g_lt ts2_2 (two_lt hc2)) (gk_two ts2_2 hc2) ?_
            refine ok_chk (nxg (gl_two ts2_2 hc2) ix40 (by omega) (by omega)) ?_
            refine ok_ltt (fun M43 eM43 => ?_)
            have tM43 : TT G M43 p w L := by rw [eM43]; exact (tt_two ts2_2 hc2)
            have fM43 : Fr p [1] M M43 := by rw [eM43]; exact (fr_w fs2_2 (pc_two hc2 rfl))
            clear eM43
            refine ok_ltI (av_add is2_1 tn_1 (by omega) (by omega)) (fun x44 ix44 => ?_)
            exact ok_some ⟨⟨(ti_bd ix44 (by omega) (by omega)), tM43, fM43⟩, (mu_up ix44 (by omega) (by omega))⟩
    · exact ⟨(ti_bd tn_0 (by omega) (by omega)), t, (fr_0 p [1] M)⟩
    · exact mu_0 tn_0 (by omega)
    · intro y1 hyy1
      obtain ⟨ly1_1, ty1_2, fy1_2⟩ := hyy1
      have iy1_1 : TI y1.1 y1.1.toInt := rfl
      exact ok_some ⟨ty1_2, fy1_2⟩
  · refine ok_bnd (Q := fun (z : Int32 × DD) => (0 ≤ z.1.toInt ∧ z.1.toInt ≤ (16 * 16)) ∧ TT G z.2 p w L ∧ Fr p [1] M z.2) (ok_itr (fun (z : Int32 × DD) => (0 ≤ z.1.toInt ∧ z.1.toInt ≤ (16 * 16)) ∧ TT G z.2 p w L ∧ Fr p [1] M z.2) (fun z => ((16 * 16) - z.1.toInt).toNat) ?_ _ _ ?_ ?_) ?_
    · intro s2 hys2
      obtain ⟨ls2_1, ts2_2, fs2_2⟩ := hys2
      have is2_1 : TI s2.1 s2.1.toInt := rfl
      refine ok_ltI (av_mul i0 i0 (by omega) (by omega)) (fun x5 ix5 => ?_)
      refine ok_if (fun c1 => ?_) (fun c1 => ?_)
      · have dc1 := tl_le ix5 is2_1 c1
        exact ok_some ⟨(ti_bd is2_1 (by omega) (by omega)), ts2_2, fs2_2⟩
      · have dc1 := tl_nle ix5 is2_1 c1
        refine ok_chk (nz i0 (by omega)) ?_
        refine ok_ltI (av_div is2_1 i0 (by omega) (by omega)) (fun x7 ix7 => ?_)
        refine ok_ltI (av_add ix7 i1 (by omega) (by omega)) (fun x8 ix8 => ?_)
        refine ok_ltI (av_mul ix8 tn_21 (by omega) (by omega)) (fun x9 ix9 => ?_)
        refine ok_chk (nz i0 (by omega)) ?_
        refine ok_ltI (av_mod is2_1 i0 (by omega) (by omega)) (fun x10 ix10 => ?_)
        refine ok_ltI (av_add ix9 ix10 (by omega) (by omega)) (fun x11 ix11 => ?_)
        refine ok_dr (f_r (b := 142) t rfl (by decide)) (g_lt ts2_2 (by decide)) (g_k ts2_2 (by decide) rfl) ?_
        refine ok_chk (nxg (g_n (i := 142) (n := 441) ts2_2 (by decide) rfl) ix11 (by omega) (by omega)) ?_
        refine ok_ltA (fun x13 => ?_)
        refine ok_ltI (av_add ix11 tn_1 (by omega) (by omega)) (fun x14 ix14 => ?_)
        refine ok_chk (nxg (g_n (i := 142) (n := 441) ts2_2 (by decide) rfl) ix14 (by omega) (by omega)) ?_
        refine ok_ltA (fun x15 => ?_)
        refine ok_ltA (fun x16 => ?_)
        refine ok_ltA (fun x17 => ?_)
        refine ok_ltI (av_add ix11 tn_2 (by omega) (by omega)) (fun x18 ix18 => ?_)
        refine ok_chk (nxg (g_n (i := 142) (n := 441) ts2_2 (by decide) rfl) ix18 (by omega) (by omega)) ?_
        refine ok_ltA (fun x19 => ?_)
        refine ok_ltA (fun x20 => ?_)
        refine ok_ltA (fun x21 => ?_)
        refine ok_ltI (av_add ix11 tn_3 (by omega) (by omega)) (fun x22 ix22 => ?_)
        refine ok_chk (nxg (g_n (i := 142) (n := 441) ts2_2 (by decide) rfl) ix22 (by omega) (by omega)) ?_
        refine ok_ltA (fun x23 => ?_)
        refine ok_ltA (fun x24 => ?_)
        refine ok_ltA (fun x25 => ?_)
        refine ok_ltI (av_add ix11 tn_4 (by omega) (by omega)) (fun x26 ix26 => ?_)
        refine ok_chk (nxg (g_n (i := 142) (n := 441) ts2_2 (by decide) rfl) ix26 (by omega) (by omega)) ?_
        refine ok_ltA (fun x27 => ?_)
        refine ok_ltA (fun x28 => ?_)
        refine ok_ltA (fun x29 => ?_)
        refine ok_ltI (av_add ix11 tn_5 (by omega) (by omega)) (fun x30 ix30 => ?_)
        refine ok_chk (nxg (g_n (i := 142) (n := 441) ts2_2 (by decide) rfl) ix30 (by omega) (by omega)) ?_
        refine ok_ltA (fun x31 => ?_)
        refine ok_ltA (fun x32 => ?_)
        refine ok_ltA (fun x33 => ?_)
        refine ok_ltA (fun x34 => ?_)
        refine ok_bnd (Q := fun (z : Int32) => (0 ≤ z.toInt ∧ z.toInt ≤ 255)) ?_ ?_
        · refine ok_if (fun c2 => ?_) (fun c2 => ?_)
          · have dc2 := tl_le tn_0 (rfl : TI x34 x34.toInt) c2
            refine ok_bnd (Q := fun (z : Int32) => (0 ≤ z.toInt ∧ z.toInt ≤ 255)) ?_ ?_
            · refine ok_if (fun c3 => ?_) (fun c3 => ?_)
              · have dc3 := tl_le (rfl : TI x34 x34.toInt) tn_255 c3
                exact ok_some (ti_bd (rfl : TI x34 x34.toInt) (by omega) (by omega))
              · have dc3 := tl_nle (rfl : TI x34 x34.toInt) tn_255 c3
                exact ok_some (ti_bd tn_255 (by omega) (by omega))
            · intro y52 hyy52
              have ly52 := hyy52
              have iy52 : TI y52 y52.toInt := rfl
              exact ok_some (ti_bd iy52 (by omega) (by omega))
          · have dc2 := tl_nle tn_0 (rfl : TI x34 x34.toInt) c2
            exact ok_some (ti_bd tn_0 (by omega) (by omega))
        · intro y35 hyy35
          have ly35 := hyy35
          have iy35 : TI y35 y35.toInt := rfl
          refine ok_chk (nz i0 (by omega)) ?_
          refine ok_ltI (av_div is2_1 i0 (by omega) (by omega)) (fun x36 ix36 => ?_)
          refine ok_ltI (av_mul ix36 tn_16 (by omega) (by omega)) (fun x37 ix37 => ?_)
          refine ok_ltI (av_add i3 ix37 (by omega) (by omega)) (fun x38 ix38 => ?_)
          refine ok_chk (nz i0 (by omega)) ?_
          refine ok_ltI (av_mod is2_1 i0 (by omega) (by omega)) (fun x39 ix39 => ?_)
          refine ok_ltI (av_add ix38 ix39 (by omega) (by omega)) (fun x40 ix40 => ?_)
          refine ok_bnd (Q := fun (z : Int32) => True) ?_ ?_
          · refine ok_if (fun c4 => ?_) (fun c4 => ?_)
            · have dc4 := tl_eq (rfl : TI p4 p4.toInt) tn_0 c4
              exact ok_some trivial
            · refine ok_dr rfl (g_lt ts2_2 (two_lt hc2)) (gk_two ts2_2 hc2) ?_
              refine ok_chk (nxg (gl_two ts2_2 hc2) ix40 (by omega) (by omega)) ?_
              refine ok_ltA (fun x47 => ?_)
              refine ok_ltA (fun x48 => ?_)
              refine ok_ltA (fun x49 => ?_)
              refine ok_ltA (fun x50 => ?_)
              exact ok_some trivial
          · intro y41 hyy41
            have u_y41 := hyy41
            refine ok_dr rfl (g_lt ts2_2 (two_lt hc2)) (gk_two ts2_2 hc2) ?_
            refine ok_chk (nxg (gl_two ts2_2 hc2) ix40 (by omega) (by omega)) ?_
            refine ok_ltt (fun M43 eM43 => ?_)
            have tM43 : TT G M43 p w L := by rw [eM43]; exact (tt_two ts2_2 hc2)
            have fM43 : Fr p [1] M M43 := by rw [eM43]; exact (fr_w fs2_2 (pc_two hc2 rfl))
            clear eM43
            refine ok_ltI (av_add is2_1 tn_1 (by omega) (by omega)) (fun x44 ix44 => ?_)
            exact ok_some ⟨⟨(ti_bd ix44 (by omega) (by omega)), tM43, fM43⟩, (mu_up ix44 (by omega) (by omega))⟩
    · exact ⟨(ti_bd tn_0 (by omega) (by omega)), t, (fr_0 p [1] M)⟩
    · exact mu_0 tn_0 (by omega)
    · intro y1 hyy1
      obtain ⟨ly1_1, ty1_2, fy1_2⟩ := hyy1
      have iy1_1 : TI y1.1 y1.1.toInt := rfl
      exact ok_some ⟨ty1_2, fy1_2⟩
theorem s_tapColumns {G : GG} {M : DD} {p : Nat} {w : Int} {L : List Nat} (t : TT G M p w L) {p0 : Int32} {a0 : Int} (i0 : TI p0 a0) {p1 : Int32} {a1 : Int} (i1 : TI p1 a1) {p2 : Option Nat} {c2 : Nat} (e2 : p2 = some c2) (hc2 : (c2 == 140 || c2 == 141) = true) {p3 : Int32} {a3 : Int} (i3 : TI p3 a3) {p4 : Int32} (h0 : a0 = 4 ∨ a0 = 8 ∨ a0 = 16) (h1 : 0 ≤ a1) (h2 : a1 ≤ 3) (h3 : 0 ≤ a3) (h4 : a3 + 16 * (a0 - 1) + a0 ≤ 384) : OK (FX6_tapColumns G M 138 p0 p1 p2 p3 p4) (fun y => TT G y p w L ∧ Fr p [1] M y) := by
  unfold FX6_tapColumns
  subst e2
  have hw12 : 1 ≤ w ∧ w ≤ 2 := by rcases tt_w t with h | h <;> omega
  rcases h0 with rfl | rfl | rfl
  · refine ok_bnd (Q := fun (z : Int32 × DD) => (0 ≤ z.1.toInt ∧ z.1.toInt ≤ (4 * 4)) ∧ TT G z.2 p w L ∧ Fr p [1] M z.2) (ok_itr (fun (z : Int32 × DD) => (0 ≤ z.1.toInt ∧ z.1.toInt ≤ (4 * 4)) ∧ TT G z.2 p w L ∧ Fr p [1] M z.2) (fun z => ((4 * 4) - z.1.toInt).toNat) ?_ _ _ ?_ ?_) ?_
    · intro s2 hys2
      obtain ⟨ls2_1, ts2_2, fs2_2⟩ := hys2
      have is2_1 : TI s2.1 s2.1.toInt := rfl
      refine ok_ltI (av_mul i0 i0 (by omega) (by omega)) (fun x5 ix5 => ?_)
      refine ok_if (fun c1 => ?_) (fun c1 => ?_)
      · have dc1 := tl_le ix5 is2_1 c1
        exact ok_some ⟨(ti_bd is2_1 (by omega) (by omega)), ts2_2, fs2_2⟩
      · have dc1 := tl_nle ix5 is2_1 c1
        refine ok_chk (nz i0 (by omega)) ?_
        refine ok_ltI (av_div is2_1 i0 (by omega) (by omega)) (fun x7 ix7 => ?_)
        refine ok_ltI (av_mul ix7 tn_21 (by omega) (by omega)) (fun x8 ix8 => ?_)
        refine ok_chk (nz i0 (by omega)) ?_
        refine ok_ltI (av_mod is2_1 i0 (by omega) (by omega)) (fun x9 ix9 => ?_)
        refine ok_ltI (av_add ix8 ix9 (by omega) (by omega)) (fun x10 ix10 => ?_)
        refine ok_ltI (av_add ix10 i1 (by omega) (by omega)) (fun x11 ix11 => ?_)
        refine ok_dr (f_r (b := 142) t rfl (by decide)) (g_lt ts2_2 (by decide)) (g_k ts2_2 (by decide) rfl) ?_
        refine ok_chk (nxg (g_n (i := 142) (n := 441) ts2_2 (by decide) rfl) ix11 (by omega) (by omega)) ?_
        refine ok_ltA (fun x13 => ?_)
        refine ok_ltI (av_add ix11 tn_21 (by omega) (by omega)) (fun x14 ix14 => ?_)
        refine ok_chk (nxg (g_n (i := 142) (n := 441) ts2_2 (by decide) rfl) ix14 (by omega) (by omega)) ?_
        refine ok_ltA (fun x15 => ?_)
        refine ok_ltA (fun x16 => ?_)
        refine ok_ltA (fun x17 => ?_)
        refine ok_ltI (av_add ix11 tn_42 (by omega) (by omega)) (fun x18 ix18 => ?_)
        refine ok_chk (nxg (g_n (i := 142) (n := 441) ts2_2 (by decide) rfl) ix18 (by omega) (by omega)) ?_
        refine ok_ltA (fun x19 => ?_)
        refine ok_ltA (fun x20 => ?_)
        refine ok_ltA (fun x21 => ?_)
        refine ok_ltI (av_add ix11 tn_63 (by omega) (by omega)) (fun x22 ix22 => ?_)
        refine ok_chk (nxg (g_n (i := 142) (n := 441) ts2_2 (by decide) rfl) ix22 (by omega) (by omega)) ?_
        refine ok_ltA (fun x23 => ?_)
        refine ok_ltA (fun x24 => ?_)
        refine ok_ltA (fun x25 => ?_)
        refine ok_ltI (av_add ix11 tn_84 (by omega) (by omega)) (fun x26 ix26 => ?_)
        refine ok_chk (nxg (g_n (i := 142) (n := 441) ts2_2 (by decide) rfl) ix26 (by omega) (by omega)) ?_
        refine ok_ltA (fun x27 => ?_)
        refine ok_ltA (fun x28 => ?_)
        refine ok_ltA (fun x29 => ?_)
        refine ok_ltI (av_add ix11 tn_105 (by omega) (by omega)) (fun x30 ix30 => ?_)
        refine ok_chk (nxg (g_n (i := 142) (n := 441) ts2_2 (by decide) rfl) ix30 (by omega) (by omega)) ?_
        refine ok_ltA (fun x31 => ?_)
        refine ok_ltA (fun x32 => ?_)
        refine ok_ltA (fun x33 => ?_)
        refine ok_ltA (fun x34 => ?_)
        refine ok_bnd (Q := fun (z : Int32) => (0 ≤ z.toInt ∧ z.toInt ≤ 255)) ?_ ?_
        · refine ok_if (fun c2 => ?_) (fun c2 => ?_)
          · have dc2 := tl_le tn_0 (rfl : TI x34 x34.toInt) c2
            refine ok_bnd (Q := fun (z : Int32) => (0 ≤ z.toInt ∧ z.toInt ≤ 255)) ?_ ?_
            · refine ok_if (fun c3 => ?_) (fun c3 => ?_)
              · have dc3 := tl_le (rfl : TI x34 x34.toInt) tn_255 c3
                exact ok_some (ti_bd (rfl : TI x34 x34.toInt) (by omega) (by omega))
              · have dc3 := tl_nle (rfl : TI x34 x34.toInt) tn_255 c3
                exact ok_some (ti_bd tn_255 (by omega) (by omega))
            · intro y52 hyy52
              have ly52 := hyy52
              have iy52 : TI y52 y52.toInt := rfl
              exact ok_some (ti_bd iy52 (by omega) (by omega))
          · have dc2 := tl_nle tn_0 (rfl : TI x34 x34.toInt) c2
            exact ok_some (ti_bd tn_0 (by omega) (by omega))
        · intro y35 hyy35
          have ly35 := hyy35
          have iy35 : TI y35 y35.toInt := rfl
          refine ok_chk (nz i0 (by omega)) ?_
          refine ok_ltI (av_div is2_1 i0 (by omega) (by omega)) (fun x36 ix36 => ?_)
          refine ok_ltI (av_mul ix36 tn_16 (by omega) (by omega)) (fun x37 ix37 => ?_)
          refine ok_ltI (av_add i3 ix37 (by omega) (by omega)) (fun x38 ix38 => ?_)
          refine ok_chk (nz i0 (by omega)) ?_
          refine ok_ltI (av_mod is2_1 i0 (by omega) (by omega)) (fun x39 ix39 => ?_)
          refine ok_ltI (av_add ix38 ix39 (by omega) (by omega)) (fun x40 ix40 => ?_)
          refine ok_bnd (Q := fun (z : Int32) => True) ?_ ?_
          · refine ok_if (fun c4 => ?_) (fun c4 => ?_)
            · have dc4 := tl_eq (rfl : TI p4 p4.toInt) tn_0 c4
              exact ok_some trivial
            · refine ok_dr rfl (g_lt ts2_2 (two_lt hc2)) (gk_two ts2_2 hc2) ?_
              refine ok_chk (nxg (gl_two ts2_2 hc2) ix40 (by omega) (by omega)) ?_
              refine ok_ltA (fun x47 => ?_)
              refine ok_ltA (fun x48 => ?_)
              refine ok_ltA (fun x49 => ?_)
              refine ok_ltA (fun x50 => ?_)
              exact ok_some trivial
          · intro y41 hyy41
            have u_y41 := hyy41
            refine ok_dr rfl (g_lt ts2_2 (two_lt hc2)) (gk_two ts2_2 hc2) ?_
            refine ok_chk (nxg (gl_two ts2_2 hc2) ix40 (by omega) (by omega)) ?_
            refine ok_ltt (fun M43 eM43 => ?_)
            have tM43 : TT G M43 p w L := by rw [eM43]; exact (tt_two ts2_2 hc2)
            have fM43 : Fr p [1] M M43 := by rw [eM43]; exact (fr_w fs2_2 (pc_two hc2 rfl))
            clear eM43
            refine ok_ltI (av_add is2_1 tn_1 (by omega) (by omega)) (fun x44 ix44 => ?_)
            exact ok_some ⟨⟨(ti_bd ix44 (by omega) (by omega)), tM43, fM43⟩, (mu_up ix44 (by omega) (by omega))⟩
    · exact ⟨(ti_bd tn_0 (by omega) (by omega)), t, (fr_0 p [1] M)⟩
    · exact mu_0 tn_0 (by omega)
    · intro y1 hyy1
      obtain ⟨ly1_1, ty1_2, fy1_2⟩ := hyy1
      have iy1_1 : TI y1.1 y1.1.toInt := rfl
      exact ok_some ⟨ty1_2, fy1_2⟩
  · refine ok_bnd (Q := fun (z : Int32 × DD) => (0 ≤ z.1.toInt ∧ z.1.toInt ≤ (8 * 8)) ∧ TT G z.2 p w L ∧ Fr p [1] M z.2) (ok_itr (fun (z : Int32 × DD) => (0 ≤ z.1.toInt ∧ z.1.toInt ≤ (8 * 8)) ∧ TT G z.2 p w L ∧ Fr p [1] M z.2) (fun z => ((8 * 8) - z.1.toInt).toNat) ?_ _ _ ?_ ?_) ?_
    · intro s2 hys2
      obtain ⟨ls2_1, ts2_2, fs2_2⟩ := hys2
      have is2_1 : TI s2.1 s2.1.toInt := rfl
      refine ok_ltI (av_mul i0 i0 (by omega) (by omega)) (fun x5 ix5 => ?_)
      refine ok_if (fun c1 => ?_) (fun c1 => ?_)
      · have dc1 := tl_le ix5 is2_1 c1
        exact ok_some ⟨(ti_bd is2_1 (by omega) (by omega)), ts2_2, fs2_2⟩
      · have dc1 := tl_nle ix5 is2_1 c1
        refine ok_chk (nz i0 (by omega)) ?_
        refine ok_ltI (av_div is2_1 i0 (by omega) (by omega)) (fun x7 ix7 => ?_)
        refine ok_ltI (av_mul ix7 tn_21 (by omega) (by omega)) (fun x8 ix8 => ?_)
        refine ok_chk (nz i0 (by omega)) ?_
        refine ok_ltI (av_mod is2_1 i0 (by omega) (by omega)) (fun x9 ix9 => ?_)
        refine ok_ltI (av_add ix8 ix9 (by omega) (by omega)) (fun x10 ix10 => ?_)
        refine ok_ltI (av_add ix10 i1 (by omega) (by omega)) (fun x11 ix11 => ?_)
        refine ok_dr (f_r (b := 142) t rfl (by decide)) (g_lt ts2_2 (by decide)) (g_k ts2_2 (by decide) rfl) ?_
        refine ok_chk (nxg (g_n (i := 142) (n := 441) ts2_2 (by decide) rfl) ix11 (by omega) (by omega)) ?_
        refine ok_ltA (fun x13 => ?_)
        refine ok_ltI (av_add ix11 tn_21 (by omega) (by omega)) (fun x14 ix14 => ?_)
        refine ok_chk (nxg (g_n (i := 142) (n := 441) ts2_2 (by decide) rfl) ix14 (by omega) (by omega)) ?_
        refine ok_ltA (fun x15 => ?_)
        refine ok_ltA (fun x16 => ?_)
        refine ok_ltA (fun x17 => ?_)
        refine ok_ltI (av_add ix11 tn_42 (by omega) (by omega)) (fun x18 ix18 => ?_)
        refine ok_chk (nxg (g_n (i := 142) (n := 441) ts2_2 (by decide) rfl) ix18 (by omega) (by omega)) ?_
        refine ok_ltA (fun x19 => ?_)
        refine ok_ltA (fun x20 => ?_)
        refine ok_ltA (fun x21 => ?_)
        refine ok_ltI (av_add ix11 tn_63 (by omega) (by omega)) (fun x22 ix22 => ?_)
        refine ok_chk (nxg (g_n (i := 142) (n := 441) ts2_2 (by decide) rfl) ix22 (by omega) (by omega)) ?_
        refine ok_ltA (fun x23 => ?_)
        refine ok_ltA (fun x24 => ?_)
        refine ok_ltA (fun x25 => ?_)
        refine ok_ltI (av_add ix11 tn_84 (by omega) (by omega)) (fun x26 ix26 => ?_)
        refine ok_chk (nxg (g_n (i := 142) (n := 441) ts2_2 (by decide) rfl) ix26 (by omega) (by omega)) ?_
        refine ok_ltA (fun x27 => ?_)
        refine ok_ltA (fun x28 => ?_)
        refine ok_ltA (fun x29 => ?_)
        refine ok_ltI (av_add ix11 tn_105 (by omega) (by omega)) (fun x30 ix30 => ?_)
        refine ok_chk (nxg (g_n (i := 142) (n := 441) ts2_2 (by decide) rfl) ix30 (by omega) (by omega)) ?_
        refine ok_ltA (fun x31 => ?_)
        refine ok_ltA (fun x32 => ?_)
        refine ok_ltA (fun x33 => ?_)
        refine ok_ltA (fun x34 => ?_)
        refine ok_bnd (Q := fun (z : Int32) => (0 ≤ z.toInt ∧ z.toInt ≤ 255)) ?_ ?_
        · refine ok_if (fun c2 => ?_) (fun c2 => ?_)
          · have dc2 := tl_le tn_0 (rfl : TI x34 x34.toInt) c2
            refine ok_bnd (Q := fun (z : Int32) => (0 ≤ z.toInt ∧ z.toInt ≤ 255)) ?_ ?_
            · refine ok_if (fun c3 => ?_) (fun c3 => ?_)
              · have dc3 := tl_le (rfl : TI x34 x34.toInt) tn_255 c3
                exact ok_some (ti_bd (rfl : TI x34 x34.toInt) (by omega) (by omega))
              · have dc3 := tl_nle (rfl : TI x34 x34.toInt) tn_255 c3
                exact ok_some (ti_bd tn_255 (by omega) (by omega))
            · intro y52 hyy52
              have ly52 := hyy52
              have iy52 : TI y52 y52.toInt := rfl
              exact ok_some (ti_bd iy52 (by omega) (by omega))
          · have dc2 := tl_nle tn_0 (rfl : TI x34 x34.toInt) c2
            exact ok_some (ti_bd tn_0 (by omega) (by omega))
        · intro y35 hyy35
          have ly35 := hyy35
          have iy35 : TI y35 y35.toInt := rfl
          refine ok_chk (nz i0 (by omega)) ?_
          refine ok_ltI (av_div is2_1 i0 (by omega) (by omega)) (fun x36 ix36 => ?_)
          refine ok_ltI (av_mul ix36 tn_16 (by omega) (by omega)) (fun x37 ix37 => ?_)
          refine ok_ltI (av_add i3 ix37 (by omega) (by omega)) (fun x38 ix38 => ?_)
          refine ok_chk (nz i0 (by omega)) ?_
          refine ok_ltI (av_mod is2_1 i0 (by omega) (by omega)) (fun x39 ix39 => ?_)
          refine ok_ltI (av_add ix38 ix39 (by omega) (by omega)) (fun x40 ix40 => ?_)
          refine ok_bnd (Q := fun (z : Int32) => True) ?_ ?_
          · refine ok_if (fun c4 => ?_) (fun c4 => ?_)
            · have dc4 := tl_eq (rfl : TI p4 p4.toInt) tn_0 c4
              exact ok_some trivial
            · refine ok_dr rfl (g_lt ts2_2 (two_lt hc2)) (gk_two ts2_2 hc2) ?_
              refine ok_chk (nxg (gl_two ts2_2 hc2) ix40 (by omega) (by omega)) ?_
              refine ok_ltA (fun x47 => ?_)
              refine ok_ltA (fun x48 => ?_)
              refine ok_ltA (fun x49 => ?_)
              refine ok_ltA (fun x50 => ?_)
              exact ok_some trivial
          · intro y41 hyy41
            have u_y41 := hyy41
            refine ok_dr rfl (g_lt ts2_2 (two_lt hc2)) (gk_two ts2_2 hc2) ?_
            refine ok_chk (nxg (gl_two ts2_2 hc2) ix40 (by omega) (by omega)) ?_
            refine ok_ltt (fun M43 eM43 => ?_)
            have tM43 : TT G M43 p w L := by rw [eM43]; exact (tt_two ts2_2 hc2)
            have fM43 : Fr p [1] M M43 := by rw [eM43]; exact (fr_w fs2_2 (pc_two hc2 rfl))
            clear eM43
            refine ok_ltI (av_add is2_1 tn_1 (by omega) (by omega)) (fun x44 ix44 => ?_)
            exact ok_some ⟨⟨(ti_bd ix44 (by omega) (by omega)), tM43, fM43⟩, (mu_up ix44 (by omega) (by omega))⟩
    · exact ⟨(ti_bd tn_0 (by omega) (by omega)), t, (fr_0 p [1] M)⟩
    · exact mu_0 tn_0 (by omega)
    · intro y1 hyy1
      obtain ⟨ly1_1, ty1_2, fy1_2⟩ := hyy1
      have iy1_1 : TI y1.1 y1.1.toInt := rfl
      exact ok_some ⟨ty1_2, fy1_2⟩
  · refine ok_bnd (Q := fun (z : Int32 × DD) => (0 ≤ z.1.toInt ∧ z.1.toInt ≤ (16 * 16)) ∧ TT G z.2 p w L ∧ Fr p [1] M z.2) (ok_itr (fun (z : Int32 × DD) => (0 ≤ z.1.toInt ∧ z.1.toInt ≤ (16 * 16)) ∧ TT G z.2 p w L ∧ Fr p [1] M z.2) (fun z => ((16 * 16) - z.1.toInt).toNat) ?_ _ _ ?_ ?_) ?_
    · intro s2 hys2
      obtain ⟨ls2_1, ts2_2, fs2_2⟩ := hys2
      have is2_1 : TI s2.1 s2.1.toInt := rfl
      refine ok_ltI (av_mul i0 i0 (by omega) (by omega)) (fun x5 ix5 => ?_)
      refine ok_if (fun c1 => ?_) (fun c1 => ?_)
      · have dc1 := tl_le ix5 is2_1 c1
        exact ok_some ⟨(ti_bd is2_1 (by omega) (by omega)), ts2_2, fs2_2⟩
      · have dc1 := tl_nle ix5 is2_1 c1
        refine ok_chk (nz i0 (by omega)) ?_
        refine ok_ltI (av_div is2_1 i0 (by omega) (by omega)) (fun x7 ix7 => ?_)
        refine ok_ltI (av_mul ix7 tn_21 (by omega) (by omega)) (fun x8 ix8 => ?_)
        refine ok_chk (nz i0 (by omega)) ?_
        refine ok_ltI (av_mod is2_1 i0 (by omega) (by omega)) (fun x9 ix9 => ?_)
        refine ok_ltI (av_add ix8 ix9 (by omega) (by omega)) (fun x10 ix10 => ?_)
        refine ok_ltI (av_add ix10 i1 (by omega) (by omega)) (fun x11 ix11 => ?_)
        refine ok_dr (f_r (b := 142) t rfl (by decide)) (g_lt ts2_2 (by decide)) (g_k ts2_2 (by decide) rfl) ?_
        refine ok_chk (nxg (g_n (i := 142) (n := 441) ts2_2 (by decide) rfl) ix11 (by omega) (by omega)) ?_
        refine ok_ltA (fun x13 => ?_)
        refine ok_ltI (av_add ix11 tn_21 (by omega) (by omega)) (fun x14 ix14 => ?_)
        refine ok_chk (nxg (g_n (i := 142) (n := 441) ts2_2 (by decide) rfl) ix14 (by omega) (by omega)) ?_
        refine ok_ltA (fun x15 => ?_)
        refine ok_ltA (fun x16 => ?_)
        refine ok_ltA (fun x17 => ?_)
        refine ok_ltI (av_add ix11 tn_42 (by omega) (by omega)) (fun x18 ix18 => ?_)
        refine ok_chk (nxg (g_n (i := 142) (n := 441) ts2_2 (by decide) rfl) ix18 (by omega) (by omega)) ?_
        refine ok_ltA (fun x19 => ?_)
        refine ok_ltA (fun x20 => ?_)
        refine ok_ltA (fun x21 => ?_)
        refine ok_ltI (av_add ix11 tn_63 (by omega) (by omega)) (fun x22 ix22 => ?_)
        refine ok_chk (nxg (g_n (i := 142) (n := 441) ts2_2 (by decide) rfl) ix22 (by omega) (by omega)) ?_
        refine ok_ltA (fun x23 => ?_)
        refine ok_ltA (fun x24 => ?_)
        refine ok_ltA (fun x25 => ?_)
        refine ok_ltI (av_add ix11 tn_84 (by omega) (by omega)) (fun x26 ix26 => ?_)
        refine ok_chk (nxg (g_n (i := 142) (n := 441) ts2_2 (by decide) rfl) ix26 (by omega) (by omega)) ?_
        refine ok_ltA (fun x27 => ?_)
        refine ok_ltA (fun x28 => ?_)
        refine ok_ltA (fun x29 => ?_)
        refine ok_ltI (av_add ix11 tn_105 (by omega) (by omega)) (fun x30 ix30 => ?_)
        refine ok_chk (nxg (g_n (i := 142) (n := 441) ts2_2 (by decide) rfl) ix30 (by omega) (by omega)) ?_
        refine ok_ltA (fun x31 => ?_)
        refine ok_ltA (fun x32 => ?_)
        refine ok_ltA (fun x33 => ?_)
        refine ok_ltA (fun x34 => ?_)
        refine ok_bnd (Q := fun (z : Int32) => (0 ≤ z.toInt ∧ z.toInt ≤ 255)) ?_ ?_
        · refine ok_if (fun c2 => ?_) (fun c2 => ?_)
          · have dc2 := tl_le tn_0 (rfl : TI x34 x34.toInt) c2
            refine ok_bnd (Q := fun (z : Int32) => (0 ≤ z.toInt ∧ z.toInt ≤ 255)) ?_ ?_
            · refine ok_if (fun c3 => ?_) (fun c3 => ?_)
              · have dc3 := tl_le (rfl : TI x34 x34.toInt) tn_255 c3
                exact ok_some (ti_bd (rfl : TI x34 x34.toInt) (by omega) (by omega))
              · have dc3 := tl_nle (rfl : TI x34 x34.toInt) tn_255 c3
                exact ok_some (ti_bd tn_255 (by omega) (by omega))
            · intro y52 hyy52
              have ly52 := hyy52
              have iy52 : TI y52 y52.toInt := rfl
              exact ok_some (ti_bd iy52 (by omega) (by omega))
          · have dc2 := tl_nle tn_0 (rfl : TI x34 x34.toInt) c2
            exact ok_some (ti_bd tn_0 (by omega) (by omega))
        · intro y35 hyy35
          have ly35 := hyy35
          have iy35 : TI y35 y35.toInt := rfl
          refine ok_chk (nz i0 (by omega)) ?_
          refine ok_ltI (av_div is2_1 i0 (by omega) (by omega)) (fun x36 ix36 => ?_)
          refine ok_ltI (av_mul ix36 tn_16 (by omega) (by omega)) (fun x37 ix37 => ?_)
          refine ok_ltI (av_add i3 ix37 (by omega) (by omega)) (fun x38 ix38 => ?_)
          refine ok_chk (nz i0 (by omega)) ?_
          refine ok_ltI (av_mod is2_1 i0 (by omega) (by omega)) (fun x39 ix39 => ?_)
          refine ok_ltI (av_add ix38 ix39 (by omega) (by omega)) (fun x40 ix40 => ?_)
          refine ok_bnd (Q := fun (z : Int32) => True) ?_ ?_
          · refine ok_if (fun c4 => ?_) (fun c4 => ?_)
            · have dc4 := tl_eq (rfl : TI p4 p4.toInt) tn_0 c4
              exact ok_some trivial
            · refine ok_dr rfl (g_lt ts2_2 (two_lt hc2)) (gk_two ts2_2 hc2) ?_
              refine ok_chk (nxg (gl_two ts2_2 hc2) ix40 (by omega) (by omega)) ?_
              refine ok_ltA (fun x47 => ?_)
              refine ok_ltA (fun x48 => ?_)
              refine ok_ltA (fun x49 => ?_)
              refine ok_ltA (fun x50 => ?_)
              exact ok_some trivial
          · intro y41 hyy41
            have u_y41 := hyy41
            refine ok_dr rfl (g_lt ts2_2 (two_lt hc2)) (gk_two ts2_2 hc2) ?_
            refine ok_chk (nxg (gl_two ts2_2 hc2) ix40 (by omega) (by omega)) ?_
            refine ok_ltt (fun M43 eM43 => ?_)
            have tM43 : TT G M43 p w L := by rw [eM43]; exact (tt_two ts2_2 hc2)
            have fM43 : Fr p [1] M M43 := by rw [eM43]; exact (fr_w fs2_2 (pc_two hc2 rfl))
            clear eM43
            refine ok_ltI (av_add is2_1 tn_1 (by omega) (by omega)) (fun x44 ix44 => ?_)
            exact ok_some ⟨⟨(ti_bd ix44 (by omega) (by omega)), tM43, fM43⟩, (mu_up ix44 (by omega) (by omega))⟩
    · exact ⟨(ti_bd tn_0 (by omega) (by omega)), t, (fr_0 p [1] M)⟩
    · exact mu_0 tn_0 (by omega)
    · intro y1 hyy1
      obtain ⟨ly1_1, ty1_2, fy1_2⟩ := hyy1
      have iy1_1 : TI y1.1 y1.1.toInt := rfl
      exact ok_some ⟨ty1_2, fy1_2⟩
theorem s_tapBoth {G : GG} {M : DD} {p : Nat} {w : Int} {L : List Nat} (t : TT G M p w L) {p0 : Int32} {a0 : Int} (i0 : TI p0 a0) {p1 : Option Nat} {c1 : Nat} (e1 : p1 = some c1) (hc1 : (c1 == 140 || c1 == 141) = true) {p2 : Int32} {a2 : Int} (i2 : TI p2 a2) {p3 : Int32} (h0 : a0 = 4 ∨ a0 = 8 ∨ a0 = 16) (h1 : 0 ≤ a2) (h2 : a2 + 16 * (a0 - 1) + a0 ≤ 384) : OK (FX6_tapBoth G M 138 p0 p1 p2 p3) (fun y => TT G y p w L ∧ Fr p [1] M y) := by
  unfold FX6_tapBoth
  subst e1
  have hw12 : 1 ≤ w ∧ w ≤ 2 := by rcases tt_w t with h | h <;> omega
  rcases h0 with rfl | rfl | rfl
  · refine ok_bnd (Q := fun (z : Int32 × DD) => (0 ≤ z.1.toInt ∧ z.1.toInt ≤ (4 * (4 + 5))) ∧ TT G z.2 p w L ∧ Fr p [1] M z.2) (ok_itr (fun (z : Int32 × DD) => (0 ≤ z.1.toInt ∧ z.1.toInt ≤ (4 * (4 + 5))) ∧ TT G z.2 p w L ∧ Fr p [1] M z.2) (fun z => ((4 * (4 + 5)) - z.1.toInt).toNat) ?_ _ _ ?_ ?_) ?_
    · intro s2 hys2
      obtain ⟨ls2_1, ts2_2, fs2_2⟩ := hys2
      have is2_1 : TI s2.1 s2.1.toInt := rfl
      refine ok_ltI (av_add i0 tn_5 (by omega) (by omega)) (fun x54 ix54 => ?_)
      refine ok_ltI (av_mul i0 ix54 (by omega) (by omega)) (fun x55 ix55 => ?_)
      refine ok_if (fun c1 => ?_) (fun c1 => ?_)
      · have dc1 := tl_le ix55 is2_1 c1
        exact ok_some ⟨(ti_bd is2_1 (by omega) (by omega)), ts2_2, fs2_2⟩
      · have dc1 := tl_nle ix55 is2_1 c1
        refine ok_chk (nz i0 (by omega)) ?_
        refine ok_ltI (av_div is2_1 i0 (by omega) (by omega)) (fun x57 ix57 => ?_)
        refine ok_ltI (av_mul ix57 tn_21 (by omega) (by omega)) (fun x58 ix58 => ?_)
        refine ok_chk (nz i0 (by omega)) ?_
        refine ok_ltI (av_mod is2_1 i0 (by omega) (by omega)) (fun x59 ix59 => ?_)
        refine ok_ltI (av_add ix58 ix59 (by omega) (by omega)) (fun x60 ix60 => ?_)
        refine ok_chk (nz i0 (by omega)) ?_
        refine ok_ltI (av_div is2_1 i0 (by omega) (by omega)) (fun x61 ix61 => ?_)
        refine ok_ltI (av_mul ix61 tn_16 (by omega) (by omega)) (fun x62 ix62 => ?_)
        refine ok_chk (nz i0 (by omega)) ?_
        refine ok_ltI (av_mod is2_1 i0 (by omega) (by omega)) (fun x63 ix63 => ?_)
        refine ok_ltI (av_add ix62 ix63 (by omega) (by omega)) (fun x64 ix64 => ?_)
        refine ok_dr (f_r (b := 142) t rfl (by decide)) (g_lt ts2_2 (by decide)) (g_k ts2_2 (by decide) rfl) ?_
        refine ok_chk (nxg (g_n (i := 142) (n := 441) ts2_2 (by decide) rfl) ix60 (by omega) (by omega)) ?_
        refine ok_ltA (fun x66 => ?_)
        refine ok_ltI (av_add ix60 tn_1 (by omega) (by omega)) (fun x67 ix67 => ?_)
        refine ok_chk (nxg (g_n (i := 142) (n := 441) ts2_2 (by decide) rfl) ix67 (by omega) (by omega)) ?_
        refine ok_ltA (fun x68 => ?_)
        refine ok_ltA (fun x69 => ?_)
        refine ok_ltA (fun x70 => ?_)
        refine ok_ltI (av_add ix60 tn_2 (by omega) (by omega)) (fun x71 ix71 => ?_)
        refine ok_chk (nxg (g_n (i := 142) (n := 441) ts2_2 (by decide) rfl) ix71 (by omega) (by omega)) ?_
        refine ok_ltA (fun x72 => ?_)
        refine ok_ltA (fun x73 => ?_)
        refine ok_ltA (fun x74 => ?_)
        refine ok_ltI (av_add ix60 tn_3 (by omega) (by omega)) (fun x75 ix75 => ?_)
        refine ok_chk (nxg (g_n (i := 142) (n := 441) ts2_2 (by decide) rfl) ix75 (by omega) (by omega)) ?_
        refine ok_ltA (fun x76 => ?_)
        refine ok_ltA (fun x77 => ?_)
        refine ok_ltA (fun x78 => ?_)
        refine ok_ltI (av_add ix60 tn_4 (by omega) (by omega)) (fun x79 ix79 => ?_)
        refine ok_chk (nxg (g_n (i := 142) (n := 441) ts2_2 (by decide) rfl) ix79 (by omega) (by omega)) ?_
        refine ok_ltA (fun x80 => ?_)
        refine ok_ltA (fun x81 => ?_)
        refine ok_ltA (fun x82 => ?_)
        refine ok_ltI (av_add ix60 tn_5 (by omega) (by omega)) (fun x83 ix83 => ?_)
        refine ok_chk (nxg (g_n (i := 142) (n := 441) ts2_2 (by decide) rfl) ix83 (by omega) (by omega)) ?_
        refine ok_ltA (fun x84 => ?_)
        refine ok_ltA (fun x85 => ?_)
        refine ok_dr (f_r (b := 143) ts2_2 rfl (by decide)) (g_lt ts2_2 (by decide)) (g_k ts2_2 (by decide) rfl) ?_
        refine ok_chk (nxg (g_n (i := 143) (n := 336) ts2_2 (by decide) rfl) ix64 (by omega) (by omega)) ?_
        refine ok_ltt (fun M87 eM87 => ?_)
        have tM87 : TT G M87 p w L := by rw [eM87]; exact (tt_w0 ts2_2 rfl)
        have fM87 : Fr p [1] M M87 := by rw [eM87]; exact (fr_w fs2_2 rfl)
        clear eM87
        refine ok_ltI (av_add is2_1 tn_1 (by omega) (by omega)) (fun x88 ix88 => ?_)
        exact ok_some ⟨⟨(ti_bd ix88 (by omega) (by omega)), tM87, fM87⟩, (mu_up ix88 (by omega) (by omega))⟩
    · exact ⟨(ti_bd tn_0 (by omega) (by omega)), t, (fr_0 p [1] M)⟩
    · exact mu_0 tn_0 (by omega)
    · intro y1 hyy1
      obtain ⟨ly1_1, ty1_2, fy1_2⟩ := hyy1
      have iy1_1 : TI y1.1 y1.1.toInt := rfl
      refine ok_bnd (Q := fun (z : Int32 × DD) => (0 ≤ z.1.toInt ∧ z.1.toInt ≤ (4 * 4)) ∧ TT G z.2 p w L ∧ Fr p [1] M z.2) (ok_itr (fun (z : Int32 × DD) => (0 ≤ z.1.toInt ∧ z.1.toInt ≤ (4 * 4)) ∧ TT G z.2 p w L ∧ Fr p [1] M z.2) (fun z => ((4 * 4) - z.1.toInt).toNat) ?_ _ _ ?_ ?_) ?_
      · intro s5 hys5
        obtain ⟨ls5_1, ts5_2, fs5_2⟩ := hys5
        have is5_1 : TI s5.1 s5.1.toInt := rfl
        refine ok_ltI (av_mul i0 i0 (by omega) (by omega)) (fun x8 ix8 => ?_)
        refine ok_if (fun c2 => ?_) (fun c2 => ?_)
        · have dc2 := tl_le ix8 is5_1 c2
          exact ok_some ⟨(ti_bd is5_1 (by omega) (by omega)), ts5_2, fs5_2⟩
        · have dc2 := tl_nle ix8 is5_1 c2
          refine ok_chk (nz i0 (by omega)) ?_
          refine ok_ltI (av_div is5_1 i0 (by omega) (by omega)) (fun x10 ix10 => ?_)
          refine ok_ltI (av_mul ix10 tn_16 (by omega) (by omega)) (fun x11 ix11 => ?_)
          refine ok_chk (nz i0 (by omega)) ?_
          refine ok_ltI (av_mod is5_1 i0 (by omega) (by omega)) (fun x12 ix12 => ?_)
          refine ok_ltI (av_add ix11 ix12 (by omega) (by omega)) (fun x13 ix13 => ?_)
          refine ok_dr (f_r (b := 143) ty1_2 rfl (by decide)) (g_lt ts5_2 (by decide)) (g_k ts5_2 (by decide) rfl) ?_
          refine ok_chk (nxg (g_n (i := 143) (n := 336) ts5_2 (by decide) rfl) ix13 (by omega) (by omega)) ?_
          refine ok_ltA (fun x15 => ?_)
          refine ok_ltI (av_add ix13 tn_16 (by omega) (by omega)) (fun x16 ix16 => ?_)
          refine ok_chk (nxg (g_n (i := 143) (n := 336) ts5_2 (by decide) rfl) ix16 (by omega) (by omega)) ?_
          refine ok_ltA (fun x17 => ?_)
          refine ok_ltA (fun x18 => ?_)
          refine ok_ltA (fun x19 => ?_)
          refine ok_ltI (av_add ix13 tn_32 (by omega) (by omega)) (fun x20 ix20 => ?_)
          refine ok_chk (nxg (g_n (i := 143) (n := 336) ts5_2 (by decide) rfl) ix20 (by omega) (by omega)) ?_
          refine ok_ltA (fun x21 => ?_)
          refine ok_ltA (fun x22 => ?_)
          refine ok_ltA (fun x23 => ?_)
          refine ok_ltI (av_add ix13 tn_48 (by omega) (by omega)) (fun x24 ix24 => ?_)
          refine ok_chk (nxg (g_n (i := 143) (n := 336) ts5_2 (by decide) rfl) ix24 (by omega) (by omega)) ?_
          refine ok_ltA (fun x25 => ?_)
          refine ok_ltA (fun x26 => ?_)
          refine ok_ltA (fun x27 => ?_)
          refine ok_ltI (av_add ix13 tn_64 (by omega) (by omega)) (fun x28 ix28 => ?_)
          refine ok_chk (nxg (g_n (i := 143) (n := 336) ts5_2 (by decide) rfl) ix28 (by omega) (by omega)) ?_
          refine ok_ltA (fun x29 => ?_)
          refine ok_ltA (fun x30 => ?_)
          refine ok_ltA (fun x31 => ?_)
          refine ok_ltI (av_add ix13 tn_80 (by omega) (by omega)) (fun x32 ix32 => ?_)
          refine ok_chk (nxg (g_n (i := 143) (n := 336) ts5_2 (by decide) rfl) ix32 (by omega) (by omega)) ?_
          refine ok_ltA (fun x33 => ?_)
          refine ok_ltA (fun x34 => ?_)
          refine ok_ltA (fun x35 => ?_)
          refine ok_ltA (fun x36 => ?_)
          refine ok_bnd (Q := fun (z : Int32) => (0 ≤ z.toInt ∧ z.toInt ≤ 255)) ?_ ?_
          · refine ok_if (fun c3 => ?_) (fun c3 => ?_)
            · have dc3 := tl_le tn_0 (rfl : TI x36 x36.toInt) c3
              refine ok_bnd (Q := fun (z : Int32) => (0 ≤ z.toInt ∧ z.toInt ≤ 255)) ?_ ?_
              · refine ok_if (fun c4 => ?_) (fun c4 => ?_)
                · have dc4 := tl_le (rfl : TI x36 x36.toInt) tn_255 c4
                  exact ok_some (ti_bd (rfl : TI x36 x36.toInt) (by omega) (by omega))
                · have dc4 := tl_nle (rfl : TI x36 x36.toInt) tn_255 c4
                  exact ok_some (ti_bd tn_255 (by omega) (by omega))
              · intro y51 hyy51
                have ly51 := hyy51
                have iy51 : TI y51 y51.toInt := rfl
                exact ok_some (ti_bd iy51 (by omega) (by omega))
            · have dc3 := tl_nle tn_0 (rfl : TI x36 x36.toInt) c3
              exact ok_some (ti_bd tn_0 (by omega) (by omega))
          · intro y37 hyy37
            have ly37 := hyy37
            have iy37 : TI y37 y37.toInt := rfl
            refine ok_ltI (av_add i2 ix13 (by omega) (by omega)) (fun x38 ix38 => ?_)
            refine ok_bnd (Q := fun (z : Int32) => True) ?_ ?_
            · refine ok_if (fun c5 => ?_) (fun c5 => ?_)
              · have dc5 := tl_eq (rfl : TI p3 p3.toInt) tn_0 c5
                exact ok_some trivial
              · refine ok_ltI (av_add i2 ix13 (by omega) (by omega)) (fun x44 ix44 => ?_)
                refine ok_dr rfl (g_lt ts5_2 (two_lt hc1)) (gk_two ts5_2 hc1) ?_
                refine ok_chk (nxg (gl_two ts5_2 hc1) ix44 (by omega) (by omega)) ?_
                refine ok_ltA (fun x46 => ?_)
                refine ok_ltA (fun x47 => ?_)
                refine ok_ltA (fun x48 => ?_)
                refine ok_ltA (fun x49 => ?_)
                exact ok_some trivial
            · intro y39 hyy39
              have u_y39 := hyy39
              refine ok_dr rfl (g_lt ts5_2 (two_lt hc1)) (gk_two ts5_2 hc1) ?_
              refine ok_chk (nxg (gl_two ts5_2 hc1) ix38 (by omega) (by omega)) ?_
              refine ok_ltt (fun M41 eM41 => ?_)
              have tM41 : TT G M41 p w L := by rw [eM41]; exact (tt_two ts5_2 hc1)
              have fM41 : Fr p [1] M M41 := by rw [eM41]; exact (fr_w fs5_2 (pc_two hc1 rfl))
              clear eM41
              refine ok_ltI (av_add is5_1 tn_1 (by omega) (by omega)) (fun x42 ix42 => ?_)
              exact ok_some ⟨⟨(ti_bd ix42 (by omega) (by omega)), tM41, fM41⟩, (mu_up ix42 (by omega) (by omega))⟩
      · exact ⟨(ti_bd tn_0 (by omega) (by omega)), ty1_2, fy1_2⟩
      · exact mu_0 tn_0 (by omega)
      · intro y4 hyy4
        obtain ⟨ly4_1, ty4_2, fy4_2⟩ := hyy4
        have iy4_1 : TI y4.1 y4.1.toInt := rfl
        exact ok_some ⟨ty4_2, fy4_2⟩
  · refine ok_bnd (Q := fun (z : Int32 × DD) => (0 ≤ z.1.toInt ∧ z.1.toInt ≤ (8 * (8 + 5))) ∧ TT G z.2 p w L ∧ Fr p [1] M z.2) (ok_itr (fun (z : Int32 × DD) => (0 ≤ z.1.toInt ∧ z.1.toInt ≤ (8 * (8 + 5))) ∧ TT G z.2 p w L ∧ Fr p [1] M z.2) (fun z => ((8 * (8 + 5)) - z.1.toInt).toNat) ?_ _ _ ?_ ?_) ?_
    · intro s2 hys2
      obtain ⟨ls2_1, ts2_2, fs2_2⟩ := hys2
      have is2_1 : TI s2.1 s2.1.toInt := rfl
      refine ok_ltI (av_add i0 tn_5 (by omega) (by omega)) (fun x54 ix54 => ?_)
      refine ok_ltI (av_mul i0 ix54 (by omega) (by omega)) (fun x55 ix55 => ?_)
      refine ok_if (fun c1 => ?_) (fun c1 => ?_)
      · have dc1 := tl_le ix55 is2_1 c1
        exact ok_some ⟨(ti_bd is2_1 (by omega) (by omega)), ts2_2, fs2_2⟩
      · have dc1 := tl_nle ix55 is2_1 c1
        refine ok_chk (nz i0 (by omega)) ?_
        refine ok_ltI (av_div is2_1 i0 (by omega) (by omega)) (fun x57 ix57 => ?_)
        refine ok_ltI (av_mul ix57 tn_21 (by omega) (by omega)) (fun x58 ix58 => ?_)
        refine ok_chk (nz i0 (by omega)) ?_
        refine ok_ltI (av_mod is2_1 i0 (by omega) (by omega)) (fun x59 ix59 => ?_)
        refine ok_ltI (av_add ix58 ix59 (by omega) (by omega)) (fun x60 ix60 => ?_)
        refine ok_chk (nz i0 (by omega)) ?_
        refine ok_ltI (av_div is2_1 i0 (by omega) (by omega)) (fun x61 ix61 => ?_)
        refine ok_ltI (av_mul ix61 tn_16 (by omega) (by omega)) (fun x62 ix62 => ?_)
        refine ok_chk (nz i0 (by omega)) ?_
        refine ok_ltI (av_mod is2_1 i0 (by omega) (by omega)) (fun x63 ix63 => ?_)
        refine ok_ltI (av_add ix62 ix63 (by omega) (by omega)) (fun x64 ix64 => ?_)
        refine ok_dr (f_r (b := 142) t rfl (by decide)) (g_lt ts2_2 (by decide)) (g_k ts2_2 (by decide) rfl) ?_
        refine ok_chk (nxg (g_n (i := 142) (n := 441) ts2_2 (by decide) rfl) ix60 (by omega) (by omega)) ?_
        refine ok_ltA (fun x66 => ?_)
        refine ok_ltI (av_add ix60 tn_1 (by omega) (by omega)) (fun x67 ix67 => ?_)
        refine ok_chk (nxg (g_n (i := 142) (n := 441) ts2_2 (by decide) rfl) ix67 (by omega) (by omega)) ?_
        refine ok_ltA (fun x68 => ?_)
        refine ok_ltA (fun x69 => ?_)
        refine ok_ltA (fun x70 => ?_)
        refine ok_ltI (av_add ix60 tn_2 (by omega) (by omega)) (fun x71 ix71 => ?_)
        refine ok_chk (nxg (g_n (i := 142) (n := 441) ts2_2 (by decide) rfl) ix71 (by omega) (by omega)) ?_
        refine ok_ltA (fun x72 => ?_)
        refine ok_ltA (fun x73 => ?_)
        refine ok_ltA (fun x74 => ?_)
        refine ok_ltI (av_add ix60 tn_3 (by omega) (by omega)) (fun x75 ix75 => ?_)
        refine ok_chk (nxg (g_n (i := 142) (n := 441) ts2_2 (by decide) rfl) ix75 (by omega) (by omega)) ?_
        refine ok_ltA (fun x76 => ?_)
        refine ok_ltA (fun x77 => ?_)
        refine ok_ltA (fun x78 => ?_)
        refine ok_ltI (av_add ix60 tn_4 (by omega) (by omega)) (fun x79 ix79 => ?_)
        refine ok_chk (nxg (g_n (i := 142) (n := 441) ts2_2 (by decide) rfl) ix79 (by omega) (by omega)) ?_
        refine ok_ltA (fun x80 => ?_)
        refine ok_ltA (fun x81 => ?_)
        refine ok_ltA (fun x82 => ?_)
        refine ok_ltI (av_add ix60 tn_5 (by omega) (by omega)) (fun x83 ix83 => ?_)
        refine ok_chk (nxg (g_n (i := 142) (n := 441) ts2_2 (by decide) rfl) ix83 (by omega) (by omega)) ?_
        refine ok_ltA (fun x84 => ?_)
        refine ok_ltA (fun x85 => ?_)
        refine ok_dr (f_r (b := 143) ts2_2 rfl (by decide)) (g_lt ts2_2 (by decide)) (g_k ts2_2 (by decide) rfl) ?_
        refine ok_chk (nxg (g_n (i := 143) (n := 336) ts2_2 (by decide) rfl) ix64 (by omega) (by omega)) ?_
        refine ok_ltt (fun M87 eM87 => ?_)
        have tM87 : TT G M87 p w L := by rw [eM87]; exact (tt_w0 ts2_2 rfl)
        have fM87 : Fr p [1] M M87 := by rw [eM87]; exact (fr_w fs2_2 rfl)
        clear eM87
        refine ok_ltI (av_add is2_1 tn_1 (by omega) (by omega)) (fun x88 ix88 => ?_)
        exact ok_some ⟨⟨(ti_bd ix88 (by omega) (by omega)), tM87, fM87⟩, (mu_up ix88 (by omega) (by omega))⟩
    · exact ⟨(ti_bd tn_0 (by omega) (by omega)), t, (fr_0 p [1] M)⟩
    · exact mu_0 tn_0 (by omega)
    · intro y1 hyy1
      obtain ⟨ly1_1, ty1_2, fy1_2⟩ := hyy1
      have iy1_1 : TI y1.1 y1.1.toInt := rfl
      refine ok_bnd (Q := fun (z : Int32 × DD) => (0 ≤ z.1.toInt ∧ z.1.toInt ≤ (8 * 8)) ∧ TT G z.2 p w L ∧ Fr p [1] M z.2) (ok_itr (fun (z : Int32 × DD) => (0 ≤ z.1.toInt ∧ z.1.toInt ≤ (8 * 8)) ∧ TT G z.2 p w L ∧ Fr p [1] M z.2) (fun z => ((8 * 8) - z.1.toInt).toNat) ?_ _ _ ?_ ?_) ?_
      · intro s5 hys5
        obtain ⟨ls5_1, ts5_2, fs5_2⟩ := hys5
        have is5_1 : TI s5.1 s5.1.toInt := rfl
        refine ok_ltI (av_mul i0 i0 (by omega) (by omega)) (fun x8 ix8 => ?_)
        refine ok_if (fun c2 => ?_) (fun c2 => ?_)
        · have dc2 := tl_le ix8 is5_1 c2
          exact ok_some ⟨(ti_bd is5_1 (by omega) (by omega)), ts5_2, fs5_2⟩
        · have dc2 := tl_nle ix8 is5_1 c2
          refine ok_chk (nz i0 (by omega)) ?_
          refine ok_ltI (av_div is5_1 i0 (by omega) (by omega)) (fun x10 ix10 => ?_)
          refine ok_ltI (av_mul ix10 tn_16 (by omega) (by omega)) (fun x11 ix11 => ?_)
          refine ok_chk (nz i0 (by omega)) ?_
          refine ok_ltI (av_mod is5_1 i0 (by omega) (by omega)) (fun x12 ix12 => ?_)
          refine ok_ltI (av_add ix11 ix12 (by omega) (by omega)) (fun x13 ix13 => ?_)
          refine ok_dr (f_r (b := 143) ty1_2 rfl (by decide)) (g_lt ts5_2 (by decide)) (g_k ts5_2 (by decide) rfl) ?_
          refine ok_chk (nxg (g_n (i := 143) (n := 336) ts5_2 (by decide) rfl) ix13 (by omega) (by omega)) ?_
          refine ok_ltA (fun x15 => ?_)
          refine ok_ltI (av_add ix13 tn_16 (by omega) (by omega)) (fun x16 ix16 => ?_)
          refine ok_chk (nxg (g_n (i := 143) (n := 336) ts5_2 (by decide) rfl) ix16 (by omega) (by omega)) ?_
          refine ok_ltA (fun x17 => ?_)
          refine ok_ltA (fun x18 => ?_)
          refine ok_ltA (fun x19 => ?_)
          refine ok_ltI (av_add ix13 tn_32 (by omega) (by omega)) (fun x20 ix20 => ?_)
          refine ok_chk (nxg (g_n (i := 143) (n := 336) ts5_2 (by decide) rfl) ix20 (by omega) (by omega)) ?_
          refine ok_ltA (fun x21 => ?_)
          refine ok_ltA (fun x22 => ?_)
          refine ok_ltA (fun x23 => ?_)
          refine ok_ltI (av_add ix13 tn_48 (by omega) (by omega)) (fun x24 ix24 => ?_)
          refine ok_chk (nxg (g_n (i := 143) (n := 336) ts5_2 (by decide) rfl) ix24 (by omega) (by omega)) ?_
          refine ok_ltA (fun x25 => ?_)
          refine ok_ltA (fun x26 => ?_)
          refine ok_ltA (fun x27 => ?_)
          refine ok_ltI (av_add ix13 tn_64 (by omega) (by omega)) (fun x28 ix28 => ?_)
          refine ok_chk (nxg (g_n (i := 143) (n := 336) ts5_2 (by decide) rfl) ix28 (by omega) (by omega)) ?_
          refine ok_ltA (fun x29 => ?_)
          refine ok_ltA (fun x30 => ?_)
          refine ok_ltA (fun x31 => ?_)
          refine ok_ltI (av_add ix13 tn_80 (by omega) (by omega)) (fun x32 ix32 => ?_)
          refine ok_chk (nxg (g_n (i := 143) (n := 336) ts5_2 (by decide) rfl) ix32 (by omega) (by omega)) ?_
          refine ok_ltA (fun x33 => ?_)
          refine ok_ltA (fun x34 => ?_)
          refine ok_ltA (fun x35 => ?_)
          refine ok_ltA (fun x36 => ?_)
          refine ok_bnd (Q := fun (z : Int32) => (0 ≤ z.toInt ∧ z.toInt ≤ 255)) ?_ ?_
          · refine ok_if (fun c3 => ?_) (fun c3 => ?_)
            · have dc3 := tl_le tn_0 (rfl : TI x36 x36.toInt) c3
              refine ok_bnd (Q := fun (z : Int32) => (0 ≤ z.toInt ∧ z.toInt ≤ 255)) ?_ ?_
              · refine ok_if (fun c4 => ?_) (fun c4 => ?_)
                · have dc4 := tl_le (rfl : TI x36 x36.toInt) tn_255 c4
                  exact ok_some (ti_bd (rfl : TI x36 x36.toInt) (by omega) (by omega))
                · have dc4 := tl_nle (rfl : TI x36 x36.toInt) tn_255 c4
                  exact ok_some (ti_bd tn_255 (by omega) (by omega))
              · intro y51 hyy51
                have ly51 := hyy51
                have iy51 : TI y51 y51.toInt := rfl
                exact ok_some (ti_bd iy51 (by omega) (by omega))
            · have dc3 := tl_nle tn_0 (rfl : TI x36 x36.toInt) c3
              exact ok_some (ti_bd tn_0 (by omega) (by omega))
          · intro y37 hyy37
            have ly37 := hyy37
            have iy37 : TI y37 y37.toInt := rfl
            refine ok_ltI (av_add i2 ix13 (by omega) (by omega)) (fun x38 ix38 => ?_)
            refine ok_bnd (Q := fun (z : Int32) => True) ?_ ?_
            · refine ok_if (fun c5 => ?_) (fun c5 => ?_)
              · have dc5 := tl_eq (rfl : TI p3 p3.toInt) tn_0 c5
                exact ok_some trivial
              · refine ok_ltI (av_add i2 ix13 (by omega) (by omega)) (fun x44 ix44 => ?_)
                refine ok_dr rfl (g_lt ts5_2 (two_lt hc1)) (gk_two ts5_2 hc1) ?_
                refine ok_chk (nxg (gl_two ts5_2 hc1) ix44 (by omega) (by omega)) ?_
                refine ok_ltA (fun x46 => ?_)
                refine ok_ltA (fun x47 => ?_)
                refine ok_ltA (fun x48 => ?_)
                refine ok_ltA (fun x49 => ?_)
                exact ok_some trivial
            · intro y39 hyy39
              have u_y39 := hyy39
              refine ok_dr rfl (g_lt ts5_2 (two_lt hc1)) (gk_two ts5_2 hc1) ?_
              refine ok_chk (nxg (gl_two ts5_2 hc1) ix38 (by omega) (by omega)) ?_
              refine ok_ltt (fun M41 eM41 => ?_)
              have tM41 : TT G M41 p w L := by rw [eM41]; exact (tt_two ts5_2 hc1)
              have fM41 : Fr p [1] M M41 := by rw [eM41]; exact (fr_w fs5_2 (pc_two hc1 rfl))
              clear eM41
              refine ok_ltI (av_add is5_1 tn_1 (by omega) (by omega)) (fun x42 ix42 => ?_)
              exact ok_some ⟨⟨(ti_bd ix42 (by omega) (by omega)), tM41, fM41⟩, (mu_up ix42 (by omega) (by omega))⟩
      · exact ⟨(ti_bd tn_0 (by omega) (by omega)), ty1_2, fy1_2⟩
      · exact mu_0 tn_0 (by omega)
      · intro y4 hyy4
        obtain ⟨ly4_1, ty4_2, fy4_2⟩ := hyy4
        have iy4_1 : TI y4.1 y4.1.toInt := rfl
        exact ok_some ⟨ty4_2, fy4_2⟩
  · refine ok_bnd (Q := fun (z : Int32 × DD) => (0 ≤ z.1.toInt ∧ z.1.toInt ≤ (16 * (16 + 5))) ∧ TT G z.2 p w L ∧ Fr p [1] M z.2) (ok_itr (fun (z : Int32 × DD) => (0 ≤ z.1.toInt ∧ z.1.toInt ≤ (16 * (16 + 5))) ∧ TT G z.2 p w L ∧ Fr p [1] M z.2) (fun z => ((16 * (16 + 5)) - z.1.toInt).toNat) ?_ _ _ ?_ ?_) ?_
    · intro s2 hys2
      obtain ⟨ls2_1, ts2_2, fs2_2⟩ := hys2
      have is2_1 : TI s2.1 s2.1.toInt := rfl
      refine ok_ltI (av_add i0 tn_5 (by omega) (by omega)) (fun x54 ix54 => ?_)
      refine ok_ltI (av_mul i0 ix54 (by omega) (by omega)) (fun x55 ix55 => ?_)
      refine ok_if (fun c1 => ?_) (fun c1 => ?_)
      · have dc1 := tl_le ix55 is2_1 c1
        exact ok_some ⟨(ti_bd is2_1 (by omega) (by omega)), ts2_2, fs2_2⟩
      · have dc1 := tl_nle ix55 is2_1 c1
        refine ok_chk (nz i0 (by omega)) ?_
        refine ok_ltI (av_div is2_1 i0 (by omega) (by omega)) (fun x57 ix57 => ?_)
        refine ok_ltI (av_mul ix57 tn_21 (by omega) (by omega)) (fun x58 ix58 => ?_)
        refine ok_chk (nz i0 (by omega)) ?_
        refine ok_ltI (av_mod is2_1 i0 (by omega) (by omega)) (fun x59 ix59 => ?_)
        refine ok_ltI (av_add ix58 ix59 (by omega) (by omega)) (fun x60 ix60 => ?_)
        refine ok_chk (nz i0 (by omega)) ?_
        refine ok_ltI (av_div is2_1 i0 (by omega) (by omega)) (fun x61 ix61 => ?_)
        refine ok_ltI (av_mul ix61 tn_16 (by omega) (by omega)) (fun x62 ix62 => ?_)
        refine ok_chk (nz i0 (by omega)) ?_
        refine ok_ltI (av_mod is2_1 i0 (by omega) (by omega)) (fun x63 ix63 => ?_)
        refine ok_ltI (av_add ix62 ix63 (by omega) (by omega)) (fun x64 ix64 => ?_)
        refine ok_dr (f_r (b := 142) t rfl (by decide)) (g_lt ts2_2 (by decide)) (g_k ts2_2 (by decide) rfl) ?_
        refine ok_chk (nxg (g_n (i := 142) (n := 441) ts2_2 (by decide) rfl) ix60 (by omega) (by omega)) ?_
        refine ok_ltA (fun x66 => ?_)
        refine ok_ltI (av_add ix60 tn_1 (by omega) (by omega)) (fun x67 ix67 => ?_)
        refine ok_chk (nxg (g_n (i := 142) (n := 441) ts2_2 (by decide) rfl) ix67 (by omega) (by omega)) ?_
        refine ok_ltA (fun x68 => ?_)
        refine ok_ltA (fun x69 => ?_)
        refine ok_ltA (fun x70 => ?_)
        refine ok_ltI (av_add ix60 tn_2 (by omega) (by omega)) (fun x71 ix71 => ?_)
        refine ok_chk (nxg (g_n (i := 142) (n := 441) ts2_2 (by decide) rfl) ix71 (by omega) (by omega)) ?_
        refine ok_ltA (fun x72 => ?_)
        refine ok_ltA (fun x73 => ?_)
        refine ok_ltA (fun x74 => ?_)
        refine ok_ltI (av_add ix60 tn_3 (by omega) (by omega)) (fun x75 ix75 => ?_)
        refine ok_chk (nxg (g_n (i := 142) (n := 441) ts2_2 (by decide) rfl) ix75 (by omega) (by omega)) ?_
        refine ok_ltA (fun x76 => ?_)
        refine ok_ltA (fun x77 => ?_)
        refine ok_ltA (fun x78 => ?_)
        refine ok_ltI (av_add ix60 tn_4 (by omega) (by omega)) (fun x79 ix79 => ?_)
        refine ok_chk (nxg (g_n (i := 142) (n := 441) ts2_2 (by decide) rfl) ix79 (by omega) (by omega)) ?_
        refine ok_ltA (fun x80 => ?_)
        refine ok_ltA (fun x81 => ?_)
        refine ok_ltA (fun x82 => ?_)
        refine ok_ltI (av_add ix60 tn_5 (by omega) (by omega)) (fun x83 ix83 => ?_)
        refine ok_chk (nxg (g_n (i := 142) (n := 441) ts2_2 (by decide) rfl) ix83 (by omega) (by omega)) ?_
        refine ok_ltA (fun x84 => ?_)
        refine ok_ltA (fun x85 => ?_)
        refine ok_dr (f_r (b := 143) ts2_2 rfl (by decide)) (g_lt ts2_2 (by decide)) (g_k ts2_2 (by decide) rfl) ?_
        refine ok_chk (nxg (g_n (i := 143) (n := 336) ts2_2 (by decide) rfl) ix64 (by omega) (by omega)) ?_
        refine ok_ltt (fun M87 eM87 => ?_)
        have tM87 : TT G M87 p w L := by rw [eM87]; exact (tt_w0 ts2_2 rfl)
        have fM87 : Fr p [1] M M87 := by rw [eM87]; exact (fr_w fs2_2 rfl)
        clear eM87
        refine ok_ltI (av_add is2_1 tn_1 (by omega) (by omega)) (fun x88 ix88 => ?_)
        exact ok_some ⟨⟨(ti_bd ix88 (by omega) (by omega)), tM87, fM87⟩, (mu_up ix88 (by omega) (by omega))⟩
    · exact ⟨(ti_bd tn_0 (by omega) (by omega)), t, (fr_0 p [1] M)⟩
    · exact mu_0 tn_0 (by omega)
    · intro y1 hyy1
      obtain ⟨ly1_1, ty1_2, fy1_2⟩ := hyy1
      have iy1_1 : TI y1.1 y1.1.toInt := rfl
      refine ok_bnd (Q := fun (z : Int32 × DD) => (0 ≤ z.1.toInt ∧ z.1.toInt ≤ (16 * 16)) ∧ TT G z.2 p w L ∧ Fr p [1] M z.2) (ok_itr (fun (z : Int32 × DD) => (0 ≤ z.1.toInt ∧ z.1.toInt ≤ (16 * 16)) ∧ TT G z.2 p w L ∧ Fr p [1] M z.2) (fun z => ((16 * 16) - z.1.toInt).toNat) ?_ _ _ ?_ ?_) ?_
      · intro s5 hys5
        obtain ⟨ls5_1, ts5_2, fs5_2⟩ := hys5
        have is5_1 : TI s5.1 s5.1.toInt := rfl
        refine ok_ltI (av_mul i0 i0 (by omega) (by omega)) (fun x8 ix8 => ?_)
        refine ok_if (fun c2 => ?_) (fun c2 => ?_)
        · have dc2 := tl_le ix8 is5_1 c2
          exact ok_some ⟨(ti_bd is5_1 (by omega) (by omega)), ts5_2, fs5_2⟩
        · have dc2 := tl_nle ix8 is5_1 c2
          refine ok_chk (nz i0 (by omega)) ?_
          refine ok_ltI (av_div is5_1 i0 (by omega) (by omega)) (fun x10 ix10 => ?_)
          refine ok_ltI (av_mul ix10 tn_16 (by omega) (by omega)) (fun x11 ix11 => ?_)
          refine ok_chk (nz i0 (by omega)) ?_
          refine ok_ltI (av_mod is5_1 i0 (by omega) (by omega)) (fun x12 ix12 => ?_)
          refine ok_ltI (av_add ix11 ix12 (by omega) (by omega)) (fun x13 ix13 => ?_)
          refine ok_dr (f_r (b := 143) ty1_2 rfl (by decide)) (g_lt ts5_2 (by decide)) (g_k ts5_2 (by decide) rfl) ?_
          refine ok_chk (nxg (g_n (i := 143) (n := 336) ts5_2 (by decide) rfl) ix13 (by omega) (by omega)) ?_
          refine ok_ltA (fun x15 => ?_)
          refine ok_ltI (av_add ix13 tn_16 (by omega) (by omega)) (fun x16 ix16 => ?_)
          refine ok_chk (nxg (g_n (i := 143) (n := 336) ts5_2 (by decide) rfl) ix16 (by omega) (by omega)) ?_
          refine ok_ltA (fun x17 => ?_)
          refine ok_ltA (fun x18 => ?_)
          refine ok_ltA (fun x19 => ?_)
          refine ok_ltI (av_add ix13 tn_32 (by omega) (by omega)) (fun x20 ix20 => ?_)
          refine ok_chk (nxg (g_n (i := 143) (n := 336) ts5_2 (by decide) rfl) ix20 (by omega) (by omega)) ?_
          refine ok_ltA (fun x21 => ?_)
          refine ok_ltA (fun x22 => ?_)
          refine ok_ltA (fun x23 => ?_)
          refine ok_ltI (av_add ix13 tn_48 (by omega) (by omega)) (fun x24 ix24 => ?_)
          refine ok_chk (nxg (g_n (i := 143) (n := 336) ts5_2 (by decide) rfl) ix24 (by omega) (by omega)) ?_
          refine ok_ltA (fun x25 => ?_)
          refine ok_ltA (fun x26 => ?_)
          refine ok_ltA (fun x27 => ?_)
          refine ok_ltI (av_add ix13 tn_64 (by omega) (by omega)) (fun x28 ix28 => ?_)
          refine ok_chk (nxg (g_n (i := 143) (n := 336) ts5_2 (by decide) rfl) ix28 (by omega) (by omega)) ?_
          refine ok_ltA (fun x29 => ?_)
          refine ok_ltA (fun x30 => ?_)
          refine ok_ltA (fun x31 => ?_)
          refine ok_ltI (av_add ix13 tn_80 (by omega) (by omega)) (fun x32 ix32 => ?_)
          refine ok_chk (nxg (g_n (i := 143) (n := 336) ts5_2 (by decide) rfl) ix32 (by omega) (by omega)) ?_
          refine ok_ltA (fun x33 => ?_)
          refine ok_ltA (fun x34 => ?_)
          refine ok_ltA (fun x35 => ?_)
          refine ok_ltA (fun x36 => ?_)
          refine ok_bnd (Q := fun (z : Int32) => (0 ≤ z.toInt ∧ z.toInt ≤ 255)) ?_ ?_
          · refine ok_if (fun c3 => ?_) (fun c3 => ?_)
            · have dc3 := tl_le tn_0 (rfl : TI x36 x36.toInt) c3
              refine ok_bnd (Q := fun (z : Int32) => (0 ≤ z.toInt ∧ z.toInt ≤ 255)) ?_ ?_
              · refine ok_if (fun c4 => ?_) (fun c4 => ?_)
                · have dc4 := tl_le (rfl : TI x36 x36.toInt) tn_255 c4
                  exact ok_some (ti_bd (rfl : TI x36 x36.toInt) (by omega) (by omega))
                · have dc4 := tl_nle (rfl : TI x36 x36.toInt) tn_255 c4
                  exact ok_some (ti_bd tn_255 (by omega) (by omega))
              · intro y51 hyy51
                have ly51 := hyy51
                have iy51 : TI y51 y51.toInt := rfl
                exact ok_some (ti_bd iy51 (by omega) (by omega))
            · have dc3 := tl_nle tn_0 (rfl : TI x36 x36.toInt) c3
              exact ok_some (ti_bd tn_0 (by omega) (by omega))
          · intro y37 hyy37
            have ly37 := hyy37
            have iy37 : TI y37 y37.toInt := rfl
            refine ok_ltI (av_add i2 ix13 (by omega) (by omega)) (fun x38 ix38 => ?_)
            refine ok_bnd (Q := fun (z : Int32) => True) ?_ ?_
            · refine ok_if (fun c5 => ?_) (fun c5 => ?_)
              · have dc5 := tl_eq (rfl : TI p3 p3.toInt) tn_0 c5
                exact ok_some trivial
              · refine ok_ltI (av_add i2 ix13 (by omega) (by omega)) (fun x44 ix44 => ?_)
                refine ok_dr rfl (g_lt ts5_2 (two_lt hc1)) (gk_two ts5_2 hc1) ?_
                refine ok_chk (nxg (gl_two ts5_2 hc1) ix44 (by omega) (by omega)) ?_
                refine ok_ltA (fun x46 => ?_)
                refine ok_ltA (fun x47 => ?_)
                refine ok_ltA (fun x48 => ?_)
                refine ok_ltA (fun x49 => ?_)
                exact ok_some trivial
            · intro y39 hyy39
              have u_y39 := hyy39
              refine ok_dr rfl (g_lt ts5_2 (two_lt hc1)) (gk_two ts5_2 hc1) ?_
              refine ok_chk (nxg (gl_two ts5_2 hc1) ix38 (by omega) (by omega)) ?_
              refine ok_ltt (fun M41 eM41 => ?_)
              have tM41 : TT G M41 p w L := by rw [eM41]; exact (tt_two ts5_2 hc1)
              have fM41 : Fr p [1] M M41 := by rw [eM41]; exact (fr_w fs5_2 (pc_two hc1 rfl))
              clear eM41
              refine ok_ltI (av_add is5_1 tn_1 (by omega) (by omega)) (fun x42 ix42 => ?_)
              exact ok_some ⟨⟨(ti_bd ix42 (by omega) (by omega)), tM41, fM41⟩, (mu_up ix42 (by omega) (by omega))⟩
      · exact ⟨(ti_bd tn_0 (by omega) (by omega)), ty1_2, fy1_2⟩
      · exact mu_0 tn_0 (by omega)
      · intro y4 hyy4
        obtain ⟨ly4_1, ty4_2, fy4_2⟩ := hyy4
        have iy4_1 : TI y4.1 y4.1.toInt := rfl
        exact ok_some ⟨ty4_2, fy4_2⟩
theorem s_predictLuma {G : GG} {M : DD} {p : Nat} {w : Int} {L : List Nat} (t : TT G M p w L) {p0 : Option Nat} {q0 : Nat} (e0 : p0 = some q0) (hq0 : q0 ∈ L) {p1 : Int32} {a1 : Int} (i1 : TI p1 a1) {p2 : Int32} {a2 : Int} (i2 : TI p2 a2) {p3 : Int32} {a3 : Int} (i3 : TI p3 a3) {p4 : Option Nat} {c4 : Nat} (e4 : p4 = some c4) (hc4 : (c4 == 140 || c4 == 141) = true) {p5 : Int32} {a5 : Int} (i5 : TI p5 a5) (h0 : a3 = 4 ∨ a3 = 8 ∨ a3 = 16) (h1 : 0 ≤ a5) (h2 : a5 + 16 * (a3 - 1) + a3 ≤ 384) : OK (FX6_predictLuma G M 138 p0 p1 p2 p3 p4 p5) (fun y => TT G y p w L ∧ Fr p [1] M y) := by
  unfold FX6_predictLuma
  have r1 := i32_b i1
  have r2 := i32_b i2
  subst e0 e4
  have hw12 : 1 ≤ w ∧ w ≤ 2 := by rcases tt_w t with h | h <;> omega
  rcases h0 with rfl | rfl | rfl
  · refine ok_ltI (av_and 2 i1 (by decide) (by decide)) (fun x1 ix1 => ?_)
    refine ok_ltI (av_and 2 i2 (by decide) (by decide)) (fun x2 ix2 => ?_)
    refine ok_ltI (av_sar 2 i1 (by decide)) (fun x3 ix3 => ?_)
    refine ok_ltI (av_sub ix3 tn_2 (by omega) (by omega)) (fun x4 ix4 => ?_)
    refine ok_ltI (av_sar 2 i2 (by decide)) (fun x5 ix5 => ?_)
    refine ok_ltI (av_sub ix5 tn_2 (by omega) (by omega)) (fun x6 ix6 => ?_)
    refine ok_ltI (av_add i3 tn_5 (by omega) (by omega)) (fun x7 ix7 => ?_)
    refine ok_bnd (s_fillWindow t rfl hq0 ix4 ix6 ix7 (by omega) (by omega) (by omega) (by omega) (by omega) (by omega)) ?_
    intro y8 hyy8
    obtain ⟨ty8, gy8⟩ := hyy8
    have fy8 := fr_tr (fr_0 p [1] M) gy8 rfl
    refine ok_bnd (Q := fun (z : Int32 × DD) => (0 ≤ z.1.toInt ∧ z.1.toInt ≤ 1) ∧ TT G z.2 p w L ∧ Fr p [1] M z.2) ?_ ?_
    · refine ok_if (fun c1 => ?_) (fun c1 => ?_)
      · have dc1 := tl_eq ix2 tn_0 c1
        refine ok_bnd (Q := fun (z : Int32 × DD) => (0 ≤ z.1.toInt ∧ z.1.toInt ≤ 1) ∧ TT G z.2 p w L ∧ Fr p [1] M z.2) ?_ ?_
        · refine ok_if (fun c2 => ?_) (fun c2 => ?_)
          · have dc2 := tl_eq ix1 tn_2 c2
            refine ok_bnd (Q := fun (z : Int32 × DD) => (0 ≤ z.1.toInt ∧ z.1.toInt ≤ 0) ∧ TT G z.2 p w L ∧ Fr p [1] M z.2) ?_ ?_
            · refine ok_if (fun c3 => ?_) (fun c3 => ?_)
              · have dc3 := tl_eq ix1 tn_0 c3
                exfalso
                omega
              · exact ok_some ⟨(ti_bd tn_0 (by omega) (by omega)), ty8, fy8⟩
            · intro y106 hyy106
              obtain ⟨ly106_1, ty106_2, fy106_2⟩ := hyy106
              have iy106_1 : TI y106.1 (0) := ti_c ly106_1
              exact ok_some ⟨(ti_bd iy106_1 (by omega) (by omega)), ty106_2, fy106_2⟩
          · refine ok_bnd (Q := fun (z : Int32) => (0 ≤ z.toInt ∧ z.toInt ≤ 0)) ?_ ?_
            · refine ok_if (fun c4 => ?_) (fun c4 => ?_)
              · have dc4 := tl_eq ix2 tn_3 c4
                exfalso
                omega
              · exact ok_some (ti_bd tn_0 (by omega) (by omega))
            · intro y77 hyy77
              have ly77 := hyy77
              have iy77 : TI y77 (0) := ti_c ly77
              refine ok_ltI (av_add tn_2 iy77 (by omega) (by omega)) (fun x78 ix78 => ?_)
              refine ok_ltI (av_mul ix78 tn_21 (by omega) (by omega)) (fun x79 ix79 => ?_)
              refine ok_ltI (av_add ix79 tn_2 (by omega) (by omega)) (fun x80 ix80 => ?_)
              refine ok_bnd (Q := fun (z : Int32) => (0 ≤ z.toInt ∧ z.toInt ≤ 1)) ?_ ?_
              · refine ok_if (fun c5 => ?_) (fun c5 => ?_)
                · have dc5 := tl_eq ix1 tn_3 c5
                  exact ok_some (ti_bd tn_1 (by omega) (by omega))
                · exact ok_some (ti_bd tn_0 (by omega) (by omega))
              · intro y81 hyy81
                have ly81 := hyy81
                have iy81 : TI y81 y81.toInt := rfl
                refine ok_ltI (av_add ix80 iy81 (by omega) (by omega)) (fun x82 ix82 => ?_)
                refine ok_bnd (Q := fun (z : Int32 × DD) => (0 ≤ z.1.toInt ∧ z.1.toInt ≤ (4 * 4)) ∧ TT G z.2 p w L ∧ Fr p [1] M z.2) (ok_itr (fun (z : Int32 × DD) => (0 ≤ z.1.toInt ∧ z.1.toInt ≤ (4 * 4)) ∧ TT G z.2 p w L ∧ Fr p [1] M z.2) (fun z => ((4 * 4) - z.1.toInt).toNat) ?_ _ _ ?_ ?_) ?_
                · intro s84 hys84
                  obtain ⟨ls84_1, ts84_2, fs84_2⟩ := hys84
                  have is84_1 : TI s84.1 s84.1.toInt := rfl
                  refine ok_ltI (av_mul i3 i3 (by omega) (by omega)) (fun x87 ix87 => ?_)
                  refine ok_if (fun c6 => ?_) (fun c6 => ?_)
                  · have dc6 := tl_le ix87 is84_1 c6
                    exact ok_some ⟨(ti_bd is84_1 (by omega) (by omega)), ts84_2, fs84_2⟩
                  · have dc6 := tl_nle ix87 is84_1 c6
                    refine ok_chk (nz i3 (by omega)) ?_
                    refine ok_ltI (av_div is84_1 i3 (by omega) (by omega)) (fun x89 ix89 => ?_)
                    refine ok_ltI (av_mul ix89 tn_16 (by omega) (by omega)) (fun x90 ix90 => ?_)
                    refine ok_ltI (av_add i5 ix90 (by omega) (by omega)) (fun x91 ix91 => ?_)
                    refine ok_chk (nz i3 (by omega)) ?_
                    refine ok_ltI (av_mod is84_1 i3 (by omega) (by omega)) (fun x92 ix92 => ?_)
                    refine ok_ltI (av_add ix91 ix92 (by omega) (by omega)) (fun x93 ix93 => ?_)
                    refine ok_chk (nz i3 (by omega)) ?_
                    refine ok_ltI (av_div is84_1 i3 (by omega) (by omega)) (fun x94 ix94 => ?_)
                    refine ok_ltI (av_mul ix94 tn_21 (by omega) (by omega)) (fun x95 ix95 => ?_)
                    refine ok_ltI (av_add ix82 ix95 (by omega) (by omega)) (fun x96 ix96 => ?_)
                    refine ok_chk (nz i3 (by omega)) ?_
                    refine ok_ltI (av_mod is84_1 i3 (by omega) (by omega)) (fun x97 ix97 => ?_)
                    refine ok_ltI (av_add ix96 ix97 (by omega) (by omega)) (fun x98 ix98 => ?_)
                    refine ok_dr (f_r (b := 142) ts84_2 rfl (by decide)) (g_lt ts84_2 (by decide)) (g_k ts84_2 (by decide) rfl) ?_
                    refine ok_chk (nxg (g_n (i := 142) (n := 441) ts84_2 (by decide) rfl) ix98 (by omega) (by omega)) ?_
                    refine ok_ltA (fun x100 => ?_)
                    refine ok_dr rfl (g_lt ts84_2 (two_lt hc4)) (gk_two ts84_2 hc4) ?_
                    refine ok_chk (nxg (gl_two ts84_2 hc4) ix93 (by omega) (by omega)) ?_
                    refine ok_ltt (fun M102 eM102 => ?_)
                    have tM102 : TT G M102 p w L := by rw [eM102]; exact (tt_two ts84_2 hc4)
                    have fM102 : Fr p [1] M M102 := by rw [eM102]; exact (fr_w fs84_2 (pc_two hc4 rfl))
                    clear eM102
                    refine ok_ltI (av_add is84_1 tn_1 (by omega) (by omega)) (fun x103 ix103 => ?_)
                    exact ok_some ⟨⟨(ti_bd ix103 (by omega) (by omega)), tM102, fM102⟩, (mu_up ix103 (by omega) (by omega))⟩
                · exact ⟨(ti_bd tn_0 (by omega) (by omega)), ty8, fy8⟩
                · exact mu_0 tn_0 (by omega)
                · intro y83 hyy83
                  obtain ⟨ly83_1, ty83_2, fy83_2⟩ := hyy83
                  have iy83_1 : TI y83.1 y83.1.toInt := rfl
                  exact ok_some ⟨(ti_bd tn_1 (by omega) (by omega)), ty83_2, fy83_2⟩
        · intro y75 hyy75
          obtain ⟨ly75_1, ty75_2, fy75_2⟩ := hyy75
          have iy75_1 : TI y75.1 y75.1.toInt := rfl
          exact ok_some ⟨(ti_bd iy75_1 (by omega) (by omega)), ty75_2, fy75_2⟩
      · refine ok_bnd (Q := fun (z : Int32 × DD) => (0 ≤ z.1.toInt ∧ z.1.toInt ≤ 1) ∧ TT G z.2 p w L ∧ Fr p [1] M z.2) ?_ ?_
        · refine ok_if (fun c7 => ?_) (fun c7 => ?_)
          · have dc7 := tl_eq ix1 tn_0 c7
            refine ok_bnd (Q := fun (z : Int32 × DD) => (0 ≤ z.1.toInt ∧ z.1.toInt ≤ 1) ∧ TT G z.2 p w L ∧ Fr p [1] M z.2) ?_ ?_
            · refine ok_if (fun c8 => ?_) (fun c8 => ?_)
              · have dc8 := tl_eq ix2 tn_2 c8
                exact ok_some ⟨(ti_bd tn_0 (by omega) (by omega)), ty8, fy8⟩
              · refine ok_bnd (Q := fun (z : Int32) => (0 ≤ z.toInt ∧ z.toInt ≤ 1)) ?_ ?_
                · refine ok_if (fun c9 => ?_) (fun c9 => ?_)
                  · have dc9 := tl_eq ix2 tn_3 c9
                    exact ok_some (ti_bd tn_1 (by omega) (by omega))
                  · exact ok_some (ti_bd tn_0 (by omega) (by omega))
                · intro y46 hyy46
                  have ly46 := hyy46
                  have iy46 : TI y46 y46.toInt := rfl
                  refine ok_ltI (av_add tn_2 iy46 (by omega) (by omega)) (fun x47 ix47 => ?_)
                  refine ok_ltI (av_mul ix47 tn_21 (by omega) (by omega)) (fun x48 ix48 => ?_)
                  refine ok_ltI (av_add ix48 tn_2 (by omega) (by omega)) (fun x49 ix49 => ?_)
                  refine ok_bnd (Q := fun (z : Int32) => (0 ≤ z.toInt ∧ z.toInt ≤ 0)) ?_ ?_
                  · refine ok_if (fun c10 => ?_) (fun c10 => ?_)
                    · have dc10 := tl_eq ix1 tn_3 c10
                      exfalso
                      omega
                    · exact ok_some (ti_bd tn_0 (by omega) (by omega))
                  · intro y50 hyy50
                    have ly50 := hyy50
                    have iy50 : TI y50 (0) := ti_c ly50
                    refine ok_ltI (av_add ix49 iy50 (by omega) (by omega)) (fun x51 ix51 => ?_)
                    refine ok_bnd (Q := fun (z : Int32 × DD) => (0 ≤ z.1.toInt ∧ z.1.toInt ≤ (4 * 4)) ∧ TT G z.2 p w L ∧ Fr p [1] M z.2) (ok_itr (fun (z : Int32 × DD) => (0 ≤ z.1.toInt ∧ z.1.toInt ≤ (4 * 4)) ∧ TT G z.2 p w L ∧ Fr p [1] M z.2) (fun z => ((4 * 4) - z.1.toInt).toNat) ?_ _ _ ?_ ?_) ?_
                    · intro s53 hys53
                      obtain ⟨ls53_1, ts53_2, fs53_2⟩ := hys53
                      have is53_1 : TI s53.1 s53.1.toInt := rfl
                      refine ok_ltI (av_mul i3 i3 (by omega) (by omega)) (fun x56 ix56 => ?_)
                      refine ok_if (fun c11 => ?_) (fun c11 => ?_)
                      · have dc11 := tl_le ix56 is53_1 c11
                        exact ok_some ⟨(ti_bd is53_1 (by omega) (by omega)), ts53_2, fs53_2⟩
                      · have dc11 := tl_nle ix56 is53_1 c11
                        refine ok_chk (nz i3 (by omega)) ?_
                        refine ok_ltI (av_div is53_1 i3 (by omega) (by omega)) (fun x58 ix58 => ?_)
                        refine ok_ltI (av_mul ix58 tn_16 (by omega) (by omega)) (fun x59 ix59 => ?_)
                        refine ok_ltI (av_add i5 ix59 (by omega) (by omega)) (fun x60 ix60 => ?_)
                        refine ok_chk (nz i3 (by omega)) ?_
                        refine ok_ltI (av_mod is53_1 i3 (by omega) (by omega)) (fun x61 ix61 => ?_)
                        refine ok_ltI (av_add ix60 ix61 (by omega) (by omega)) (fun x62 ix62 => ?_)
                        refine ok_chk (nz i3 (by omega)) ?_
                        refine ok_ltI (av_div is53_1 i3 (by omega) (by omega)) (fun x63 ix63 => ?_)
                        refine ok_ltI (av_mul ix63 tn_21 (by omega) (by omega)) (fun x64 ix64 => ?_)
                        refine ok_ltI (av_add ix51 ix64 (by omega) (by omega)) (fun x65 ix65 => ?_)
                        refine ok_chk (nz i3 (by omega)) ?_
                        refine ok_ltI (av_mod is53_1 i3 (by omega) (by omega)) (fun x66 ix66 => ?_)
                        refine ok_ltI (av_add ix65 ix66 (by omega) (by omega)) (fun x67 ix67 => ?_)
                        refine ok_dr (f_r (b := 142) ts53_2 rfl (by decide)) (g_lt ts53_2 (by decide)) (g_k ts53_2 (by decide) rfl) ?_
                        refine ok_chk (nxg (g_n (i := 142) (n := 441) ts53_2 (by decide) rfl) ix67 (by omega) (by omega)) ?_
                        refine ok_ltA (fun x69 => ?_)
                        refine ok_dr rfl (g_lt ts53_2 (two_lt hc4)) (gk_two ts53_2 hc4) ?_
                        refine ok_chk (nxg (gl_two ts53_2 hc4) ix62 (by omega) (by omega)) ?_
                        refine ok_ltt (fun M71 eM71 => ?_)
                        have tM71 : TT G M71 p w L := by rw [eM71]; exact (tt_two ts53_2 hc4)
                        have fM71 : Fr p [1] M M71 := by rw [eM71]; exact (fr_w fs53_2 (pc_two hc4 rfl))
                        clear eM71
                        refine ok_ltI (av_add is53_1 tn_1 (by omega) (by omega)) (fun x72 ix72 => ?_)
                        exact ok_some ⟨⟨(ti_bd ix72 (by omega) (by omega)), tM71, fM71⟩, (mu_up ix72 (by omega) (by omega))⟩
                    · exact ⟨(ti_bd tn_0 (by omega) (by omega)), ty8, fy8⟩
                    · exact mu_0 tn_0 (by omega)
                    · intro y52 hyy52
                      obtain ⟨ly52_1, ty52_2, fy52_2⟩ := hyy52
                      have iy52_1 : TI y52.1 y52.1.toInt := rfl
                      exact ok_some ⟨(ti_bd tn_1 (by omega) (by omega)), ty52_2, fy52_2⟩
            · intro y44 hyy44
              obtain ⟨ly44_1, ty44_2, fy44_2⟩ := hyy44
              have iy44_1 : TI y44.1 y44.1.toInt := rfl
              exact ok_some ⟨(ti_bd iy44_1 (by omega) (by omega)), ty44_2, fy44_2⟩
          · exact ok_some ⟨(ti_bd tn_0 (by omega) (by omega)), ty8, fy8⟩
        · intro y42 hyy42
          obtain ⟨ly42_1, ty42_2, fy42_2⟩ := hyy42
          have iy42_1 : TI y42.1 y42.1.toInt := rfl
          exact ok_some ⟨(ti_bd iy42_1 (by omega) (by omega)), ty42_2, fy42_2⟩
    · intro y9 hyy9
      obtain ⟨ly9_1, ty9_2, fy9_2⟩ := hyy9
      have iy9_1 : TI y9.1 y9.1.toInt := rfl
      refine ok_bnd (Q := fun (z : Int32 × DD) => (0 ≤ z.1.toInt ∧ z.1.toInt ≤ 1) ∧ TT G z.2 p w L ∧ Fr p [1] M z.2) ?_ ?_
      · refine ok_if (fun c12 => ?_) (fun c12 => ?_)
        · have dc12 := tl_eq ix1 tn_0 c12
          exact ok_some ⟨(ti_bd iy9_1 (by omega) (by omega)), ty9_2, fy9_2⟩
        · refine ok_bnd (Q := fun (z : Int32 × DD) => (0 ≤ z.1.toInt ∧ z.1.toInt ≤ 1) ∧ TT G z.2 p w L ∧ Fr p [1] M z.2) ?_ ?_
          · refine ok_if (fun c13 => ?_) (fun c13 => ?_)
            · have dc13 := tl_eq ix2 tn_2 c13
              exact ok_some ⟨(ti_bd iy9_1 (by omega) (by omega)), ty9_2, fy9_2⟩
            · refine ok_bnd (Q := fun (z : Int32) => (0 ≤ z.toInt ∧ z.toInt ≤ 1)) ?_ ?_
              · refine ok_if (fun c14 => ?_) (fun c14 => ?_)
                · have dc14 := tl_eq ix2 tn_3 c14
                  exact ok_some (ti_bd tn_1 (by omega) (by omega))
                · exact ok_some (ti_bd tn_0 (by omega) (by omega))
              · intro y37 hyy37
                have ly37 := hyy37
                have iy37 : TI y37 y37.toInt := rfl
                refine ok_ltI (av_add tn_2 iy37 (by omega) (by omega)) (fun x38 ix38 => ?_)
                refine ok_bnd (s_tapRows ty9_2 i3 ix38 rfl hc4 i5 (by omega) (by omega) (by omega) (by omega) (by omega)) ?_
                intro y39 hyy39
                obtain ⟨ty39, gy39⟩ := hyy39
                have fy39 := fr_tr fy9_2 gy39 rfl
                exact ok_some ⟨(ti_bd tn_1 (by omega) (by omega)), ty39, fy39⟩
          · intro y35 hyy35
            obtain ⟨ly35_1, ty35_2, fy35_2⟩ := hyy35
            have iy35_1 : TI y35.1 y35.1.toInt := rfl
            exact ok_some ⟨(ti_bd iy35_1 (by omega) (by omega)), ty35_2, fy35_2⟩
      · intro y10 hyy10
        obtain ⟨ly10_1, ty10_2, fy10_2⟩ := hyy10
        have iy10_1 : TI y10.1 y10.1.toInt := rfl
        refine ok_bnd (Q := fun (z : Int32 × DD) => (0 ≤ z.1.toInt ∧ z.1.toInt ≤ 1) ∧ TT G z.2 p w L ∧ Fr p [1] M z.2) ?_ ?_
        · refine ok_if (fun c15 => ?_) (fun c15 => ?_)
          · have dc15 := tl_eq ix2 tn_0 c15
            exact ok_some ⟨(ti_bd iy10_1 (by omega) (by omega)), ty10_2, fy10_2⟩
          · refine ok_bnd (Q := fun (z : Int32 × DD) => (0 ≤ z.1.toInt ∧ z.1.toInt ≤ 1) ∧ TT G z.2 p w L ∧ Fr p [1] M z.2) ?_ ?_
            · refine ok_if (fun c16 => ?_) (fun c16 => ?_)
              · have dc16 := tl_eq ix1 tn_2 c16
                exact ok_some ⟨(ti_bd iy10_1 (by omega) (by omega)), ty10_2, fy10_2⟩
              · refine ok_bnd (Q := fun (z : Int32) => (0 ≤ z.toInt ∧ z.toInt ≤ 1)) ?_ ?_
                · refine ok_if (fun c17 => ?_) (fun c17 => ?_)
                  · have dc17 := tl_eq ix1 tn_3 c17
                    exact ok_some (ti_bd tn_1 (by omega) (by omega))
                  · exact ok_some (ti_bd tn_0 (by omega) (by omega))
                · intro y30 hyy30
                  have ly30 := hyy30
                  have iy30 : TI y30 y30.toInt := rfl
                  refine ok_ltI (av_add tn_2 iy30 (by omega) (by omega)) (fun x31 ix31 => ?_)
                  refine ok_bnd (s_tapColumns ty10_2 i3 ix31 rfl hc4 i5 (by omega) (by omega) (by omega) (by omega) (by omega)) ?_
                  intro y32 hyy32
                  obtain ⟨ty32, gy32⟩ := hyy32
                  have fy32 := fr_tr fy10_2 gy32 rfl
                  exact ok_some ⟨(ti_bd tn_1 (by omega) (by omega)), ty32, fy32⟩
            · intro y28 hyy28
              obtain ⟨ly28_1, ty28_2, fy28_2⟩ := hyy28
              have iy28_1 : TI y28.1 y28.1.toInt := rfl
              exact ok_some ⟨(ti_bd iy28_1 (by omega) (by omega)), ty28_2, fy28_2⟩
        · intro y11 hyy11
          obtain ⟨ly11_1, ty11_2, fy11_2⟩ := hyy11
          have iy11_1 : TI y11.1 y11.1.toInt := rfl
          refine ok_bnd (Q := fun (z : DD) => TT G z p w L ∧ Fr p [1] M z) ?_ ?_
          · refine ok_if (fun c18 => ?_) (fun c18 => ?_)
            · have dc18 := tl_eq ix1 tn_2 c18
              refine ok_bnd (Q := fun (z : DD) => TT G z p w L ∧ Fr p [1] M z) ?_ ?_
              · refine ok_if (fun c19 => ?_) (fun c19 => ?_)
                · have dc19 := tl_eq ix2 tn_0 c19
                  refine ok_bnd (Q := fun (z : DD) => TT G z p w L ∧ Fr p [1] M z) ?_ ?_
                  · refine ok_if (fun c20 => ?_) (fun c20 => ?_)
                    · have dc20 := tl_eq ix2 tn_2 c20
                      exfalso
                      omega
                    · exact ok_some ⟨ty11_2, fy11_2⟩
                  · intro y22 hyy22
                    obtain ⟨ty22, fy22⟩ := hyy22
                    exact ok_some ⟨ty22, fy22⟩
                · refine ok_bnd (s_tapBoth ty11_2 i3 rfl hc4 i5 (by omega) (by omega) (by omega)) ?_
                  intro y21 hyy21
                  obtain ⟨ty21, gy21⟩ := hyy21
                  have fy21 := fr_tr fy11_2 gy21 rfl
                  exact ok_some ⟨ty21, fy21⟩
              · intro y19 hyy19
                obtain ⟨ty19, fy19⟩ := hyy19
                exact ok_some ⟨ty19, fy19⟩
            · refine ok_bnd (Q := fun (z : DD) => TT G z p w L ∧ Fr p [1] M z) ?_ ?_
              · refine ok_if (fun c21 => ?_) (fun c21 => ?_)
                · have dc21 := tl_eq ix2 tn_2 c21
                  refine ok_bnd (Q := fun (z : DD) => TT G z p w L ∧ Fr p [1] M z) ?_ ?_
                  · refine ok_if (fun c22 => ?_) (fun c22 => ?_)
                    · have dc22 := tl_eq ix1 tn_0 c22
                      exact ok_some ⟨ty11_2, fy11_2⟩
                    · refine ok_bnd (s_tapBoth ty11_2 i3 rfl hc4 i5 (by omega) (by omega) (by omega)) ?_
                      intro y18 hyy18
                      obtain ⟨ty18, gy18⟩ := hyy18
                      have fy18 := fr_tr fy11_2 gy18 rfl
                      exact ok_some ⟨ty18, fy18⟩
                  · intro y16 hyy16
                    obtain ⟨ty16, fy16⟩ := hyy16
                    exact ok_some ⟨ty16, fy16⟩
                · exact ok_some ⟨ty11_2, fy11_2⟩
              · intro y14 hyy14
                obtain ⟨ty14, fy14⟩ := hyy14
                exact ok_some ⟨ty14, fy14⟩
          · intro y12 hyy12
            obtain ⟨ty12, fy12⟩ := hyy12
            exact ok_some ⟨ty12, fy12⟩
  · refine ok_ltI (av_and 2 i1 (by decide) (by decide)) (fun x1 ix1 => ?_)
    refine ok_ltI (av_and 2 i2 (by decide) (by decide)) (fun x2 ix2 => ?_)
    refine ok_ltI (av_sar 2 i1 (by decide)) (fun x3 ix3 => ?_)
    refine ok_ltI (av_sub ix3 tn_2 (by omega) (by omega)) (fun x4 ix4 => ?_)
    refine ok_ltI (av_sar 2 i2 (by decide)) (fun x5 ix5 => ?_)
    refine ok_ltI (av_sub ix5 tn_2 (by omega) (by omega)) (fun x6 ix6 => ?_)
    refine ok_ltI (av_add i3 tn_5 (by omega) (by omega)) (fun x7 ix7 => ?_)
    refine ok_bnd (s_fillWindow t rfl hq0 ix4 ix6 ix7 (by omega) (by omega) (by omega) (by omega) (by omega) (by omega)) ?_
    intro y8 hyy8
    obtain ⟨ty8, gy8⟩ := hyy8
    have fy8 := fr_tr (fr_0 p [1] M) gy8 rfl
    refine ok_bnd (Q := fun (z : Int32 × DD) => (0 ≤ z.1.toInt ∧ z.1.toInt ≤ 1) ∧ TT G z.2 p w L ∧ Fr p [1] M z.2) ?_ ?_
    · refine ok_if (fun c1 => ?_) (fun c1 => ?_)
      · have dc1 := tl_eq ix2 tn_0 c1
        refine ok_bnd (Q := fun (z : Int32 × DD) => (0 ≤ z.1.toInt ∧ z.1.toInt ≤ 1) ∧ TT G z.2 p w L ∧ Fr p [1] M z.2) ?_ ?_
        · refine ok_if (fun c2 => ?_) (fun c2 => ?_)
          · have dc2 := tl_eq ix1 tn_2 c2
            refine ok_bnd (Q := fun (z : Int32 × DD) => (0 ≤ z.1.toInt ∧ z.1.toInt ≤ 0) ∧ TT G z.2 p w L ∧ Fr p [1] M z.2) ?_ ?_
            · refine ok_if (fun c3 => ?_) (fun c3 => ?_)
              · have dc3 := tl_eq ix1 tn_0 c3
                exfalso
                omega
              · exact ok_some ⟨(ti_bd tn_0 (by omega) (by omega)), ty8, fy8⟩
            · intro y106 hyy106
              obtain ⟨ly106_1, ty106_2, fy106_2⟩ := hyy106
              have iy106_1 : TI y106.1 (0) := ti_c ly106_1
              exact ok_some ⟨(ti_bd iy106_1 (by omega) (by omega)), ty106_2, fy106_2⟩
          · refine ok_bnd (Q := fun (z : Int32) => (0 ≤ z.toInt ∧ z.toInt ≤ 0)) ?_ ?_
            · refine ok_if (fun c4 => ?_) (fun c4 => ?_)
              · have dc4 := tl_eq ix2 tn_3 c4
                exfalso
                omega
              · exact ok_some (ti_bd tn_0 (by omega) (by omega))
            · intro y77 hyy77
              have ly77 := hyy77
              have iy77 : TI y77 (0) := ti_c ly77
              refine ok_ltI (av_add tn_2 iy77 (by omega) (by omega)) (fun x78 ix78 => ?_)
              refine ok_ltI (av_mul ix78 tn_21 (by omega) (by omega)) (fun x79 ix79 => ?_)
              refine ok_ltI (av_add ix79 tn_2 (by omega) (by omega)) (fun x80 ix80 => ?_)
              refine ok_bnd (Q := fun (z : Int32) => (0 ≤ z.toInt ∧ z.toInt ≤ 1)) ?_ ?_
              · refine ok_if (fun c5 => ?_) (fun c5 => ?_)
                · have dc5 := tl_eq ix1 tn_3 c5
                  exact ok_some (ti_bd tn_1 (by omega) (by omega))
                · exact ok_some (ti_bd tn_0 (by omega) (by omega))
              · intro y81 hyy81
                have ly81 := hyy81
                have iy81 : TI y81 y81.toInt := rfl
                refine ok_ltI (av_add ix80 iy81 (by omega) (by omega)) (fun x82 ix82 => ?_)
                refine ok_bnd (Q := fun (z : Int32 × DD) => (0 ≤ z.1.toInt ∧ z.1.toInt ≤ (8 * 8)) ∧ TT G z.2 p w L ∧ Fr p [1] M z.2) (ok_itr (fun (z : Int32 × DD) => (0 ≤ z.1.toInt ∧ z.1.toInt ≤ (8 * 8)) ∧ TT G z.2 p w L ∧ Fr p [1] M z.2) (fun z => ((8 * 8) - z.1.toInt).toNat) ?_ _ _ ?_ ?_) ?_
                · intro s84 hys84
                  obtain ⟨ls84_1, ts84_2, fs84_2⟩ := hys84
                  have is84_1 : TI s84.1 s84.1.toInt := rfl
                  refine ok_ltI (av_mul i3 i3 (by omega) (by omega)) (fun x87 ix87 => ?_)
                  refine ok_if (fun c6 => ?_) (fun c6 => ?_)
                  · have dc6 := tl_le ix87 is84_1 c6
                    exact ok_some ⟨(ti_bd is84_1 (by omega) (by omega)), ts84_2, fs84_2⟩
                  · have dc6 := tl_nle ix87 is84_1 c6
                    refine ok_chk (nz i3 (by omega)) ?_
                    refine ok_ltI (av_div is84_1 i3 (by omega) (by omega)) (fun x89 ix89 => ?_)
                    refine ok_ltI (av_mul ix89 tn_16 (by omega) (by omega)) (fun x90 ix90 => ?_)
                    refine ok_ltI (av_add i5 ix90 (by omega) (by omega)) (fun x91 ix91 => ?_)
                    refine ok_chk (nz i3 (by omega)) ?_
                    refine ok_ltI (av_mod is84_1 i3 (by omega) (by omega)) (fun x92 ix92 => ?_)
                    refine ok_ltI (av_add ix91 ix92 (by omega) (by omega)) (fun x93 ix93 => ?_)
                    refine ok_chk (nz i3 (by omega)) ?_
                    refine ok_ltI (av_div is84_1 i3 (by omega) (by omega)) (fun x94 ix94 => ?_)
                    refine ok_ltI (av_mul ix94 tn_21 (by omega) (by omega)) (fun x95 ix95 => ?_)
                    refine ok_ltI (av_add ix82 ix95 (by omega) (by omega)) (fun x96 ix96 => ?_)
                    refine ok_chk (nz i3 (by omega)) ?_
                    refine ok_ltI (av_mod is84_1 i3 (by omega) (by omega)) (fun x97 ix97 => ?_)
                    refine ok_ltI (av_add ix96 ix97 (by omega) (by omega)) (fun x98 ix98 => ?_)
                    refine ok_dr (f_r (b := 142) ts84_2 rfl (by decide)) (g_lt ts84_2 (by decide)) (g_k ts84_2 (by decide) rfl) ?_
                    refine ok_chk (nxg (g_n (i := 142) (n := 441) ts84_2 (by decide) rfl) ix98 (by omega) (by omega)) ?_
                    refine ok_ltA (fun x100 => ?_)
                    refine ok_dr rfl (g_lt ts84_2 (two_lt hc4)) (gk_two ts84_2 hc4) ?_
                    refine ok_chk (nxg (gl_two ts84_2 hc4) ix93 (by omega) (by omega)) ?_
                    refine ok_ltt (fun M102 eM102 => ?_)
                    have tM102 : TT G M102 p w L := by rw [eM102]; exact (tt_two ts84_2 hc4)
                    have fM102 : Fr p [1] M M102 := by rw [eM102]; exact (fr_w fs84_2 (pc_two hc4 rfl))
                    clear eM102
                    refine ok_ltI (av_add is84_1 tn_1 (by omega) (by omega)) (fun x103 ix103 => ?_)
                    exact ok_some ⟨⟨(ti_bd ix103 (by omega) (by omega)), tM102, fM102⟩, (mu_up ix103 (by omega) (by omega))⟩
                · exact ⟨(ti_bd tn_0 (by omega) (by omega)), ty8, fy8⟩
                · exact mu_0 tn_0 (by omega)
                · intro y83 hyy83
                  obtain ⟨ly83_1, ty83_2, fy83_2⟩ := hyy83
                  have iy83_1 : TI y83.1 y83.1.toInt := rfl
                  exact ok_some ⟨(ti_bd tn_1 (by omega) (by omega)), ty83_2, fy83_2⟩
        · intro y75 hyy75
          obtain ⟨ly75_1, ty75_2, fy75_2⟩ := hyy75
          have iy75_1 : TI y75.1 y75.1.toInt := rfl
          exact ok_some ⟨(ti_bd iy75_1 (by omega) (by omega)), ty75_2, fy75_2⟩
      · refine ok_bnd (Q := fun (z : Int32 × DD) => (0 ≤ z.1.toInt ∧ z.1.toInt ≤ 1) ∧ TT G z.2 p w L ∧ Fr p [1] M z.2) ?_ ?_
        · refine ok_if (fun c7 => ?_) (fun c7 => ?_)
          · have dc7 := tl_eq ix1 tn_0 c7
            refine ok_bnd (Q := fun (z : Int32 × DD) => (0 ≤ z.1.toInt ∧ z.1.toInt ≤ 1) ∧ TT G z.2 p w L ∧ Fr p [1] M z.2) ?_ ?_
            · refine ok_if (fun c8 => ?_) (fun c8 => ?_)
              · have dc8 := tl_eq ix2 tn_2 c8
                exact ok_some ⟨(ti_bd tn_0 (by omega) (by omega)), ty8, fy8⟩
              · refine ok_bnd (Q := fun (z : Int32) => (0 ≤ z.toInt ∧ z.toInt ≤ 1)) ?_ ?_
                · refine ok_if (fun c9 => ?_) (fun c9 => ?_)
                  · have dc9 := tl_eq ix2 tn_3 c9
                    exact ok_some (ti_bd tn_1 (by omega) (by omega))
                  · exact ok_some (ti_bd tn_0 (by omega) (by omega))
                · intro y46 hyy46
                  have ly46 := hyy46
                  have iy46 : TI y46 y46.toInt := rfl
                  refine ok_ltI (av_add tn_2 iy46 (by omega) (by omega)) (fun x47 ix47 => ?_)
                  refine ok_ltI (av_mul ix47 tn_21 (by omega) (by omega)) (fun x48 ix48 => ?_)
                  refine ok_ltI (av_add ix48 tn_2 (by omega) (by omega)) (fun x49 ix49 => ?_)
                  refine ok_bnd (Q := fun (z : Int32) => (0 ≤ z.toInt ∧ z.toInt ≤ 0)) ?_ ?_
                  · refine ok_if (fun c10 => ?_) (fun c10 => ?_)
                    · have dc10 := tl_eq ix1 tn_3 c10
                      exfalso
                      omega
                    · exact ok_some (ti_bd tn_0 (by omega) (by omega))
                  · intro y50 hyy50
                    have ly50 := hyy50
                    have iy50 : TI y50 (0) := ti_c ly50
                    refine ok_ltI (av_add ix49 iy50 (by omega) (by omega)) (fun x51 ix51 => ?_)
                    refine ok_bnd (Q := fun (z : Int32 × DD) => (0 ≤ z.1.toInt ∧ z.1.toInt ≤ (8 * 8)) ∧ TT G z.2 p w L ∧ Fr p [1] M z.2) (ok_itr (fun (z : Int32 × DD) => (0 ≤ z.1.toInt ∧ z.1.toInt ≤ (8 * 8)) ∧ TT G z.2 p w L ∧ Fr p [1] M z.2) (fun z => ((8 * 8) - z.1.toInt).toNat) ?_ _ _ ?_ ?_) ?_
                    · intro s53 hys53
                      obtain ⟨ls53_1, ts53_2, fs53_2⟩ := hys53
                      have is53_1 : TI s53.1 s53.1.toInt := rfl
                      refine ok_ltI (av_mul i3 i3 (by omega) (by omega)) (fun x56 ix56 => ?_)
                      refine ok_if (fun c11 => ?_) (fun c11 => ?_)
                      · have dc11 := tl_le ix56 is53_1 c11
                        exact ok_some ⟨(ti_bd is53_1 (by omega) (by omega)), ts53_2, fs53_2⟩
                      · have dc11 := tl_nle ix56 is53_1 c11
                        refine ok_chk (nz i3 (by omega)) ?_
                        refine ok_ltI (av_div is53_1 i3 (by omega) (by omega)) (fun x58 ix58 => ?_)
                        refine ok_ltI (av_mul ix58 tn_16 (by omega) (by omega)) (fun x59 ix59 => ?_)
                        refine ok_ltI (av_add i5 ix59 (by omega) (by omega)) (fun x60 ix60 => ?_)
                        refine ok_chk (nz i3 (by omega)) ?_
                        refine ok_ltI (av_mod is53_1 i3 (by omega) (by omega)) (fun x61 ix61 => ?_)
                        refine ok_ltI (av_add ix60 ix61 (by omega) (by omega)) (fun x62 ix62 => ?_)
                        refine ok_chk (nz i3 (by omega)) ?_
                        refine ok_ltI (av_div is53_1 i3 (by omega) (by omega)) (fun x63 ix63 => ?_)
                        refine ok_ltI (av_mul ix63 tn_21 (by omega) (by omega)) (fun x64 ix64 => ?_)
                        refine ok_ltI (av_add ix51 ix64 (by omega) (by omega)) (fun x65 ix65 => ?_)
                        refine ok_chk (nz i3 (by omega)) ?_
                        refine ok_ltI (av_mod is53_1 i3 (by omega) (by omega)) (fun x66 ix66 => ?_)
                        refine ok_ltI (av_add ix65 ix66 (by omega) (by omega)) (fun x67 ix67 => ?_)
                        refine ok_dr (f_r (b := 142) ts53_2 rfl (by decide)) (g_lt ts53_2 (by decide)) (g_k ts53_2 (by decide) rfl) ?_
                        refine ok_chk (nxg (g_n (i := 142) (n := 441) ts53_2 (by decide) rfl) ix67 (by omega) (by omega)) ?_
                        refine ok_ltA (fun x69 => ?_)
                        refine ok_dr rfl (g_lt ts53_2 (two_lt hc4)) (gk_two ts53_2 hc4) ?_
                        refine ok_chk (nxg (gl_two ts53_2 hc4) ix62 (by omega) (by omega)) ?_
                        refine ok_ltt (fun M71 eM71 => ?_)
                        have tM71 : TT G M71 p w L := by rw [eM71]; exact (tt_two ts53_2 hc4)
                        have fM71 : Fr p [1] M M71 := by rw [eM71]; exact (fr_w fs53_2 (pc_two hc4 rfl))
                        clear eM71
                        refine ok_ltI (av_add is53_1 tn_1 (by omega) (by omega)) (fun x72 ix72 => ?_)
                        exact ok_some ⟨⟨(ti_bd ix72 (by omega) (by omega)), tM71, fM71⟩, (mu_up ix72 (by omega) (by omega))⟩
                    · exact ⟨(ti_bd tn_0 (by omega) (by omega)), ty8, fy8⟩
                    · exact mu_0 tn_0 (by omega)
                    · intro y52 hyy52
                      obtain ⟨ly52_1, ty52_2, fy52_2⟩ := hyy52
                      have iy52_1 : TI y52.1 y52.1.toInt := rfl
                      exact ok_some ⟨(ti_bd tn_1 (by omega) (by omega)), ty52_2, fy52_2⟩
            · intro y44 hyy44
              obtain ⟨ly44_1, ty44_2, fy44_2⟩ := hyy44
              have iy44_1 : TI y44.1 y44.1.toInt := rfl
              exact ok_some ⟨(ti_bd iy44_1 (by omega) (by omega)), ty44_2, fy44_2⟩
          · exact ok_some ⟨(ti_bd tn_0 (by omega) (by omega)), ty8, fy8⟩
        · intro y42 hyy42
          obtain ⟨ly42_1, ty42_2, fy42_2⟩ := hyy42
          have iy42_1 : TI y42.1 y42.1.toInt := rfl
          exact ok_some ⟨(ti_bd iy42_1 (by omega) (by omega)), ty42_2, fy42_2⟩
    · intro y9 hyy9
      obtain ⟨ly9_1, ty9_2, fy9_2⟩ := hyy9
      have iy9_1 : TI y9.1 y9.1.toInt := rfl
      refine ok_bnd (Q := fun (z : Int32 × DD) => (0 ≤ z.1.toInt ∧ z.1.toInt ≤ 1) ∧ TT G z.2 p w L ∧ Fr p [1] M z.2) ?_ ?_
      · refine ok_if (fun c12 => ?_) (fun c12 => ?_)
        · have dc12 := tl_eq ix1 tn_0 c12
          exact ok_some ⟨(ti_bd iy9_1 (by omega) (by omega)), ty9_2, fy9_2⟩
        · refine ok_bnd (Q := fun (z : Int32 × DD) => (0 ≤ z.1.toInt ∧ z.1.toInt ≤ 1) ∧ TT G z.2 p w L ∧ Fr p [1] M z.2) ?_ ?_
          · refine ok_if (fun c13 => ?_) (fun c13 => ?_)
            · have dc13 := tl_eq ix2 tn_2 c13
              exact ok_some ⟨(ti_bd iy9_1 (by omega) (by omega)), ty9_2, fy9_2⟩
            · refine ok_bnd (Q := fun (z : Int32) => (0 ≤ z.toInt ∧ z.toInt ≤ 1)) ?_ ?_
              · refine ok_if (fun c14 => ?_) (fun c14 => ?_)
                · have dc14 := tl_eq ix2 tn_3 c14
                  exact ok_some (ti_bd tn_1 (by omega) (by omega))
                · exact ok_some (ti_bd tn_0 (by omega) (by omega))
              · intro y37 hyy37
                have ly37 := hyy37
                have iy37 : TI y37 y37.toInt := rfl
                refine ok_ltI (av_add tn_2 iy37 (by omega) (by omega)) (fun x38 ix38 => ?_)
                refine ok_bnd (s_tapRows ty9_2 i3 ix38 rfl hc4 i5 (by omega) (by omega) (by omega) (by omega) (by omega)) ?_
                intro y39 hyy39
                obtain ⟨ty39, gy39⟩ := hyy39
                have fy39 := fr_tr fy9_2 gy39 rfl
                exact ok_some ⟨(ti_bd tn_1 (by omega) (by omega)), ty39, fy39⟩
          · intro y35 hyy35
            obtain ⟨ly35_1, ty35_2, fy35_2⟩ := hyy35
            have iy35_1 : TI y35.1 y35.1.toInt := rfl
            exact ok_some ⟨(ti_bd iy35_1 (by omega) (by omega)), ty35_2, fy35_2⟩
      · intro y10 hyy10
        obtain ⟨ly10_1, ty10_2, fy10_2⟩ := hyy10
        have iy10_1 : TI y10.1 y10.1.toInt := rfl
        refine ok_bnd (Q := fun (z : Int32 × DD) => (0 ≤ z.1.toInt ∧ z.1.toInt ≤ 1) ∧ TT G z.2 p w L ∧ Fr p [1] M z.2) ?_ ?_
        · refine ok_if (fun c15 => ?_) (fun c15 => ?_)
          · have dc15 := tl_eq ix2 tn_0 c15
            exact ok_some ⟨(ti_bd iy10_1 (by omega) (by omega)), ty10_2, fy10_2⟩
          · refine ok_bnd (Q := fun (z : Int32 × DD) => (0 ≤ z.1.toInt ∧ z.1.toInt ≤ 1) ∧ TT G z.2 p w L ∧ Fr p [1] M z.2) ?_ ?_
            · refine ok_if (fun c16 => ?_) (fun c16 => ?_)
              · have dc16 := tl_eq ix1 tn_2 c16
                exact ok_some ⟨(ti_bd iy10_1 (by omega) (by omega)), ty10_2, fy10_2⟩
              · refine ok_bnd (Q := fun (z : Int32) => (0 ≤ z.toInt ∧ z.toInt ≤ 1)) ?_ ?_
                · refine ok_if (fun c17 => ?_) (fun c17 => ?_)
                  · have dc17 := tl_eq ix1 tn_3 c17
                    exact ok_some (ti_bd tn_1 (by omega) (by omega))
                  · exact ok_some (ti_bd tn_0 (by omega) (by omega))
                · intro y30 hyy30
                  have ly30 := hyy30
                  have iy30 : TI y30 y30.toInt := rfl
                  refine ok_ltI (av_add tn_2 iy30 (by omega) (by omega)) (fun x31 ix31 => ?_)
                  refine ok_bnd (s_tapColumns ty10_2 i3 ix31 rfl hc4 i5 (by omega) (by omega) (by omega) (by omega) (by omega)) ?_
                  intro y32 hyy32
                  obtain ⟨ty32, gy32⟩ := hyy32
                  have fy32 := fr_tr fy10_2 gy32 rfl
                  exact ok_some ⟨(ti_bd tn_1 (by omega) (by omega)), ty32, fy32⟩
            · intro y28 hyy28
              obtain ⟨ly28_1, ty28_2, fy28_2⟩ := hyy28
              have iy28_1 : TI y28.1 y28.1.toInt := rfl
              exact ok_some ⟨(ti_bd iy28_1 (by omega) (by omega)), ty28_2, fy28_2⟩
        · intro y11 hyy11
          obtain ⟨ly11_1, ty11_2, fy11_2⟩ := hyy11
          have iy11_1 : TI y11.1 y11.1.toInt := rfl
          refine ok_bnd (Q := fun (z : DD) => TT G z p w L ∧ Fr p [1] M z) ?_ ?_
          · refine ok_if (fun c18 => ?_) (fun c18 => ?_)
            · have dc18 := tl_eq ix1 tn_2 c18
              refine ok_bnd (Q := fun (z : DD) => TT G z p w L ∧ Fr p [1] M z) ?_ ?_
              · refine ok_if (fun c19 => ?_) (fun c19 => ?_)
                · have dc19 := tl_eq ix2 tn_0 c19
                  refine ok_bnd (Q := fun (z : DD) => TT G z p w L ∧ Fr p [1] M z) ?_ ?_
                  · refine ok_if (fun c20 => ?_) (fun c20 => ?_)
                    · have dc20 := tl_eq ix2 tn_2 c20
                      exfalso
                      omega
                    · exact ok_some ⟨ty11_2, fy11_2⟩
                  · intro y22 hyy22
                    obtain ⟨ty22, fy22⟩ := hyy22
                    exact ok_some ⟨ty22, fy22⟩
                · refine ok_bnd (s_tapBoth ty11_2 i3 rfl hc4 i5 (by omega) (by omega) (by omega)) ?_
                  intro y21 hyy21
                  obtain ⟨ty21, gy21⟩ := hyy21
                  have fy21 := fr_tr fy11_2 gy21 rfl
                  exact ok_some ⟨ty21, fy21⟩
              · intro y19 hyy19
                obtain ⟨ty19, fy19⟩ := hyy19
                exact ok_some ⟨ty19, fy19⟩
            · refine ok_bnd (Q := fun (z : DD) => TT G z p w L ∧ Fr p [1] M z) ?_ ?_
              · refine ok_if (fun c21 => ?_) (fun c21 => ?_)
                · have dc21 := tl_eq ix2 tn_2 c21
                  refine ok_bnd (Q := fun (z : DD) => TT G z p w L ∧ Fr p [1] M z) ?_ ?_
                  · refine ok_if (fun c22 => ?_) (fun c22 => ?_)
                    · have dc22 := tl_eq ix1 tn_0 c22
                      exact ok_some ⟨ty11_2, fy11_2⟩
                    · refine ok_bnd (s_tapBoth ty11_2 i3 rfl hc4 i5 (by omega) (by omega) (by omega)) ?_
                      intro y18 hyy18
                      obtain ⟨ty18, gy18⟩ := hyy18
                      have fy18 := fr_tr fy11_2 gy18 rfl
                      exact ok_some ⟨ty18, fy18⟩
                  · intro y16 hyy16
                    obtain ⟨ty16, fy16⟩ := hyy16
                    exact ok_some ⟨ty16, fy16⟩
                · exact ok_some ⟨ty11_2, fy11_2⟩
              · intro y14 hyy14
                obtain ⟨ty14, fy14⟩ := hyy14
                exact ok_some ⟨ty14, fy14⟩
          · intro y12 hyy12
            obtain ⟨ty12, fy12⟩ := hyy12
            exact ok_some ⟨ty12, fy12⟩
  · refine ok_ltI (av_and 2 i1 (by decide) (by decide)) (fun x1 ix1 => ?_)
    refine ok_ltI (av_and 2 i2 (by decide) (by decide)) (fun x2 ix2 => ?_)
    refine ok_ltI (av_sar 2 i1 (by decide)) (fun x3 ix3 => ?_)
    refine ok_ltI (av_sub ix3 tn_2 (by omega) (by omega)) (fun x4 ix4 => ?_)
    refine ok_ltI (av_sar 2 i2 (by decide)) (fun x5 ix5 => ?_)
    refine ok_ltI (av_sub ix5 tn_2 (by omega) (by omega)) (fun x6 ix6 => ?_)
    refine ok_ltI (av_add i3 tn_5 (by omega) (by omega)) (fun x7 ix7 => ?_)
    refine ok_bnd (s_fillWindow t rfl hq0 ix4 ix6 ix7 (by omega) (by omega) (by omega) (by omega) (by omega) (by omega)) ?_
    intro y8 hyy8
    obtain ⟨ty8, gy8⟩ := hyy8
    have fy8 := fr_tr (fr_0 p [1] M) gy8 rfl
    refine ok_bnd (Q := fun (z : Int32 × DD) => (0 ≤ z.1.toInt ∧ z.1.toInt ≤ 1) ∧ TT G z.2 p w L ∧ Fr p [1] M z.2) ?_ ?_
    · refine ok_if (fun c1 => ?_) (fun c1 => ?_)
      · have dc1 := tl_eq ix2 tn_0 c1
        refine ok_bnd (Q := fun (z : Int32 × DD) => (0 ≤ z.1.toInt ∧ z.1.toInt ≤ 1) ∧ TT G z.2 p w L ∧ Fr p [1] M z.2) ?_ ?_
        · refine ok_if (fun c2 => ?_) (fun c2 => ?_)
          · have dc2 := tl_eq ix1 tn_2 c2
            refine ok_bnd (Q := fun (z : Int32 × DD) => (0 ≤ z.1.toInt ∧ z.1.toInt ≤ 0) ∧ TT G z.2 p w L ∧ Fr p [1] M z.2) ?_ ?_
            · refine ok_if (fun c3 => ?_) (fun c3 => ?_)
              · have dc3 := tl_eq ix1 tn_0 c3
                exfalso
                omega
              · exact ok_some ⟨(ti_bd tn_0 (by omega) (by omega)), ty8, fy8⟩
            · intro y106 hyy106
              obtain ⟨ly106_1, ty106_2, fy106_2⟩ := hyy106
              have iy106_1 : TI y106.1 (0) := ti_c ly106_1
              exact ok_some ⟨(ti_bd iy106_1 (by omega) (by omega)), ty106_2, fy106_2⟩
          · refine ok_bnd (Q := fun (z : Int32) => (0 ≤ z.toInt ∧ z.toInt ≤ 0)) ?_ ?_
            · refine ok_if (fun c4 => ?_) (fun c4 => ?_)
              · have dc4 := tl_eq ix2 tn_3 c4
                exfalso
                omega
              · exact ok_some (ti_bd tn_0 (by omega) (by omega))
            · intro y77 hyy77
              have ly77 := hyy77
              have iy77 : TI y77 (0) := ti_c ly77
              refine ok_ltI (av_add tn_2 iy77 (by omega) (by omega)) (fun x78 ix78 => ?_)
              refine ok_ltI (av_mul ix78 tn_21 (by omega) (by omega)) (fun x79 ix79 => ?_)
              refine ok_ltI (av_add ix79 tn_2 (by omega) (by omega)) (fun x80 ix80 => ?_)
              refine ok_bnd (Q := fun (z : Int32) => (0 ≤ z.toInt ∧ z.toInt ≤ 1)) ?_ ?_
              · refine ok_if (fun c5 => ?_) (fun c5 => ?_)
                · have dc5 := tl_eq ix1 tn_3 c5
                  exact ok_some (ti_bd tn_1 (by omega) (by omega))
                · exact ok_some (ti_bd tn_0 (by omega) (by omega))
              · intro y81 hyy81
                have ly81 := hyy81
                have iy81 : TI y81 y81.toInt := rfl
                refine ok_ltI (av_add ix80 iy81 (by omega) (by omega)) (fun x82 ix82 => ?_)
                refine ok_bnd (Q := fun (z : Int32 × DD) => (0 ≤ z.1.toInt ∧ z.1.toInt ≤ (16 * 16)) ∧ TT G z.2 p w L ∧ Fr p [1] M z.2) (ok_itr (fun (z : Int32 × DD) => (0 ≤ z.1.toInt ∧ z.1.toInt ≤ (16 * 16)) ∧ TT G z.2 p w L ∧ Fr p [1] M z.2) (fun z => ((16 * 16) - z.1.toInt).toNat) ?_ _ _ ?_ ?_) ?_
                · intro s84 hys84
                  obtain ⟨ls84_1, ts84_2, fs84_2⟩ := hys84
                  have is84_1 : TI s84.1 s84.1.toInt := rfl
                  refine ok_ltI (av_mul i3 i3 (by omega) (by omega)) (fun x87 ix87 => ?_)
                  refine ok_if (fun c6 => ?_) (fun c6 => ?_)
                  · have dc6 := tl_le ix87 is84_1 c6
                    exact ok_some ⟨(ti_bd is84_1 (by omega) (by omega)), ts84_2, fs84_2⟩
                  · have dc6 := tl_nle ix87 is84_1 c6
                    refine ok_chk (nz i3 (by omega)) ?_
                    refine ok_ltI (av_div is84_1 i3 (by omega) (by omega)) (fun x89 ix89 => ?_)
                    refine ok_ltI (av_mul ix89 tn_16 (by omega) (by omega)) (fun x90 ix90 => ?_)
                    refine ok_ltI (av_add i5 ix90 (by omega) (by omega)) (fun x91 ix91 => ?_)
                    refine ok_chk (nz i3 (by omega)) ?_
                    refine ok_ltI (av_mod is84_1 i3 (by omega) (by omega)) (fun x92 ix92 => ?_)
                    refine ok_ltI (av_add ix91 ix92 (by omega) (by omega)) (fun x93 ix93 => ?_)
                    refine ok_chk (nz i3 (by omega)) ?_
                    refine ok_ltI (av_div is84_1 i3 (by omega) (by omega)) (fun x94 ix94 => ?_)
                    refine ok_ltI (av_mul ix94 tn_21 (by omega) (by omega)) (fun x95 ix95 => ?_)
                    refine ok_ltI (av_add ix82 ix95 (by omega) (by omega)) (fun x96 ix96 => ?_)
                    refine ok_chk (nz i3 (by omega)) ?_
                    refine ok_ltI (av_mod is84_1 i3 (by omega) (by omega)) (fun x97 ix97 => ?_)
                    refine ok_ltI (av_add ix96 ix97 (by omega) (by omega)) (fun x98 ix98 => ?_)
                    refine ok_dr (f_r (b := 142) ts84_2 rfl (by decide)) (g_lt ts84_2 (by decide)) (g_k ts84_2 (by decide) rfl) ?_
                    refine ok_chk (nxg (g_n (i := 142) (n := 441) ts84_2 (by decide) rfl) ix98 (by omega) (by omega)) ?_
                    refine ok_ltA (fun x100 => ?_)
                    refine ok_dr rfl (g_lt ts84_2 (two_lt hc4)) (gk_two ts84_2 hc4) ?_
                    refine ok_chk (nxg (gl_two ts84_2 hc4) ix93 (by omega) (by omega)) ?_
                    refine ok_ltt (fun M102 eM102 => ?_)
                    have tM102 : TT G M102 p w L := by rw [eM102]; exact (tt_two ts84_2 hc4)
                    have fM102 : Fr p [1] M M102 := by rw [eM102]; exact (fr_w fs84_2 (pc_two hc4 rfl))
                    clear eM102
                    refine ok_ltI (av_add is84_1 tn_1 (by omega) (by omega)) (fun x103 ix103 => ?_)
                    exact ok_some ⟨⟨(ti_bd ix103 (by omega) (by omega)), tM102, fM102⟩, (mu_up ix103 (by omega) (by omega))⟩
                · exact ⟨(ti_bd tn_0 (by omega) (by omega)), ty8, fy8⟩
                · exact mu_0 tn_0 (by omega)
                · intro y83 hyy83
                  obtain ⟨ly83_1, ty83_2, fy83_2⟩ := hyy83
                  have iy83_1 : TI y83.1 y83.1.toInt := rfl
                  exact ok_some ⟨(ti_bd tn_1 (by omega) (by omega)), ty83_2, fy83_2⟩
        · intro y75 hyy75
          obtain ⟨ly75_1, ty75_2, fy75_2⟩ := hyy75
          have iy75_1 : TI y75.1 y75.1.toInt := rfl
          exact ok_some ⟨(ti_bd iy75_1 (by omega) (by omega)), ty75_2, fy75_2⟩
      · refine ok_bnd (Q := fun (z : Int32 × DD) => (0 ≤ z.1.toInt ∧ z.1.toInt ≤ 1) ∧ TT G z.2 p w L ∧ Fr p [1] M z.2) ?_ ?_
        · refine ok_if (fun c7 => ?_) (fun c7 => ?_)
          · have dc7 := tl_eq ix1 tn_0 c7
            refine ok_bnd (Q := fun (z : Int32 × DD) => (0 ≤ z.1.toInt ∧ z.1.toInt ≤ 1) ∧ TT G z.2 p w L ∧ Fr p [1] M z.2) ?_ ?_
            · refine ok_if (fun c8 => ?_) (fun c8 => ?_)
              · have dc8 := tl_eq ix2 tn_2 c8
                exact ok_some ⟨(ti_bd tn_0 (by omega) (by omega)), ty8, fy8⟩
              · refine ok_bnd (Q := fun (z : Int32) => (0 ≤ z.toInt ∧ z.toInt ≤ 1)) ?_ ?_
                · refine ok_if (fun c9 => ?_) (fun c9 => ?_)
                  · have dc9 := tl_eq ix2 tn_3 c9
                    exact ok_some (ti_bd tn_1 (by omega) (by omega))
                  · exact ok_some (ti_bd tn_0 (by omega) (by omega))
                · intro y46 hyy46
                  have ly46 := hyy46
                  have iy46 : TI y46 y46.toInt := rfl
                  refine ok_ltI (av_add tn_2 iy46 (by omega) (by omega)) (fun x47 ix47 => ?_)
                  refine ok_ltI (av_mul ix47 tn_21 (by omega) (by omega)) (fun x48 ix48 => ?_)
                  refine ok_ltI (av_add ix48 tn_2 (by omega) (by omega)) (fun x49 ix49 => ?_)
                  refine ok_bnd (Q := fun (z : Int32) => (0 ≤ z.toInt ∧ z.toInt ≤ 0)) ?_ ?_
                  · refine ok_if (fun c10 => ?_) (fun c10 => ?_)
                    · have dc10 := tl_eq ix1 tn_3 c10
                      exfalso
                      omega
                    · exact ok_some (ti_bd tn_0 (by omega) (by omega))
                  · intro y50 hyy50
                    have ly50 := hyy50
                    have iy50 : TI y50 (0) := ti_c ly50
                    refine ok_ltI (av_add ix49 iy50 (by omega) (by omega)) (fun x51 ix51 => ?_)
                    refine ok_bnd (Q := fun (z : Int32 × DD) => (0 ≤ z.1.toInt ∧ z.1.toInt ≤ (16 * 16)) ∧ TT G z.2 p w L ∧ Fr p [1] M z.2) (ok_itr (fun (z : Int32 × DD) => (0 ≤ z.1.toInt ∧ z.1.toInt ≤ (16 * 16)) ∧ TT G z.2 p w L ∧ Fr p [1] M z.2) (fun z => ((16 * 16) - z.1.toInt).toNat) ?_ _ _ ?_ ?_) ?_
                    · intro s53 hys53
                      obtain ⟨ls53_1, ts53_2, fs53_2⟩ := hys53
                      have is53_1 : TI s53.1 s53.1.toInt := rfl
                      refine ok_ltI (av_mul i3 i3 (by omega) (by omega)) (fun x56 ix56 => ?_)
                      refine ok_if (fun c11 => ?_) (fun c11 => ?_)
                      · have dc11 := tl_le ix56 is53_1 c11
                        exact ok_some ⟨(ti_bd is53_1 (by omega) (by omega)), ts53_2, fs53_2⟩
                      · have dc11 := tl_nle ix56 is53_1 c11
                        refine ok_chk (nz i3 (by omega)) ?_
                        refine ok_ltI (av_div is53_1 i3 (by omega) (by omega)) (fun x58 ix58 => ?_)
                        refine ok_ltI (av_mul ix58 tn_16 (by omega) (by omega)) (fun x59 ix59 => ?_)
                        refine ok_ltI (av_add i5 ix59 (by omega) (by omega)) (fun x60 ix60 => ?_)
                        refine ok_chk (nz i3 (by omega)) ?_
                        refine ok_ltI (av_mod is53_1 i3 (by omega) (by omega)) (fun x61 ix61 => ?_)
                        refine ok_ltI (av_add ix60 ix61 (by omega) (by omega)) (fun x62 ix62 => ?_)
                        refine ok_chk (nz i3 (by omega)) ?_
                        refine ok_ltI (av_div is53_1 i3 (by omega) (by omega)) (fun x63 ix63 => ?_)
                        refine ok_ltI (av_mul ix63 tn_21 (by omega) (by omega)) (fun x64 ix64 => ?_)
                        refine ok_ltI (av_add ix51 ix64 (by omega) (by omega)) (fun x65 ix65 => ?_)
                        refine ok_chk (nz i3 (by omega)) ?_
                        refine ok_ltI (av_mod is53_1 i3 (by omega) (by omega)) (fun x66 ix66 => ?_)
                        refine ok_ltI (av_add ix65 ix66 (by omega) (by omega)) (fun x67 ix67 => ?_)
                        refine ok_dr (f_r (b := 142) ts53_2 rfl (by decide)) (g_lt ts53_2 (by decide)) (g_k ts53_2 (by decide) rfl) ?_
                        refine ok_chk (nxg (g_n (i := 142) (n := 441) ts53_2 (by decide) rfl) ix67 (by omega) (by omega)) ?_
                        refine ok_ltA (fun x69 => ?_)
                        refine ok_dr rfl (g_lt ts53_2 (two_lt hc4)) (gk_two ts53_2 hc4) ?_
                        refine ok_chk (nxg (gl_two ts53_2 hc4) ix62 (by omega) (by omega)) ?_
                        refine ok_ltt (fun M71 eM71 => ?_)
                        have tM71 : TT G M71 p w L := by rw [eM71]; exact (tt_two ts53_2 hc4)
                        have fM71 : Fr p [1] M M71 := by rw [eM71]; exact (fr_w fs53_2 (pc_two hc4 rfl))
                        clear eM71
                        refine ok_ltI (av_add is53_1 tn_1 (by omega) (by omega)) (fun x72 ix72 => ?_)
                        exact ok_some ⟨⟨(ti_bd ix72 (by omega) (by omega)), tM71, fM71⟩, (mu_up ix72 (by omega) (by omega))⟩
                    · exact ⟨(ti_bd tn_0 (by omega) (by omega)), ty8, fy8⟩
                    · exact mu_0 tn_0 (by omega)
                    · intro y52 hyy52
                      obtain ⟨ly52_1, ty52_2, fy52_2⟩ := hyy52
                      have iy52_1 : TI y52.1 y52.1.toInt := rfl
                      exact ok_some ⟨(ti_bd tn_1 (by omega) (by omega)), ty52_2, fy52_2⟩
            · intro y44 hyy44
              obtain ⟨ly44_1, ty44_2, fy44_2⟩ := hyy44
              have iy44_1 : TI y44.1 y44.1.toInt := rfl
              exact ok_some ⟨(ti_bd iy44_1 (by omega) (by omega)), ty44_2, fy44_2⟩
          · exact ok_some ⟨(ti_bd tn_0 (by omega) (by omega)), ty8, fy8⟩
        · intro y42 hyy42
          obtain ⟨ly42_1, ty42_2, fy42_2⟩ := hyy42
          have iy42_1 : TI y42.1 y42.1.toInt := rfl
          exact ok_some ⟨(ti_bd iy42_1 (by omega) (by omega)), ty42_2, fy42_2⟩
    · intro y9 hyy9
      obtain ⟨ly9_1, ty9_2, fy9_2⟩ := hyy9
      have iy9_1 : TI y9.1 y9.1.toInt := rfl
      refine ok_bnd (Q := fun (z : Int32 × DD) => (0 ≤ z.1.toInt ∧ z.1.toInt ≤ 1) ∧ TT G z.2 p w L ∧ Fr p [1] M z.2) ?_ ?_
      · refine ok_if (fun c12 => ?_) (fun c12 => ?_)
        · have dc12 := tl_eq ix1 tn_0 c12
          exact ok_some ⟨(ti_bd iy9_1 (by omega) (by omega)), ty9_2, fy9_2⟩
        · refine ok_bnd (Q := fun (z : Int32 × DD) => (0 ≤ z.1.toInt ∧ z.1.toInt ≤ 1) ∧ TT G z.2 p w L ∧ Fr p [1] M z.2) ?_ ?_
          · refine ok_if (fun c13 => ?_) (fun c13 => ?_)
            · have dc13 := tl_eq ix2 tn_2 c13
              exact ok_some ⟨(ti_bd iy9_1 (by omega) (by omega)), ty9_2, fy9_2⟩
            · refine ok_bnd (Q := fun (z : Int32) => (0 ≤ z.toInt ∧ z.toInt ≤ 1)) ?_ ?_
              · refine ok_if (fun c14 => ?_) (fun c14 => ?_)
                · have dc14 := tl_eq ix2 tn_3 c14
                  exact ok_some (ti_bd tn_1 (by omega) (by omega))
                · exact ok_some (ti_bd tn_0 (by omega) (by omega))
              · intro y37 hyy37
                have ly37 := hyy37
                have iy37 : TI y37 y37.toInt := rfl
                refine ok_ltI (av_add tn_2 iy37 (by omega) (by omega)) (fun x38 ix38 => ?_)
                refine ok_bnd (s_tapRows ty9_2 i3 ix38 rfl hc4 i5 (by omega) (by omega) (by omega) (by omega) (by omega)) ?_
                intro y39 hyy39
                obtain ⟨ty39, gy39⟩ := hyy39
                have fy39 := fr_tr fy9_2 gy39 rfl
                exact ok_some ⟨(ti_bd tn_1 (by omega) (by omega)), ty39, fy39⟩
          · intro y35 hyy35
            obtain ⟨ly35_1, ty35_2, fy35_2⟩ := hyy35
            have iy35_1 : TI y35.1 y35.1.toInt := rfl
            exact ok_some ⟨(ti_bd iy35_1 (by omega) (by omega)), ty35_2, fy35_2⟩
      · intro y10 hyy10
        obtain ⟨ly10_1, ty10_2, fy10_2⟩ := hyy10
        have iy10_1 : TI y10.1 y10.1.toInt := rfl
        refine ok_bnd (Q := fun (z : Int32 × DD) => (0 ≤ z.1.toInt ∧ z.1.toInt ≤ 1) ∧ TT G z.2 p w L ∧ Fr p [1] M z.2) ?_ ?_
        · refine ok_if (fun c15 => ?_) (fun c15 => ?_)
          · have dc15 := tl_eq ix2 tn_0 c15
            exact ok_some ⟨(ti_bd iy10_1 (by omega) (by omega)), ty10_2, fy10_2⟩
          · refine ok_bnd (Q := fun (z : Int32 × DD) => (0 ≤ z.1.toInt ∧ z.1.toInt ≤ 1) ∧ TT G z.2 p w L ∧ Fr p [1] M z.2) ?_ ?_
            · refine ok_if (fun c16 => ?_) (fun c16 => ?_)
              · have dc16 := tl_eq ix1 tn_2 c16
                exact ok_some ⟨(ti_bd iy10_1 (by omega) (by omega)), ty10_2, fy10_2⟩
              · refine ok_bnd (Q := fun (z : Int32) => (0 ≤ z.toInt ∧ z.toInt ≤ 1)) ?_ ?_
                · refine ok_if (fun c17 => ?_) (fun c17 => ?_)
                  · have dc17 := tl_eq ix1 tn_3 c17
                    exact ok_some (ti_bd tn_1 (by omega) (by omega))
                  · exact ok_some (ti_bd tn_0 (by omega) (by omega))
                · intro y30 hyy30
                  have ly30 := hyy30
                  have iy30 : TI y30 y30.toInt := rfl
                  refine ok_ltI (av_add tn_2 iy30 (by omega) (by omega)) (fun x31 ix31 => ?_)
                  refine ok_bnd (s_tapColumns ty10_2 i3 ix31 rfl hc4 i5 (by omega) (by omega) (by omega) (by omega) (by omega)) ?_
                  intro y32 hyy32
                  obtain ⟨ty32, gy32⟩ := hyy32
                  have fy32 := fr_tr fy10_2 gy32 rfl
                  exact ok_some ⟨(ti_bd tn_1 (by omega) (by omega)), ty32, fy32⟩
            · intro y28 hyy28
              obtain ⟨ly28_1, ty28_2, fy28_2⟩ := hyy28
              have iy28_1 : TI y28.1 y28.1.toInt := rfl
              exact ok_some ⟨(ti_bd iy28_1 (by omega) (by omega)), ty28_2, fy28_2⟩
        · intro y11 hyy11
          obtain ⟨ly11_1, ty11_2, fy11_2⟩ := hyy11
          have iy11_1 : TI y11.1 y11.1.toInt := rfl
          refine ok_bnd (Q := fun (z : DD) => TT G z p w L ∧ Fr p [1] M z) ?_ ?_
          · refine ok_if (fun c18 => ?_) (fun c18 => ?_)
            · have dc18 := tl_eq ix1 tn_2 c18
              refine ok_bnd (Q := fun (z : DD) => TT G z p w L ∧ Fr p [1] M z) ?_ ?_
              · refine ok_if (fun c19 => ?_) (fun c19 => ?_)
                · have dc19 := tl_eq ix2 tn_0 c19
                  refine ok_bnd (Q := fun (z : DD) => TT G z p w L ∧ Fr p [1] M z) ?_ ?_
                  · refine ok_if (fun c20 => ?_) (fun c20 => ?_)
                    · have dc20 := tl_eq ix2 tn_2 c20
                      exfalso
                      omega
                    · exact ok_some ⟨ty11_2, fy11_2⟩
                  · intro y22 hyy22
                    obtain ⟨ty22, fy22⟩ := hyy22
                    exact ok_some ⟨ty22, fy22⟩
                · refine ok_bnd (s_tapBoth ty11_2 i3 rfl hc4 i5 (by omega) (by omega) (by omega)) ?_
                  intro y21 hyy21
                  obtain ⟨ty21, gy21⟩ := hyy21
                  have fy21 := fr_tr fy11_2 gy21 rfl
                  exact ok_some ⟨ty21, fy21⟩
              · intro y19 hyy19
                obtain ⟨ty19, fy19⟩ := hyy19
                exact ok_some ⟨ty19, fy19⟩
            · refine ok_bnd (Q := fun (z : DD) => TT G z p w L ∧ Fr p [1] M z) ?_ ?_
              · refine ok_if (fun c21 => ?_) (fun c21 => ?_)
                · have dc21 := tl_eq ix2 tn_2 c21
                  refine ok_bnd (Q := fun (z : DD) => TT G z p w L ∧ Fr p [1] M z) ?_ ?_
                  · refine ok_if (fun c22 => ?_) (fun c22 => ?_)
                    · have dc22 := tl_eq ix1 tn_0 c22
                      exact ok_some ⟨ty11_2, fy11_2⟩
                    · refine ok_bnd (s_tapBoth ty11_2 i3 rfl hc4 i5 (by omega) (by omega) (by omega)) ?_
                      intro y18 hyy18
                      obtain ⟨ty18, gy18⟩ := hyy18
                      have fy18 := fr_tr fy11_2 gy18 rfl
                      exact ok_some ⟨ty18, fy18⟩
                  · intro y16 hyy16
                    obtain ⟨ty16, fy16⟩ := hyy16
                    exact ok_some ⟨ty16, fy16⟩
                · exact ok_some ⟨ty11_2, fy11_2⟩
              · intro y14 hyy14
                obtain ⟨ty14, fy14⟩ := hyy14
                exact ok_some ⟨ty14, fy14⟩
          · intro y12 hyy12
            obtain ⟨ty12, fy12⟩ := hyy12
            exact ok_some ⟨ty12, fy12⟩
theorem s_predictColours {G : GG} {M : DD} {p : Nat} {w : Int} {L : List Nat} (t : TT G M p w L) {p0 : Option Nat} {q0 : Nat} (e0 : p0 = some q0) (hq0 : q0 ∈ L) {p1 : Int32} {a1 : Int} (i1 : TI p1 a1) {p2 : Int32} {a2 : Int} (i2 : TI p2 a2) {p3 : Int32} {a3 : Int} (i3 : TI p3 a3) {p4 : Option Nat} {c4 : Nat} (e4 : p4 = some c4) (hc4 : (c4 == 140 || c4 == 141) = true) {p5 : Int32} {a5 : Int} (i5 : TI p5 a5) (h0 : a3 = 2 ∨ a3 = 4 ∨ a3 = 8) (h1 : 256 ≤ a5) (h2 : a5 + 64 + 8 * (a3 - 1) + a3 ≤ 384) : OK (FX6_predictColours G M 138 p0 p1 p2 p3 p4 p5) (fun y => TT G y p w L ∧ Fr p [1] M y) := by
  unfold FX6_predictColours
  have r1 := i32_b i1
  have r2 := i32_b i2
  subst e0 e4
  have hw12 : 1 ≤ w ∧ w ≤ 2 := by rcases tt_w t with h | h <;> omega
  rcases tt_w t with rfl | rfl
  · rcases h0 with rfl | rfl | rfl
    · refine ok_dr rfl (by have q := (tt_q0b t hq0); omega) (gk_0 t hq0) ?_
      refine ok_ltI (tw_q t hq0) (fun x2 ix2 => ?_)
      refine ok_ltI (av_mul tn_8 ix2 (by omega) (by omega)) (fun x3 ix3 => ?_)
      refine ok_ltI (th_q t hq0) (fun x4 ix4 => ?_)
      refine ok_ltI (av_mul tn_8 ix4 (by omega) (by omega)) (fun x5 ix5 => ?_)
      refine ok_ltI (av_and 3 i1 (by decide) (by decide)) (fun x6 ix6 => ?_)
      refine ok_ltI (av_and 3 i2 (by decide) (by decide)) (fun x7 ix7 => ?_)
      refine ok_bnd (Q := fun (z : Int32 × DD) => (0 ≤ z.1.toInt ∧ z.1.toInt ≤ (2 * 2)) ∧ TT G z.2 p 1 L ∧ Fr p [1] M z.2) (ok_itr (fun (z : Int32 × DD) => (0 ≤ z.1.toInt ∧ z.1.toInt ≤ (2 * 2)) ∧ TT G z.2 p 1 L ∧ Fr p [1] M z.2) (fun z => ((2 * 2) - z.1.toInt).toNat) ?_ _ _ ?_ ?_) ?_
      · intro s9 hys9
        obtain ⟨ls9_1, ts9_2, fs9_2⟩ := hys9
        have is9_1 : TI s9.1 s9.1.toInt := rfl
        refine ok_ltI (av_mul i3 i3 (by omega) (by omega)) (fun x12 ix12 => ?_)
        refine ok_if (fun c1 => ?_) (fun c1 => ?_)
        · have dc1 := tl_le ix12 is9_1 c1
          exact ok_some ⟨(ti_bd is9_1 (by omega) (by omega)), ts9_2, fs9_2⟩
        · have dc1 := tl_nle ix12 is9_1 c1
          refine ok_ltI (av_sar 3 i1 (by decide)) (fun x14 ix14 => ?_)
          refine ok_chk (nz i3 (by omega)) ?_
          refine ok_ltI (av_mod is9_1 i3 (by omega) (by omega)) (fun x15 ix15 => ?_)
          refine ok_ltI (av_add ix14 ix15 (by omega) (by omega)) (fun x16 ix16 => ?_)
          refine ok_ltI (av_sar 3 i2 (by decide)) (fun x17 ix17 => ?_)
          refine ok_chk (nz i3 (by omega)) ?_
          refine ok_ltI (av_div is9_1 i3 (by omega) (by omega)) (fun x18 ix18 => ?_)
          refine ok_ltI (av_add ix17 ix18 (by omega) (by omega)) (fun x19 ix19 => ?_)
          refine ok_bnd (Q := fun (z : Int32) => (0 ≤ z.toInt ∧ z.toInt ≤ 7)) ?_ ?_
          · refine ok_if (fun c2 => ?_) (fun c2 => ?_)
            · have dc2 := tl_le tn_0 ix16 c2
              refine ok_bnd (Q := fun (z : Int32) => (0 ≤ z.toInt ∧ z.toInt ≤ 7)) ?_ ?_
              · refine ok_if (fun c3 => ?_) (fun c3 => ?_)
                · have dc3 := tl_lt ix16 ix3 c3
                  exact ok_some (ti_bd ix16 (by omega) (by omega))
                · have dc3 := tl_nlt ix16 ix3 c3
                  refine ok_ltI (av_sub ix3 tn_1 (by omega) (by omega)) (fun x89 ix89 => ?_)
                  exact ok_some (ti_bd ix89 (by omega) (by omega))
              · intro y87 hyy87
                have ly87 := hyy87
                have iy87 : TI y87 y87.toInt := rfl
                exact ok_some (ti_bd iy87 (by omega) (by omega))
            · have dc2 := tl_nle tn_0 ix16 c2
              exact ok_some (ti_bd tn_0 (by omega) (by omega))
          · intro y20 hyy20
            have ly20 := hyy20
            have iy20 : TI y20 y20.toInt := rfl
            refine ok_bnd (Q := fun (z : Int32) => (0 ≤ z.toInt ∧ z.toInt ≤ 7)) ?_ ?_
            · refine ok_if (fun c4 => ?_) (fun c4 => ?_)
              · have dc4 := tl_le tn_m1 ix16 c4
                refine ok_ltI (av_sub ix3 tn_1 (by omega) (by omega)) (fun x81 ix81 => ?_)
                refine ok_bnd (Q := fun (z : Int32) => (0 ≤ z.toInt ∧ z.toInt ≤ 7)) ?_ ?_
                · refine ok_if (fun c5 => ?_) (fun c5 => ?_)
                  · have dc5 := tl_lt ix16 ix81 c5
                    refine ok_ltI (av_add ix16 tn_1 (by omega) (by omega)) (fun x84 ix84 => ?_)
                    exact ok_some (ti_bd ix84 (by omega) (by omega))
                  · have dc5 := tl_nlt ix16 ix81 c5
                    refine ok_ltI (av_sub ix3 tn_1 (by omega) (by omega)) (fun x85 ix85 => ?_)
                    exact ok_some (ti_bd ix85 (by omega) (by omega))
                · intro y82 hyy82
                  have ly82 := hyy82
                  have iy82 : TI y82 y82.toInt := rfl
                  exact ok_some (ti_bd iy82 (by omega) (by omega))
              · have dc4 := tl_nle tn_m1 ix16 c4
                exact ok_some (ti_bd tn_0 (by omega) (by omega))
            · intro y21 hyy21
              have ly21 := hyy21
              have iy21 : TI y21 y21.toInt := rfl
              refine ok_bnd (Q := fun (z : Int32) => (0 ≤ z.toInt ∧ z.toInt ≤ 15)) ?_ ?_
              · refine ok_if (fun c6 => ?_) (fun c6 => ?_)
                · have dc6 := tl_le tn_0 ix19 c6
                  refine ok_bnd (Q := fun (z : Int32) => (0 ≤ z.toInt ∧ z.toInt ≤ 15)) ?_ ?_
                  · refine ok_if (fun c7 => ?_) (fun c7 => ?_)
                    · have dc7 := tl_lt ix19 ix5 c7
                      exact ok_some (ti_bd ix19 (by omega) (by omega))
                    · have dc7 := tl_nlt ix19 ix5 c7
                      refine ok_ltI (av_sub ix5 tn_1 (by omega) (by omega)) (fun x79 ix79 => ?_)
                      exact ok_some (ti_bd ix79 (by omega) (by omega))
                  · intro y77 hyy77
                    have ly77 := hyy77
                    have iy77 : TI y77 y77.toInt := rfl
                    exact ok_some (ti_bd iy77 (by omega) (by omega))
                · have dc6 := tl_nle tn_0 ix19 c6
                  exact ok_some (ti_bd tn_0 (by omega) (by omega))
              · intro y22 hyy22
                have ly22 := hyy22
                have iy22 : TI y22 y22.toInt := rfl
                refine ok_ltI (av_mul iy22 ix3 (by omega) (by omega)) (fun x23 ix23 => ?_)
                refine ok_bnd (Q := fun (z : Int32) => (0 ≤ z.toInt ∧ z.toInt ≤ 15)) ?_ ?_
                · refine ok_if (fun c8 => ?_) (fun c8 => ?_)
                  · have dc8 := tl_le tn_m1 ix19 c8
                    refine ok_ltI (av_sub ix5 tn_1 (by omega) (by omega)) (fun x71 ix71 => ?_)
                    refine ok_bnd (Q := fun (z : Int32) => (0 ≤ z.toInt ∧ z.toInt ≤ 15)) ?_ ?_
                    · refine ok_if (fun c9 => ?_) (fun c9 => ?_)
                      · have dc9 := tl_lt ix19 ix71 c9
                        refine ok_ltI (av_add ix19 tn_1 (by omega) (by omega)) (fun x74 ix74 => ?_)
                        exact ok_some (ti_bd ix74 (by omega) (by omega))
                      · have dc9 := tl_nlt ix19 ix71 c9
                        refine ok_ltI (av_sub ix5 tn_1 (by omega) (by omega)) (fun x75 ix75 => ?_)
                        exact ok_some (ti_bd ix75 (by omega) (by omega))
                    · intro y72 hyy72
                      have ly72 := hyy72
                      have iy72 : TI y72 y72.toInt := rfl
                      exact ok_some (ti_bd iy72 (by omega) (by omega))
                  · have dc8 := tl_nle tn_m1 ix19 c8
                    exact ok_some (ti_bd tn_0 (by omega) (by omega))
                · intro y24 hyy24
                  have ly24 := hyy24
                  have iy24 : TI y24 y24.toInt := rfl
                  refine ok_ltI (av_mul iy24 ix3 (by omega) (by omega)) (fun x25 ix25 => ?_)
                  refine ok_bnd (Q := fun (z : Int32 × DD) => (1 ≤ z.1.toInt ∧ z.1.toInt ≤ 3) ∧ TT G z.2 p 1 L ∧ Fr p [1] M z.2) (ok_itr (fun (z : Int32 × DD) => (1 ≤ z.1.toInt ∧ z.1.toInt ≤ 3) ∧ TT G z.2 p 1 L ∧ Fr p [1] M z.2) (fun z => (3 - z.1.toInt).toNat) ?_ _ _ ?_ ?_) ?_
                  · intro s27 hys27
                    obtain ⟨ls27_1, ts27_2, fs27_2⟩ := hys27
                    have is27_1 : TI s27.1 s27.1.toInt := rfl
                    refine ok_if (fun c10 => ?_) (fun c10 => ?_)
                    · have dc10 := tl_le tn_3 is27_1 c10
                      exact ok_some ⟨(ti_bd is27_1 (by omega) (by omega)), ts27_2, fs27_2⟩
                    · have dc10 := tl_nle tn_3 is27_1 c10
                      refine ok_dr (pr_4 ts27_2 hq0) (by have q := (tt_q0b ts27_2 hq0); omega) (gk_2 ts27_2 hq0) ?_
                      refine ok_chk (nxg (gl_2 ts27_2 hq0) is27_1 (by omega) (by omega)) ?_
                      refine ok_ltI (av_sub tn_8 ix6 (by omega) (by omega)) (fun x33 ix33 => ?_)
                      refine ok_ltI (av_sub tn_8 ix7 (by omega) (by omega)) (fun x34 ix34 => ?_)
                      refine ok_ltA (fun x35 => ?_)
                      refine ok_ltI (av_add ix23 iy20 (by omega) (by omega)) (fun x36 ix36 => ?_)
                      refine ok_dpv ts27_2 hq0 is27_1 (by omega) (by omega) (fun jb37 hjb37 njb37 => ?_)
                      refine ok_chk (nxi njb37 ix36 (by omega) (by omega)) ?_
                      refine ok_ltA (fun x38 => ?_)
                      refine ok_ltA (fun x39 => ?_)
                      refine ok_ltI (av_sub tn_8 ix7 (by omega) (by omega)) (fun x40 ix40 => ?_)
                      refine ok_ltA (fun x41 => ?_)
                      refine ok_ltI (av_add ix23 iy21 (by omega) (by omega)) (fun x42 ix42 => ?_)
                      refine ok_chk (nxi njb37 ix42 (by omega) (by omega)) ?_
                      refine ok_ltA (fun x43 => ?_)
                      refine ok_ltA (fun x44 => ?_)
                      refine ok_ltA (fun x45 => ?_)
                      refine ok_ltI (av_sub tn_8 ix6 (by omega) (by omega)) (fun x46 ix46 => ?_)
                      refine ok_ltA (fun x47 => ?_)
                      refine ok_ltI (av_add ix25 iy20 (by omega) (by omega)) (fun x48 ix48 => ?_)
                      refine ok_chk (nxi njb37 ix48 (by omega) (by omega)) ?_
                      refine ok_ltA (fun x49 => ?_)
                      refine ok_ltA (fun x50 => ?_)
                      refine ok_ltA (fun x51 => ?_)
                      refine ok_ltA (fun x52 => ?_)
                      refine ok_ltI (av_add ix25 iy21 (by omega) (by omega)) (fun x53 ix53 => ?_)
                      refine ok_chk (nxi njb37 ix53 (by omega) (by omega)) ?_
                      refine ok_ltA (fun x54 => ?_)
                      refine ok_ltA (fun x55 => ?_)
                      refine ok_ltA (fun x56 => ?_)
                      refine ok_ltI (av_sub is27_1 tn_1 (by omega) (by omega)) (fun x57 ix57 => ?_)
                      refine ok_ltI (av_mul tn_64 ix57 (by omega) (by omega)) (fun x58 ix58 => ?_)
                      refine ok_ltI (av_add i5 ix58 (by omega) (by omega)) (fun x59 ix59 => ?_)
                      refine ok_chk (nz i3 (by omega)) ?_
                      refine ok_ltI (av_div is9_1 i3 (by omega) (by omega)) (fun x60 ix60 => ?_)
                      refine ok_ltI (av_mul ix60 tn_8 (by omega) (by omega)) (fun x61 ix61 => ?_)
                      refine ok_ltI (av_add ix59 ix61 (by omega) (by omega)) (fun x62 ix62 => ?_)
                      refine ok_chk (nz i3 (by omega)) ?_
                      refine ok_ltI (av_mod is9_1 i3 (by omega) (by omega)) (fun x63 ix63 => ?_)
                      refine ok_ltI (av_add ix62 ix63 (by omega) (by omega)) (fun x64 ix64 => ?_)
                      refine ok_ltA (fun x65 => ?_)
                      refine ok_ltA (fun x66 => ?_)
                      refine ok_dr rfl (g_lt ts27_2 (two_lt hc4)) (gk_two ts27_2 hc4) ?_
                      refine ok_chk (nxg (gl_two ts27_2 hc4) ix64 (by omega) (by omega)) ?_
                      refine ok_ltt (fun M68 eM68 => ?_)
                      have tM68 : TT G M68 p 1 L := by rw [eM68]; exact (tt_two ts27_2 hc4)
                      have fM68 : Fr p [1] M M68 := by rw [eM68]; exact (fr_w fs27_2 (pc_two hc4 rfl))
                      clear eM68
                      refine ok_ltI (av_add is27_1 tn_1 (by omega) (by omega)) (fun x69 ix69 => ?_)
                      exact ok_some ⟨⟨(ti_bd ix69 (by omega) (by omega)), tM68, fM68⟩, (mu_up ix69 (by omega) (by omega))⟩
                  · exact ⟨(ti_bd tn_1 (by omega) (by omega)), ts9_2, fs9_2⟩
                  · exact mu_0 tn_1 (by omega)
                  · intro y26 hyy26
                    obtain ⟨ly26_1, ty26_2, fy26_2⟩ := hyy26
                    have iy26_1 : TI y26.1 y26.1.toInt := rfl
                    refine ok_ltI (av_add is9_1 tn_1 (by omega) (by omega)) (fun x29 ix29 => ?_)
                    exact ok_some ⟨⟨(ti_bd ix29 (by omega) (by omega)), ty26_2, fy26_2⟩, (mu_up ix29 (by omega) (by omega))⟩
      · exact ⟨(ti_bd tn_0 (by omega) (by omega)), t, (fr_0 p [1] M)⟩
      · exact mu_0 tn_0 (by omega)
      · intro y8 hyy8
        obtain ⟨ly8_1, ty8_2, fy8_2⟩ := hyy8
        have iy8_1 : TI y8.1 y8.1.toInt := rfl
        exact ok_some ⟨ty8_2, fy8_2⟩
    · refine ok_dr rfl (by have q := (tt_q0b t hq0); omega) (gk_0 t hq0) ?_
      refine ok_ltI (tw_q t hq0) (fun x2 ix2 => ?_)
      refine ok_ltI (av_mul tn_8 ix2 (by omega) (by omega)) (fun x3 ix3 => ?_)
      refine ok_ltI (th_q t hq0) (fun x4 ix4 => ?_)
      refine ok_ltI (av_mul tn_8 ix4 (by omega) (by omega)) (fun x5 ix5 => ?_)
      refine ok_ltI (av_and 3 i1 (by decide) (by decide)) (fun x6 ix6 => ?_)
      refine ok_ltI (av_and 3 i2 (by decide) (by decide)) (fun x7 ix7 => ?_)
      refine ok_bnd (Q := fun (z : Int32 × DD) => (0 ≤ z.1.toInt ∧ z.1.toInt ≤ (4 * 4)) ∧ TT G z.2 p 1 L ∧ Fr p [1] M z.2) (ok_itr (fun (z : Int32 × DD) => (0 ≤ z.1.toInt ∧ z.1.toInt ≤ (4 * 4)) ∧ TT G z.2 p 1 L ∧ Fr p [1] M z.2) (fun z => ((4 * 4) - z.1.toInt).toNat) ?_ _ _ ?_ ?_) ?_
      · intro s9 hys9
        obtain ⟨ls9_1, ts9_2, fs9_2⟩ := hys9
        have is9_1 : TI s9.1 s9.1.toInt := rfl
        refine ok_ltI (av_mul i3 i3 (by omega) (by omega)) (fun x12 ix12 => ?_)
        refine ok_if (fun c1 => ?_) (fun c1 => ?_)
        · have dc1 := tl_le ix12 is9_1 c1
          exact ok_some ⟨(ti_bd is9_1 (by omega) (by omega)), ts9_2, fs9_2⟩
        · have dc1 := tl_nle ix12 is9_1 c1
          refine ok_ltI (av_sar 3 i1 (by decide)) (fun x14 ix14 => ?_)
          refine ok_chk (nz i3 (by omega)) ?_
          refine ok_ltI (av_mod is9_1 i3 (by omega) (by omega)) (fun x15 ix15 => ?_)
          refine ok_ltI (av_add ix14 ix15 (by omega) (by omega)) (fun x16 ix16 => ?_)
          refine ok_ltI (av_sar 3 i2 (by decide)) (fun x17 ix17 => ?_)
          refine ok_chk (nz i3 (by omega)) ?_
          refine ok_ltI (av_div is9_1 i3 (by omega) (by omega)) (fun x18 ix18 => ?_)
          refine ok_ltI (av_add ix17 ix18 (by omega) (by omega)) (fun x19 ix19 => ?_)
          refine ok_bnd (Q := fun (z : Int32) => (0 ≤ z.toInt ∧ z.toInt ≤ 7)) ?_ ?_
          · refine ok_if (fun c2 => ?_) (fun c2 => ?_)
            · have dc2 := tl_le tn_0 ix16 c2
              refine ok_bnd (Q := fun (z : Int32) => (0 ≤ z.toInt ∧ z.toInt ≤ 7)) ?_ ?_
              · refine ok_if (fun c3 => ?_) (fun c3 => ?_)
                · have dc3 := tl_lt ix16 ix3 c3
                  exact ok_some (ti_bd ix16 (by omega) (by omega))
                · have dc3 := tl_nlt ix16 ix3 c3
                  refine ok_ltI (av_sub ix3 tn_1 (by omega) (by omega)) (fun x89 ix89 => ?_)
                  exact ok_some (ti_bd ix89 (by omega) (by omega))
              · intro y87 hyy87
                have ly87 := hyy87
                have iy87 : TI y87 y87.toInt := rfl
                exact ok_some (ti_bd iy87 (by omega) (by omega))
            · have dc2 := tl_nle tn_0 ix16 c2
              exact ok_some (ti_bd tn_0 (by omega) (by omega))
          · intro y20 hyy20
            have ly20 := hyy20
            have iy20 : TI y20 y20.toInt := rfl
            refine ok_bnd (Q := fun (z : Int32) => (0 ≤ z.toInt ∧ z.toInt ≤ 7)) ?_ ?_
            · refine ok_if (fun c4 => ?_) (fun c4 => ?_)
              · have dc4 := tl_le tn_m1 ix16 c4
                refine ok_ltI (av_sub ix3 tn_1 (by omega) (by omega)) (fun x81 ix81 => ?_)
                refine ok_bnd (Q := fun (z : Int32) => (0 ≤ z.toInt ∧ z.toInt ≤ 7)) ?_ ?_
                · refine ok_if (fun c5 => ?_) (fun c5 => ?_)
                  · have dc5 := tl_lt ix16 ix81 c5
                    refine ok_ltI (av_add ix16 tn_1 (by omega) (by omega)) (fun x84 ix84 => ?_)
                    exact ok_some (ti_bd ix84 (by omega) (by omega))
                  · have dc5 := tl_nlt ix16 ix81 c5
                    refine ok_ltI (av_sub ix3 tn_1 (by omega) (by omega)) (fun x85 ix85 => ?_)
                    exact ok_some (ti_bd ix85 (by omega) (by omega))
                · intro y82 hyy82
                  have ly82 := hyy82
                  have iy82 : TI y82 y82.toInt := rfl
                  exact ok_some (ti_bd iy82 (by omega) (by omega))
              · have dc4 := tl_nle tn_m1 ix16 c4
                exact ok_some (ti_bd tn_0 (by omega) (by omega))
            · intro y21 hyy21
              have ly21 := hyy21
              have iy21 : TI y21 y21.toInt := rfl
              refine ok_bnd (Q := fun (z : Int32) => (0 ≤ z.toInt ∧ z.toInt ≤ 15)) ?_ ?_
              · refine ok_if (fun c6 => ?_) (fun c6 => ?_)
                · have dc6 := tl_le tn_0 ix19 c6
                  refine ok_bnd (Q := fun (z : Int32) => (0 ≤ z.toInt ∧ z.toInt ≤ 15)) ?_ ?_
                  · refine ok_if (fun c7 => ?_) (fun c7 => ?_)
                    · have dc7 := tl_lt ix19 ix5 c7
                      exact ok_some (ti_bd ix19 (by omega) (by omega))
                    · have dc7 := tl_nlt ix19 ix5 c7
                      refine ok_ltI (av_sub ix5 tn_1 (by omega) (by omega)) (fun x79 ix79 => ?_)
                      exact ok_some (ti_bd ix79 (by omega) (by omega))
                  · intro y77 hyy77
                    have ly77 := hyy77
                    have iy77 : TI y77 y77.toInt := rfl
                    exact ok_some (ti_bd iy77 (by omega) (by omega))
                · have dc6 := tl_nle tn_0 ix19 c6
                  exact ok_some (ti_bd tn_0 (by omega) (by omega))
              · intro y22 hyy22
                have ly22 := hyy22
                have iy22 : TI y22 y22.toInt := rfl
                refine ok_ltI (av_mul iy22 ix3 (by omega) (by omega)) (fun x23 ix23 => ?_)
                refine ok_bnd (Q := fun (z : Int32) => (0 ≤ z.toInt ∧ z.toInt ≤ 15)) ?_ ?_
                · refine ok_if (fun c8 => ?_) (fun c8 => ?_)
                  · have dc8 := tl_le tn_m1 ix19 c8
                    refine ok_ltI (av_sub ix5 tn_1 (by omega) (by omega)) (fun x71 ix71 => ?_)
                    refine ok_bnd (Q := fun (z : Int32) => (0 ≤ z.toInt ∧ z.toInt ≤ 15)) ?_ ?_
                    · refine ok_if (fun c9 => ?_) (fun c9 => ?_)
                      · have dc9 := tl_lt ix19 ix71 c9
                        refine ok_ltI (av_add ix19 tn_1 (by omega) (by omega)) (fun x74 ix74 => ?_)
                        exact ok_some (ti_bd ix74 (by omega) (by omega))
                      · have dc9 := tl_nlt ix19 ix71 c9
                        refine ok_ltI (av_sub ix5 tn_1 (by omega) (by omega)) (fun x75 ix75 => ?_)
                        exact ok_some (ti_bd ix75 (by omega) (by omega))
                    · intro y72 hyy72
                      have ly72 := hyy72
                      have iy72 : TI y72 y72.toInt := rfl
                      exact ok_some (ti_bd iy72 (by omega) (by omega))
                  · have dc8 := tl_nle tn_m1 ix19 c8
                    exact ok_some (ti_bd tn_0 (by omega) (by omega))
                · intro y24 hyy24
                  have ly24 := hyy24
                  have iy24 : TI y24 y24.toInt := rfl
                  refine ok_ltI (av_mul iy24 ix3 (by omega) (by omega)) (fun x25 ix25 => ?_)
                  refine ok_bnd (Q := fun (z : Int32 × DD) => (1 ≤ z.1.toInt ∧ z.1.toInt ≤ 3) ∧ TT G z.2 p 1 L ∧ Fr p [1] M z.2) (ok_itr (fun (z : Int32 × DD) => (1 ≤ z.1.toInt ∧ z.1.toInt ≤ 3) ∧ TT G z.2 p 1 L ∧ Fr p [1] M z.2) (fun z => (3 - z.1.toInt).toNat) ?_ _ _ ?_ ?_) ?_
                  · intro s27 hys27
                    obtain ⟨ls27_1, ts27_2, fs27_2⟩ := hys27
                    have is27_1 : TI s27.1 s27.1.toInt := rfl
                    refine ok_if (fun c10 => ?_) (fun c10 => ?_)
                    · have dc10 := tl_le tn_3 is27_1 c10
                      exact ok_some ⟨(ti_bd is27_1 (by omega) (by omega)), ts27_2, fs27_2⟩
                    · have dc10 := tl_nle tn_3 is27_1 c10
                      refine ok_dr (pr_4 ts27_2 hq0) (by have q := (tt_q0b ts27_2 hq0); omega) (gk_2 ts27_2 hq0) ?_
                      refine ok_chk (nxg (gl_2 ts27_2 hq0) is27_1 (by omega) (by omega)) ?_
                      refine ok_ltI (av_sub tn_8 ix6 (by omega) (by omega)) (fun x33 ix33 => ?_)
                      refine ok_ltI (av_sub tn_8 ix7 (by omega) (by omega)) (fun x34 ix34 => ?_)
                      refine ok_ltA (fun x35 => ?_)
                      refine ok_ltI (av_add ix23 iy20 (by omega) (by omega)) (fun x36 ix36 => ?_)
                      refine ok_dpv ts27_2 hq0 is27_1 (by omega) (by omega) (fun jb37 hjb37 njb37 => ?_)
                      refine ok_chk (nxi njb37 ix36 (by omega) (by omega)) ?_
                      refine ok_ltA (fun x38 => ?_)
                      refine ok_ltA (fun x39 => ?_)
                      refine ok_ltI (av_sub tn_8 ix7 (by omega) (by omega)) (fun x40 ix40 => ?_)
                      refine ok_ltA (fun x41 => ?_)
                      refine ok_ltI (av_add ix23 iy21 (by omega) (by omega)) (fun x42 ix42 => ?_)
                      refine ok_chk (nxi njb37 ix42 (by omega) (by omega)) ?_
                      refine ok_ltA (fun x43 => ?_)
                      refine ok_ltA (fun x44 => ?_)
                      refine ok_ltA (fun x45 => ?_)
                      refine ok_ltI (av_sub tn_8 ix6 (by omega) (by omega)) (fun x46 ix46 => ?_)
                      refine ok_ltA (fun x47 => ?_)
                      refine ok_ltI (av_add ix25 iy20 (by omega) (by omega)) (fun x48 ix48 => ?_)
                      refine ok_chk (nxi njb37 ix48 (by omega) (by omega)) ?_
                      refine ok_ltA (fun x49 => ?_)
                      refine ok_ltA (fun x50 => ?_)
                      refine ok_ltA (fun x51 => ?_)
                      refine ok_ltA (fun x52 => ?_)
                      refine ok_ltI (av_add ix25 iy21 (by omega) (by omega)) (fun x53 ix53 => ?_)
                      refine ok_chk (nxi njb37 ix53 (by omega) (by omega)) ?_
                      refine ok_ltA (fun x54 => ?_)
                      refine ok_ltA (fun x55 => ?_)
                      refine ok_ltA (fun x56 => ?_)
                      refine ok_ltI (av_sub is27_1 tn_1 (by omega) (by omega)) (fun x57 ix57 => ?_)
                      refine ok_ltI (av_mul tn_64 ix57 (by omega) (by omega)) (fun x58 ix58 => ?_)
                      refine ok_ltI (av_add i5 ix58 (by omega) (by omega)) (fun x59 ix59 => ?_)
                      refine ok_chk (nz i3 (by omega)) ?_
                      refine ok_ltI (av_div is9_1 i3 (by omega) (by omega)) (fun x60 ix60 => ?_)
                      refine ok_ltI (av_mul ix60 tn_8 (by omega) (by omega)) (fun x61 ix61 => ?_)
                      refine ok_ltI (av_add ix59 ix61 (by omega) (by omega)) (fun x62 ix62 => ?_)
                      refine ok_chk (nz i3 (by omega)) ?_
                      refine ok_ltI (av_mod is9_1 i3 (by omega) (by omega)) (fun x63 ix63 => ?_)
                      refine ok_ltI (av_add ix62 ix63 (by omega) (by omega)) (fun x64 ix64 => ?_)
                      refine ok_ltA (fun x65 => ?_)
                      refine ok_ltA (fun x66 => ?_)
                      refine ok_dr rfl (g_lt ts27_2 (two_lt hc4)) (gk_two ts27_2 hc4) ?_
                      refine ok_chk (nxg (gl_two ts27_2 hc4) ix64 (by omega) (by omega)) ?_
                      refine ok_ltt (fun M68 eM68 => ?_)
                      have tM68 : TT G M68 p 1 L := by rw [eM68]; exact (tt_two ts27_2 hc4)
                      have fM68 : Fr p [1] M M68 := by rw [eM68]; exact (fr_w fs27_2 (pc_two hc4 rfl))
                      clear eM68
                      refine ok_ltI (av_add is27_1 tn_1 (by omega) (by omega)) (fun x69 ix69 => ?_)
                      exact ok_some ⟨⟨(ti_bd ix69 (by omega) (by omega)), tM68, fM68⟩, (mu_up ix69 (by omega) (by omega))⟩
                  · exact ⟨(ti_bd tn_1 (by omega) (by omega)), ts9_2, fs9_2⟩
                  · exact mu_0 tn_1 (by omega)
                  · intro y26 hyy26
                    obtain ⟨ly26_1, ty26_2, fy26_2⟩ := hyy26
                    have iy26_1 : TI y26.1 y26.1.toInt := rfl
                    refine ok_ltI (av_add is9_1 tn_1 (by omega) (by omega)) (fun x29 ix29 => ?_)
                    exact ok_some ⟨⟨(ti_bd ix29 (by omega) (by omega)), ty26_2, fy26_2⟩, (mu_up ix29 (by omega) (by omega))⟩
      · exact ⟨(ti_bd tn_0 (by omega) (by omega)), t, (fr_0 p [1] M)⟩
      · exact mu_0 tn_0 (by omega)
      · intro y8 hyy8
        obtain ⟨ly8_1, ty8_2, fy8_2⟩ := hyy8
        have iy8_1 : TI y8.1 y8.1.toInt := rfl
        exact ok_some ⟨ty8_2, fy8_2⟩
    · refine ok_dr rfl (by have q := (tt_q0b t hq0); omega) (gk_0 t hq0) ?_
      refine ok_ltI (tw_q t hq0) (fun x2 ix2 => ?_)
      refine ok_ltI (av_mul tn_8 ix2 (by omega) (by omega)) (fun x3 ix3 => ?_)
      refine ok_ltI (th_q t hq0) (fun x4 ix4 => ?_)
      refine ok_ltI (av_mul tn_8 ix4 (by omega) (by omega)) (fun x5 ix5 => ?_)
      refine ok_ltI (av_and 3 i1 (by decide) (by decide)) (fun x6 ix6 => ?_)
      refine ok_ltI (av_and 3 i2 (by decide) (by decide)) (fun x7 ix7 => ?_)
      refine ok_bnd (Q := fun (z : Int32 × DD) => (0 ≤ z.1.toInt ∧ z.1.toInt ≤ (8 * 8)) ∧ TT G z.2 p 1 L ∧ Fr p [1] M z.2) (ok_itr (fun (z : Int32 × DD) => (0 ≤ z.1.toInt ∧ z.1.toInt ≤ (8 * 8)) ∧ TT G z.2 p 1 L ∧ Fr p [1] M z.2) (fun z => ((8 * 8) - z.1.toInt).toNat) ?_ _ _ ?_ ?_) ?_
      · intro s9 hys9
        obtain ⟨ls9_1, ts9_2, fs9_2⟩ := hys9
        have is9_1 : TI s9.1 s9.1.toInt := rfl
        refine ok_ltI (av_mul i3 i3 (by omega) (by omega)) (fun x12 ix12 => ?_)
        refine ok_if (fun c1 => ?_) (fun c1 => ?_)
        · have dc1 := tl_le ix12 is9_1 c1
          exact ok_some ⟨(ti_bd is9_1 (by omega) (by omega)), ts9_2, fs9_2⟩
        · have dc1 := tl_nle ix12 is9_1 c1
          refine ok_ltI (av_sar 3 i1 (by decide)) (fun x14 ix14 => ?_)
          refine ok_chk (nz i3 (by omega)) ?_
          refine ok_ltI (av_mod is9_1 i3 (by omega) (by omega)) (fun x15 ix15 => ?_)
          refine ok_ltI (av_add ix14 ix15 (by omega) (by omega)) (fun x16 ix16 => ?_)
          refine ok_ltI (av_sar 3 i2 (by decide)) (fun x17 ix17 => ?_)
          refine ok_chk (nz i3 (by omega)) ?_
          refine ok_ltI (av_div is9_1 i3 (by omega) (by omega)) (fun x18 ix18 => ?_)
          refine ok_ltI (av_add ix17 ix18 (by omega) (by omega)) (fun x19 ix19 => ?_)
          refine ok_bnd (Q := fun (z : Int32) => (0 ≤ z.toInt ∧ z.toInt ≤ 7)) ?_ ?_
          · refine ok_if (fun c2 => ?_) (fun c2 => ?_)
            · have dc2 := tl_le tn_0 ix16 c2
              refine ok_bnd (Q := fun (z : Int32) => (0 ≤ z.toInt ∧ z.toInt ≤ 7)) ?_ ?_
              · refine ok_if (fun c3 => ?_) (fun c3 => ?_)
                · have dc3 := tl_lt ix16 ix3 c3
                  exact ok_some (ti_bd ix16 (by omega) (by omega))
                · have dc3 := tl_nlt ix16 ix3 c3
                  refine ok_ltI (av_sub ix3 tn_1 (by omega) (by omega)) (fun x89 ix89 => ?_)
                  exact ok_some (ti_bd ix89 (by omega) (by omega))
              · intro y87 hyy87
                have ly87 := hyy87
                have iy87 : TI y87 y87.toInt := rfl
                exact ok_some (ti_bd iy87 (by omega) (by omega))
            · have dc2 := tl_nle tn_0 ix16 c2
              exact ok_some (ti_bd tn_0 (by omega) (by omega))
          · intro y20 hyy20
            have ly20 := hyy20
            have iy20 : TI y20 y20.toInt := rfl
            refine ok_bnd (Q := fun (z : Int32) => (0 ≤ z.toInt ∧ z.toInt ≤ 7)) ?_ ?_
            · refine ok_if (fun c4 => ?_) (fun c4 => ?_)
              · have dc4 := tl_le tn_m1 ix16 c4
                refine ok_ltI (av_sub ix3 tn_1 (by omega) (by omega)) (fun x81 ix81 => ?_)
                refine ok_bnd (Q := fun (z : Int32) => (0 ≤ z.toInt ∧ z.toInt ≤ 7)) ?_ ?_
                · refine ok_if (fun c5 => ?_) (fun c5 => ?_)
                  · have dc5 := tl_lt ix16 ix81 c5
                    refine ok_ltI (av_add ix16 tn_1 (by omega) (by omega)) (fun x84 ix84 => ?_)
                    exact ok_some (ti_bd ix84 (by omega) (by omega))
                  · have dc5 := tl_nlt ix16 ix81 c5
                    refine ok_ltI (av_sub ix3 tn_1 (by omega) (by omega)) (fun x85 ix85 => ?_)
                    exact ok_some (ti_bd ix85 (by omega) (by omega))
                · intro y82 hyy82
                  have ly82 := hyy82
                  have iy82 : TI y82 y82.toInt := rfl
                  exact ok_some (ti_bd iy82 (by omega) (by omega))
              · have dc4 := tl_nle tn_m1 ix16 c4
                exact ok_some (ti_bd tn_0 (by omega) (by omega))
            · intro y21 hyy21
              have ly21 := hyy21
              have iy21 : TI y21 y21.toInt := rfl
              refine ok_bnd (Q := fun (z : Int32) => (0 ≤ z.toInt ∧ z.toInt ≤ 15)) ?_ ?_
              · refine ok_if (fun c6 => ?_) (fun c6 => ?_)
                · have dc6 := tl_le tn_0 ix19 c6
                  refine ok_bnd (Q := fun (z : Int32) => (0 ≤ z.toInt ∧ z.toInt ≤ 15)) ?_ ?_
                  · refine ok_if (fun c7 => ?_) (fun c7 => ?_)
                    · have dc7 := tl_lt ix19 ix5 c7
                      exact ok_some (ti_bd ix19 (by omega) (by omega))
                    · have dc7 := tl_nlt ix19 ix5 c7
                      refine ok_ltI (av_sub ix5 tn_1 (by omega) (by omega)) (fun x79 ix79 => ?_)
                      exact ok_some (ti_bd ix79 (by omega) (by omega))
                  · intro y77 hyy77
                    have ly77 := hyy77
                    have iy77 : TI y77 y77.toInt := rfl
                    exact ok_some (ti_bd iy77 (by omega) (by omega))
                · have dc6 := tl_nle tn_0 ix19 c6
                  exact ok_some (ti_bd tn_0 (by omega) (by omega))
              · intro y22 hyy22
                have ly22 := hyy22
                have iy22 : TI y22 y22.toInt := rfl
                refine ok_ltI (av_mul iy22 ix3 (by omega) (by omega)) (fun x23 ix23 => ?_)
                refine ok_bnd (Q := fun (z : Int32) => (0 ≤ z.toInt ∧ z.toInt ≤ 15)) ?_ ?_
                · refine ok_if (fun c8 => ?_) (fun c8 => ?_)
                  · have dc8 := tl_le tn_m1 ix19 c8
                    refine ok_ltI (av_sub ix5 tn_1 (by omega) (by omega)) (fun x71 ix71 => ?_)
                    refine ok_bnd (Q := fun (z : Int32) => (0 ≤ z.toInt ∧ z.toInt ≤ 15)) ?_ ?_
                    · refine ok_if (fun c9 => ?_) (fun c9 => ?_)
                      · have dc9 := tl_lt ix19 ix71 c9
                        refine ok_ltI (av_add ix19 tn_1 (by omega) (by omega)) (fun x74 ix74 => ?_)
                        exact ok_some (ti_bd ix74 (by omega) (by omega))
                      · have dc9 := tl_nlt ix19 ix71 c9
                        refine ok_ltI (av_sub ix5 tn_1 (by omega) (by omega)) (fun x75 ix75 => ?_)
                        exact ok_some (ti_bd ix75 (by omega) (by omega))
                    · intro y72 hyy72
                      have ly72 := hyy72
                      have iy72 : TI y72 y72.toInt := rfl
                      exact ok_some (ti_bd iy72 (by omega) (by omega))
                  · have dc8 := tl_nle tn_m1 ix19 c8
                    exact ok_some (ti_bd tn_0 (by omega) (by omega))
                · intro y24 hyy24
                  have ly24 := hyy24
                  have iy24 : TI y24 y24.toInt := rfl
                  refine ok_ltI (av_mul iy24 ix3 (by omega) (by omega)) (fun x25 ix25 => ?_)
                  refine ok_bnd (Q := fun (z : Int32 × DD) => (1 ≤ z.1.toInt ∧ z.1.toInt ≤ 3) ∧ TT G z.2 p 1 L ∧ Fr p [1] M z.2) (ok_itr (fun (z : Int32 × DD) => (1 ≤ z.1.toInt ∧ z.1.toInt ≤ 3) ∧ TT G z.2 p 1 L ∧ Fr p [1] M z.2) (fun z => (3 - z.1.toInt).toNat) ?_ _ _ ?_ ?_) ?_
                  · intro s27 hys27
                    obtain ⟨ls27_1, ts27_2, fs27_2⟩ := hys27
                    have is27_1 : TI s27.1 s27.1.toInt := rfl
                    refine ok_if (fun c10 => ?_) (fun c10 => ?_)
                    · have dc10 := tl_le tn_3 is27_1 c10
                      exact ok_some ⟨(ti_bd is27_1 (by omega) (by omega)), ts27_2, fs27_2⟩
                    · have dc10 := tl_nle tn_3 is27_1 c10
                      refine ok_dr (pr_4 ts27_2 hq0) (by have q := (tt_q0b ts27_2 hq0); omega) (gk_2 ts27_2 hq0) ?_
                      refine ok_chk (nxg (gl_2 ts27_2 hq0) is27_1 (by omega) (by omega)) ?_
                      refine ok_ltI (av_sub tn_8 ix6 (by omega) (by omega)) (fun x33 ix33 => ?_)
                      refine ok_ltI (av_sub tn_8 ix7 (by omega) (by omega)) (fun x34 ix34 => ?_)
                      refine ok_ltA (fun x35 => ?_)
                      refine ok_ltI (av_add ix23 iy20 (by omega) (by omega)) (fun x36 ix36 => ?_)
                      refine ok_dpv ts27_2 hq0 is27_1 (by omega) (by omega) (fun jb37 hjb37 njb37 => ?_)
                      refine ok_chk (nxi njb37 ix36 (by omega) (by omega)) ?_
                      refine ok_ltA (fun x38 => ?_)
                      refine ok_ltA (fun x39 => ?_)
                      refine ok_ltI (av_sub tn_8 ix7 (by omega) (by omega)) (fun x40 ix40 => ?_)
                      refine ok_ltA (fun x41 => ?_)
                      refine ok_ltI (av_add ix23 iy21 (by omega) (by omega)) (fun x42 ix42 => ?_)
                      refine ok_chk (nxi njb37 ix42 (by omega) (by omega)) ?_
                      refine ok_ltA (fun x43 => ?_)
                      refine ok_ltA (fun x44 => ?_)
                      refine ok_ltA (fun x45 => ?_)
                      refine ok_ltI (av_sub tn_8 ix6 (by omega) (by omega)) (fun x46 ix46 => ?_)
                      refine ok_ltA (fun x47 => ?_)
                      refine ok_ltI (av_add ix25 iy20 (by omega) (by omega)) (fun x48 ix48 => ?_)
                      refine ok_chk (nxi njb37 ix48 (by omega) (by omega)) ?_
                      refine ok_ltA (fun x49 => ?_)
                      refine ok_ltA (fun x50 => ?_)
                      refine ok_ltA (fun x51 => ?_)
                      refine ok_ltA (fun x52 => ?_)
                      refine ok_ltI (av_add ix25 iy21 (by omega) (by omega)) (fun x53 ix53 => ?_)
                      refine ok_chk (nxi njb37 ix53 (by omega) (by omega)) ?_
                      refine ok_ltA (fun x54 => ?_)
                      refine ok_ltA (fun x55 => ?_)
                      refine ok_ltA (fun x56 => ?_)
                      refine ok_ltI (av_sub is27_1 tn_1 (by omega) (by omega)) (fun x57 ix57 => ?_)
                      refine ok_ltI (av_mul tn_64 ix57 (by omega) (by omega)) (fun x58 ix58 => ?_)
                      refine ok_ltI (av_add i5 ix58 (by omega) (by omega)) (fun x59 ix59 => ?_)
                      refine ok_chk (nz i3 (by omega)) ?_
                      refine ok_ltI (av_div is9_1 i3 (by omega) (by omega)) (fun x60 ix60 => ?_)
                      refine ok_ltI (av_mul ix60 tn_8 (by omega) (by omega)) (fun x61 ix61 => ?_)
                      refine ok_ltI (av_add ix59 ix61 (by omega) (by omega)) (fun x62 ix62 => ?_)
                      refine ok_chk (nz i3 (by omega)) ?_
                      refine ok_ltI (av_mod is9_1 i3 (by omega) (by omega)) (fun x63 ix63 => ?_)
                      refine ok_ltI (av_add ix62 ix63 (by omega) (by omega)) (fun x64 ix64 => ?_)
                      refine ok_ltA (fun x65 => ?_)
                      refine ok_ltA (fun x66 => ?_)
                      refine ok_dr rfl (g_lt ts27_2 (two_lt hc4)) (gk_two ts27_2 hc4) ?_
                      refine ok_chk (nxg (gl_two ts27_2 hc4) ix64 (by omega) (by omega)) ?_
                      refine ok_ltt (fun M68 eM68 => ?_)
                      have tM68 : TT G M68 p 1 L := by rw [eM68]; exact (tt_two ts27_2 hc4)
                      have fM68 : Fr p [1] M M68 := by rw [eM68]; exact (fr_w fs27_2 (pc_two hc4 rfl))
                      clear eM68
                      refine ok_ltI (av_add is27_1 tn_1 (by omega) (by omega)) (fun x69 ix69 => ?_)
                      exact ok_some ⟨⟨(ti_bd ix69 (by omega) (by omega)), tM68, fM68⟩, (mu_up ix69 (by omega) (by omega))⟩
                  · exact ⟨(ti_bd tn_1 (by omega) (by omega)), ts9_2, fs9_2⟩
                  · exact mu_0 tn_1 (by omega)
                  · intro y26 hyy26
                    obtain ⟨ly26_1, ty26_2, fy26_2⟩ := hyy26
                    have iy26_1 : TI y26.1 y26.1.toInt := rfl
                    refine ok_ltI (av_add is9_1 tn_1 (by omega) (by omega)) (fun x29 ix29 => ?_)
                    exact ok_some ⟨⟨(ti_bd ix29 (by omega) (by omega)), ty26_2, fy26_2⟩, (mu_up ix29 (by omega) (by omega))⟩
      · exact ⟨(ti_bd tn_0 (by omega) (by omega)), t, (fr_0 p [1] M)⟩
      · exact mu_0 tn_0 (by omega)
      · intro y8 hyy8
        obtain ⟨ly8_1, ty8_2, fy8_2⟩ := hyy8
        have iy8_1 : TI y8.1 y8.1.toInt := rfl
        exact ok_some ⟨ty8_2, fy8_2⟩
  · rcases h0 with rfl | rfl | rfl
    · refine ok_dr rfl (by have q := (tt_q0b t hq0); omega) (gk_0 t hq0) ?_
      refine ok_ltI (tw_q t hq0) (fun x2 ix2 => ?_)
      refine ok_ltI (av_mul tn_8 ix2 (by omega) (by omega)) (fun x3 ix3 => ?_)
      refine ok_ltI (th_q t hq0) (fun x4 ix4 => ?_)
      refine ok_ltI (av_mul tn_8 ix4 (by omega) (by omega)) (fun x5 ix5 => ?_)
      refine ok_ltI (av_and 3 i1 (by decide) (by decide)) (fun x6 ix6 => ?_)
      refine ok_ltI (av_and 3 i2 (by decide) (by decide)) (fun x7 ix7 => ?_)
      refine ok_bnd (Q := fun (z : Int32 × DD) => (0 ≤ z.1.toInt ∧ z.1.toInt ≤ (2 * 2)) ∧ TT G z.2 p 2 L ∧ Fr p [1] M z.2) (ok_itr (fun (z : Int32 × DD) => (0 ≤ z.1.toInt ∧ z.1.toInt ≤ (2 * 2)) ∧ TT G z.2 p 2 L ∧ Fr p [1] M z.2) (fun z => ((2 * 2) - z.1.toInt).toNat) ?_ _ _ ?_ ?_) ?_
      · intro s9 hys9
        obtain ⟨ls9_1, ts9_2, fs9_2⟩ := hys9
        have is9_1 : TI s9.1 s9.1.toInt := rfl
        refine ok_ltI (av_mul i3 i3 (by omega) (by omega)) (fun x12 ix12 => ?_)
        refine ok_if (fun c1 => ?_) (fun c1 => ?_)
        · have dc1 := tl_le ix12 is9_1 c1
          exact ok_some ⟨(ti_bd is9_1 (by omega) (by omega)), ts9_2, fs9_2⟩
        · have dc1 := tl_nle ix12 is9_1 c1
          refine ok_ltI (av_sar 3 i1 (by decide)) (fun x14 ix14 => ?_)
          refine ok_chk (nz i3 (by omega)) ?_
          refine ok_ltI (av_mod is9_1 i3 (by omega) (by omega)) (fun x15 ix15 => ?_)
          refine ok_ltI (av_add ix14 ix15 (by omega) (by omega)) (fun x16 ix16 => ?_)
          refine ok_ltI (av_sar 3 i2 (by decide)) (fun x17 ix17 => ?_)
          refine ok_chk (nz i3 (by omega)) ?_
          refine ok_ltI (av_div is9_1 i3 (by omega) (by omega)) (fun x18 ix18 => ?_)
          refine ok_ltI (av_add ix17 ix18 (by omega) (by omega)) (fun x19 ix19 => ?_)
          refine ok_bnd (Q := fun (z : Int32) => (0 ≤ z.toInt ∧ z.toInt ≤ 15)) ?_ ?_
          · refine ok_if (fun c2 => ?_) (fun c2 => ?_)
            · have dc2 := tl_le tn_0 ix16 c2
              refine ok_bnd (Q := fun (z : Int32) => (0 ≤ z.toInt ∧ z.toInt ≤ 15)) ?_ ?_
              · refine ok_if (fun c3 => ?_) (fun c3 => ?_)
                · have dc3 := tl_lt ix16 ix3 c3
                  exact ok_some (ti_bd ix16 (by omega) (by omega))
                · have dc3 := tl_nlt ix16 ix3 c3
                  refine ok_ltI (av_sub ix3 tn_1 (by omega) (by omega)) (fun x89 ix89 => ?_)
                  exact ok_some (ti_bd ix89 (by omega) (by omega))
              · intro y87 hyy87
                have ly87 := hyy87
                have iy87 : TI y87 y87.toInt := rfl
                exact ok_some (ti_bd iy87 (by omega) (by omega))
            · have dc2 := tl_nle tn_0 ix16 c2
              exact ok_some (ti_bd tn_0 (by omega) (by omega))
          · intro y20 hyy20
            have ly20 := hyy20
            have iy20 : TI y20 y20.toInt := rfl
            refine ok_bnd (Q := fun (z : Int32) => (0 ≤ z.toInt ∧ z.toInt ≤ 15)) ?_ ?_
            · refine ok_if (fun c4 => ?_) (fun c4 => ?_)
              · have dc4 := tl_le tn_m1 ix16 c4
                refine ok_ltI (av_sub ix3 tn_1 (by omega) (by omega)) (fun x81 ix81 => ?_)
                refine ok_bnd (Q := fun (z : Int32) => (0 ≤ z.toInt ∧ z.toInt ≤ 15)) ?_ ?_
                · refine ok_if (fun c5 => ?_) (fun c5 => ?_)
                  · have dc5 := tl_lt ix16 ix81 c5
                    refine ok_ltI (av_add ix16 tn_1 (by omega) (by omega)) (fun x84 ix84 => ?_)
                    exact ok_some (ti_bd ix84 (by omega) (by omega))
                  · have dc5 := tl_nlt ix16 ix81 c5
                    refine ok_ltI (av_sub ix3 tn_1 (by omega) (by omega)) (fun x85 ix85 => ?_)
                    exact ok_some (ti_bd ix85 (by omega) (by omega))
                · intro y82 hyy82
                  have ly82 := hyy82
                  have iy82 : TI y82 y82.toInt := rfl
                  exact ok_some (ti_bd iy82 (by omega) (by omega))
              · have dc4 := tl_nle tn_m1 ix16 c4
                exact ok_some (ti_bd tn_0 (by omega) (by omega))
            · intro y21 hyy21
              have ly21 := hyy21
              have iy21 : TI y21 y21.toInt := rfl
              refine ok_bnd (Q := fun (z : Int32) => (0 ≤ z.toInt ∧ z.toInt ≤ 15)) ?_ ?_
              · refine ok_if (fun c6 => ?_) (fun c6 => ?_)
                · have dc6 := tl_le tn_0 ix19 c6
                  refine ok_bnd (Q := fun (z : Int32) => (0 ≤ z.toInt ∧ z.toInt ≤ 15)) ?_ ?_
                  · refine ok_if (fun c7 => ?_) (fun c7 => ?_)
                    · have dc7 := tl_lt ix19 ix5 c7
                      exact ok_some (ti_bd ix19 (by omega) (by omega))
                    · have dc7 := tl_nlt ix19 ix5 c7
                      refine ok_ltI (av_sub ix5 tn_1 (by omega) (by omega)) (fun x79 ix79 => ?_)
                      exact ok_some (ti_bd ix79 (by omega) (by omega))
                  · intro y77 hyy77
                    have ly77 := hyy77
                    have iy77 : TI y77 y77.toInt := rfl
                    exact ok_some (ti_bd iy77 (by omega) (by omega))
                · have dc6 := tl_nle tn_0 ix19 c6
                  exact ok_some (ti_bd tn_0 (by omega) (by omega))
              · intro y22 hyy22
                have ly22 := hyy22
                have iy22 : TI y22 y22.toInt := rfl
                refine ok_ltI (av_mul iy22 ix3 (by omega) (by omega)) (fun x23 ix23 => ?_)
                refine ok_bnd (Q := fun (z : Int32) => (0 ≤ z.toInt ∧ z.toInt ≤ 15)) ?_ ?_
                · refine ok_if (fun c8 => ?_) (fun c8 => ?_)
                  · have dc8 := tl_le tn_m1 ix19 c8
                    refine ok_ltI (av_sub ix5 tn_1 (by omega) (by omega)) (fun x71 ix71 => ?_)
                    refine ok_bnd (Q := fun (z : Int32) => (0 ≤ z.toInt ∧ z.toInt ≤ 15)) ?_ ?_
                    · refine ok_if (fun c9 => ?_) (fun c9 => ?_)
                      · have dc9 := tl_lt ix19 ix71 c9
                        refine ok_ltI (av_add ix19 tn_1 (by omega) (by omega)) (fun x74 ix74 => ?_)
                        exact ok_some (ti_bd ix74 (by omega) (by omega))
                      · have dc9 := tl_nlt ix19 ix71 c9
                        refine ok_ltI (av_sub ix5 tn_1 (by omega) (by omega)) (fun x75 ix75 => ?_)
                        exact ok_some (ti_bd ix75 (by omega) (by omega))
                    · intro y72 hyy72
                      have ly72 := hyy72
                      have iy72 : TI y72 y72.toInt := rfl
                      exact ok_some (ti_bd iy72 (by omega) (by omega))
                  · have dc8 := tl_nle tn_m1 ix19 c8
                    exact ok_some (ti_bd tn_0 (by omega) (by omega))
                · intro y24 hyy24
                  have ly24 := hyy24
                  have iy24 : TI y24 y24.toInt := rfl
                  refine ok_ltI (av_mul iy24 ix3 (by omega) (by omega)) (fun x25 ix25 => ?_)
                  refine ok_bnd (Q := fun (z : Int32 × DD) => (1 ≤ z.1.toInt ∧ z.1.toInt ≤ 3) ∧ TT G z.2 p 2 L ∧ Fr p [1] M z.2) (ok_itr (fun (z : Int32 × DD) => (1 ≤ z.1.toInt ∧ z.1.toInt ≤ 3) ∧ TT G z.2 p 2 L ∧ Fr p [1] M z.2) (fun z => (3 - z.1.toInt).toNat) ?_ _ _ ?_ ?_) ?_
                  · intro s27 hys27
                    obtain ⟨ls27_1, ts27_2, fs27_2⟩ := hys27
                    have is27_1 : TI s27.1 s27.1.toInt := rfl
                    refine ok_if (fun c10 => ?_) (fun c10 => ?_)
                    · have dc10 := tl_le tn_3 is27_1 c10
                      exact ok_some ⟨(ti_bd is27_1 (by omega) (by omega)), ts27_2, fs27_2⟩
                    · have dc10 := tl_nle tn_3 is27_1 c10
                      refine ok_dr (pr_4 ts27_2 hq0) (by have q := (tt_q0b ts27_2 hq0); omega) (gk_2 ts27_2 hq0) ?_
                      refine ok_chk (nxg (gl_2 ts27_2 hq0) is27_1 (by omega) (by omega)) ?_
                      refine ok_ltI (av_sub tn_8 ix6 (by omega) (by omega)) (fun x33 ix33 => ?_)
                      refine ok_ltI (av_sub tn_8 ix7 (by omega) (by omega)) (fun x34 ix34 => ?_)
                      refine ok_ltA (fun x35 => ?_)
                      refine ok_ltI (av_add ix23 iy20 (by omega) (by omega)) (fun x36 ix36 => ?_)
                      refine ok_dpv ts27_2 hq0 is27_1 (by omega) (by omega) (fun jb37 hjb37 njb37 => ?_)
                      refine ok_chk (nxi njb37 ix36 (by omega) (by omega)) ?_
                      refine ok_ltA (fun x38 => ?_)
                      refine ok_ltA (fun x39 => ?_)
                      refine ok_ltI (av_sub tn_8 ix7 (by omega) (by omega)) (fun x40 ix40 => ?_)
                      refine ok_ltA (fun x41 => ?_)
                      refine ok_ltI (av_add ix23 iy21 (by omega) (by omega)) (fun x42 ix42 => ?_)
                      refine ok_chk (nxi njb37 ix42 (by omega) (by omega)) ?_
                      refine ok_ltA (fun x43 => ?_)
                      refine ok_ltA (fun x44 => ?_)
                      refine ok_ltA (fun x45 => ?_)
                      refine ok_ltI (av_sub tn_8 ix6 (by omega) (by omega)) (fun x46 ix46 => ?_)
                      refine ok_ltA (fun x47 => ?_)
                      refine ok_ltI (av_add ix25 iy20 (by omega) (by omega)) (fun x48 ix48 => ?_)
                      refine ok_chk (nxi njb37 ix48 (by omega) (by omega)) ?_
                      refine ok_ltA (fun x49 => ?_)
                      refine ok_ltA (fun x50 => ?_)
                      refine ok_ltA (fun x51 => ?_)
                      refine ok_ltA (fun x52 => ?_)
                      refine ok_ltI (av_add ix25 iy21 (by omega) (by omega)) (fun x53 ix53 => ?_)
                      refine ok_chk (nxi njb37 ix53 (by omega) (by omega)) ?_
                      refine ok_ltA (fun x54 => ?_)
                      refine ok_ltA (fun x55 => ?_)
                      refine ok_ltA (fun x56 => ?_)
                      refine ok_ltI (av_sub is27_1 tn_1 (by omega) (by omega)) (fun x57 ix57 => ?_)
                      refine ok_ltI (av_mul tn_64 ix57 (by omega) (by omega)) (fun x58 ix58 => ?_)
                      refine ok_ltI (av_add i5 ix58 (by omega) (by omega)) (fun x59 ix59 => ?_)
                      refine ok_chk (nz i3 (by omega)) ?_
                      refine ok_ltI (av_div is9_1 i3 (by omega) (by omega)) (fun x60 ix60 => ?_)
                      refine ok_ltI (av_mul ix60 tn_8 (by omega) (by omega)) (fun x61 ix61 => ?_)
                      refine ok_ltI (av_add ix59 ix61 (by omega) (by omega)) (fun x62 ix62 => ?_)
                      refine ok_chk (nz i3 (by omega)) ?_
                      refine ok_ltI (av_mod is9_1 i3 (by omega) (by omega)) (fun x63 ix63 => ?_)
                      refine ok_ltI (av_add ix62 ix63 (by omega) (by omega)) (fun x64 ix64 => ?_)
                      refine ok_ltA (fun x65 => ?_)
                      refine ok_ltA (fun x66 => ?_)
                      refine ok_dr rfl (g_lt ts27_2 (two_lt hc4)) (gk_two ts27_2 hc4) ?_
                      refine ok_chk (nxg (gl_two ts27_2 hc4) ix64 (by omega) (by omega)) ?_
                      refine ok_ltt (fun M68 eM68 => ?_)
                      have tM68 : TT G M68 p 2 L := by rw [eM68]; exact (tt_two ts27_2 hc4)
                      have fM68 : Fr p [1] M M68 := by rw [eM68]; exact (fr_w fs27_2 (pc_two hc4 rfl))
                      clear eM68
                      refine ok_ltI (av_add is27_1 tn_1 (by omega) (by omega)) (fun x69 ix69 => ?_)
                      exact ok_some ⟨⟨(ti_bd ix69 (by omega) (by omega)), tM68, fM68⟩, (mu_up ix69 (by omega) (by omega))⟩
                  · exact ⟨(ti_bd tn_1 (by omega) (by omega)), ts9_2, fs9_2⟩
                  · exact mu_0 tn_1 (by omega)
                  · intro y26 hyy26
                    obtain ⟨ly26_1, ty26_2, fy26_2⟩ := hyy26
                    have iy26_1 : TI y26.1 y26.1.toInt := rfl
                    refine ok_ltI (av_add is9_1 tn_1 (by omega) (by omega)) (fun x29 ix29 => ?_)
                    exact ok_some ⟨⟨(ti_bd ix29 (by omega) (by omega)), ty26_2, fy26_2⟩, (mu_up ix29 (by omega) (by omega))⟩
      · exact ⟨(ti_bd tn_0 (by omega) (by omega)), t, (fr_0 p [1] M)⟩
      · exact mu_0 tn_0 (by omega)
      · intro y8 hyy8
        obtain ⟨ly8_1, ty8_2, fy8_2⟩ := hyy8
        have iy8_1 : TI y8.1 y8.1.toInt := rfl
        exact ok_some ⟨ty8_2, fy8_2⟩
    · refine ok_dr rfl (by have q := (tt_q0b t hq0); omega) (gk_0 t hq0) ?_
      refine ok_ltI (tw_q t hq0) (fun x2 ix2 => ?_)
      refine ok_ltI (av_mul tn_8 ix2 (by omega) (by omega)) (fun x3 ix3 => ?_)
      refine ok_ltI (th_q t hq0) (fun x4 ix4 => ?_)
      refine ok_ltI (av_mul tn_8 ix4 (by omega) (by omega)) (fun x5 ix5 => ?_)
      refine ok_ltI (av_and 3 i1 (by decide) (by decide)) (fun x6 ix6 => ?_)
      refine ok_ltI (av_and 3 i2 (by decide) (by decide)) (fun x7 ix7 => ?_)
      refine ok_bnd (Q := fun (z : Int32 × DD) => (0 ≤ z.1.toInt ∧ z.1.toInt ≤ (4 * 4)) ∧ TT G z.2 p 2 L ∧ Fr p [1] M z.2) (ok_itr (fun (z : Int32 × DD) => (0 ≤ z.1.toInt ∧ z.1.toInt ≤ (4 * 4)) ∧ TT G z.2 p 2 L ∧ Fr p [1] M z.2) (fun z => ((4 * 4) - z.1.toInt).toNat) ?_ _ _ ?_ ?_) ?_
      · intro s9 hys9
        obtain ⟨ls9_1, ts9_2, fs9_2⟩ := hys9
        have is9_1 : TI s9.1 s9.1.toInt := rfl
        refine ok_ltI (av_mul i3 i3 (by omega) (by omega)) (fun x12 ix12 => ?_)
        refine ok_if (fun c1 => ?_) (fun c1 => ?_)
        · have dc1 := tl_le ix12 is9_1 c1
          exact ok_some ⟨(ti_bd is9_1 (by omega) (by omega)), ts9_2, fs9_2⟩
        · have dc1 := tl_nle ix12 is9_1 c1
          refine ok_ltI (av_sar 3 i1 (by decide)) (fun x14 ix14 => ?_)
          refine ok_chk (nz i3 (by omega)) ?_
          refine ok_ltI (av_mod is9_1 i3 (by omega) (by omega)) (fun x15 ix15 => ?_)
          refine ok_ltI (av_add ix14 ix15 (by omega) (by omega)) (fun x16 ix16 => ?_)
          refine ok_ltI (av_sar 3 i2 (by decide)) (fun x17 ix17 => ?_)
          refine ok_chk (nz i3 (by omega)) ?_
          refine ok_ltI (av_div is9_1 i3 (by omega) (by omega)) (fun x18 ix18 => ?_)
          refine ok_ltI (av_add ix17 ix18 (by omega) (by omega)) (fun x19 ix19 => ?_)
          refine ok_bnd (Q := fun (z : Int32) => (0 ≤ z.toInt ∧ z.toInt ≤ 15)) ?_ ?_
          · refine ok_if (fun c2 => ?_) (fun c2 => ?_)
            · have dc2 := tl_le tn_0 ix16 c2
              refine ok_bnd (Q := fun (z : Int32) => (0 ≤ z.toInt ∧ z.toInt ≤ 15)) ?_ ?_
              · refine ok_if (fun c3 => ?_) (fun c3 => ?_)
                · have dc3 := tl_lt ix16 ix3 c3
                  exact ok_some (ti_bd ix16 (by omega) (by omega))
                · have dc3 := tl_nlt ix16 ix3 c3
                  refine ok_ltI (av_sub ix3 tn_1 (by omega) (by omega)) (fun x89 ix89 => ?_)
                  exact ok_some (ti_bd ix89 (by omega) (by omega))
              · intro y87 hyy87
                have ly87 := hyy87
                have iy87 : TI y87 y87.toInt := rfl
                exact ok_some (ti_bd iy87 (by omega) (by omega))
            · have dc2 := tl_nle tn_0 ix16 c2
              exact ok_some (ti_bd tn_0 (by omega) (by omega))
          · intro y20 hyy20
            have ly20 := hyy20
            have iy20 : TI y20 y20.toInt := rfl
            refine ok_bnd (Q := fun (z : Int32) => (0 ≤ z.toInt ∧ z.toInt ≤ 15)) ?_ ?_
            · refine ok_if (fun c4 => ?_) (fun c4 => ?_)
              · have dc4 := tl_le tn_m1 ix16 c4
                refine ok_ltI (av_sub ix3 tn_1 (by omega) (by omega)) (fun x81 ix81 => ?_)
                refine ok_bnd (Q := fun (z : Int32) => (0 ≤ z.toInt ∧ z.toInt ≤ 15)) ?_ ?_
                · refine ok_if (fun c5 => ?_) (fun c5 => ?_)
                  · have dc5 := tl_lt ix16 ix81 c5
                    refine ok_ltI (av_add ix16 tn_1 (by omega) (by omega)) (fun x84 ix84 => ?_)
                    exact ok_some (ti_bd ix84 (by omega) (by omega))
                  · have dc5 := tl_nlt ix16 ix81 c5
                    refine ok_ltI (av_sub ix3 tn_1 (by omega) (by omega)) (fun x85 ix85 => ?_)
                    exact ok_some (ti_bd ix85 (by omega) (by omega))
                · intro y82 hyy82
                  have ly82 := hyy82
                  have iy82 : TI y82 y82.toInt := rfl
                  exact ok_some (ti_bd iy82 (by omega) (by omega))
              · have dc4 := tl_nle tn_m1 ix16 c4
                exact ok_some (ti_bd tn_0 (by omega) (by omega))
            · intro y21 hyy21
              have ly21 := hyy21
              have iy21 : TI y21 y21.toInt := rfl
              refine ok_bnd (Q := fun (z : Int32) => (0 ≤ z.toInt ∧ z.toInt ≤ 15)) ?_ ?_
              · refine ok_if (fun c6 => ?_) (fun c6 => ?_)
                · have dc6 := tl_le tn_0 ix19 c6
                  refine ok_bnd (Q := fun (z : Int32) => (0 ≤ z.toInt ∧ z.toInt ≤ 15)) ?_ ?_
                  · refine ok_if (fun c7 => ?_) (fun c7 => ?_)
                    · have dc7 := tl_lt ix19 ix5 c7
                      exact ok_some (ti_bd ix19 (by omega) (by omega))
                    · have dc7 := tl_nlt ix19 ix5 c7
                      refine ok_ltI (av_sub ix5 tn_1 (by omega) (by omega)) (fun x79 ix79 => ?_)
                      exact ok_some (ti_bd ix79 (by omega) (by omega))
                  · intro y77 hyy77
                    have ly77 := hyy77
                    have iy77 : TI y77 y77.toInt := rfl
                    exact ok_some (ti_bd iy77 (by omega) (by omega))
                · have dc6 := tl_nle tn_0 ix19 c6
                  exact ok_some (ti_bd tn_0 (by omega) (by omega))
              · intro y22 hyy22
                have ly22 := hyy22
                have iy22 : TI y22 y22.toInt := rfl
                refine ok_ltI (av_mul iy22 ix3 (by omega) (by omega)) (fun x23 ix23 => ?_)
                refine ok_bnd (Q := fun (z : Int32) => (0 ≤ z.toInt ∧ z.toInt ≤ 15)) ?_ ?_
                · refine ok_if (fun c8 => ?_) (fun c8 => ?_)
                  · have dc8 := tl_le tn_m1 ix19 c8
                    refine ok_ltI (av_sub ix5 tn_1 (by omega) (by omega)) (fun x71 ix71 => ?_)
                    refine ok_bnd (Q := fun (z : Int32) => (0 ≤ z.toInt ∧ z.toInt ≤ 15)) ?_ ?_
                    · refine ok_if (fun c9 => ?_) (fun c9 => ?_)
                      · have dc9 := tl_lt ix19 ix71 c9
                        refine ok_ltI (av_add ix19 tn_1 (by omega) (by omega)) (fun x74 ix74 => ?_)
                        exact ok_some (ti_bd ix74 (by omega) (by omega))
                      · have dc9 := tl_nlt ix19 ix71 c9
                        refine ok_ltI (av_sub ix5 tn_1 (by omega) (by omega)) (fun x75 ix75 => ?_)
                        exact ok_some (ti_bd ix75 (by omega) (by omega))
                    · intro y72 hyy72
                      have ly72 := hyy72
                      have iy72 : TI y72 y72.toInt := rfl
                      exact ok_some (ti_bd iy72 (by omega) (by omega))
                  · have dc8 := tl_nle tn_m1 ix19 c8
                    exact ok_some (ti_bd tn_0 (by omega) (by omega))
                · intro y24 hyy24
                  have ly24 := hyy24
                  have iy24 : TI y24 y24.toInt := rfl
                  refine ok_ltI (av_mul iy24 ix3 (by omega) (by omega)) (fun x25 ix25 => ?_)
                  refine ok_bnd (Q := fun (z : Int32 × DD) => (1 ≤ z.1.toInt ∧ z.1.toInt ≤ 3) ∧ TT G z.2 p 2 L ∧ Fr p [1] M z.2) (ok_itr (fun (z : Int32 × DD) => (1 ≤ z.1.toInt ∧ z.1.toInt ≤ 3) ∧ TT G z.2 p 2 L ∧ Fr p [1] M z.2) (fun z => (3 - z.1.toInt).toNat) ?_ _ _ ?_ ?_) ?_
                  · intro s27 hys27
                    obtain ⟨ls27_1, ts27_2, fs27_2⟩ := hys27
                    have is27_1 : TI s27.1 s27.1.toInt := rfl
                    refine ok_if (fun c10 => ?_) (fun c10 => ?_)
                    · have dc10 := tl_le tn_3 is27_1 c10
                      exact ok_some ⟨(ti_bd is27_1 (by omega) (by omega)), ts27_2, fs27_2⟩
                    · have dc10 := tl_nle tn_3 is27_1 c10
                      refine ok_dr (pr_4 ts27_2 hq0) (by have q := (tt_q0b ts27_2 hq0); omega) (gk_2 ts27_2 hq0) ?_
                      refine ok_chk (nxg (gl_2 ts27_2 hq0) is27_1 (by omega) (by omega)) ?_
                      refine ok_ltI (av_sub tn_8 ix6 (by omega) (by omega)) (fun x33 ix33 => ?_)
                      refine ok_ltI (av_sub tn_8 ix7 (by omega) (by omega)) (fun x34 ix34 => ?_)
                      refine ok_ltA (fun x35 => ?_)
                      refine ok_ltI (av_add ix23 iy20 (by omega) (by omega)) (fun x36 ix36 => ?_)
                      refine ok_dpv ts27_2 hq0 is27_1 (by omega) (by omega) (fun jb37 hjb37 njb37 => ?_)
                      refine ok_chk (nxi njb37 ix36 (by omega) (by omega)) ?_
                      refine ok_ltA (fun x38 => ?_)
                      refine ok_ltA (fun x39 => ?_)
                      refine ok_ltI (av_sub tn_8 ix7 (by omega) (by omega)) (fun x40 ix40 => ?_)
                      refine ok_ltA (fun x41 => ?_)
                      refine ok_ltI (av_add ix23 iy21 (by omega) (by omega)) (fun x42 ix42 => ?_)
                      refine ok_chk (nxi njb37 ix42 (by omega) (by omega)) ?_
                      refine ok_ltA (fun x43 => ?_)
                      refine ok_ltA (fun x44 => ?_)
                      refine ok_ltA (fun x45 => ?_)
                      refine ok_ltI (av_sub tn_8 ix6 (by omega) (by omega)) (fun x46 ix46 => ?_)
                      refine ok_ltA (fun x47 => ?_)
                      refine ok_ltI (av_add ix25 iy20 (by omega) (by omega)) (fun x48 ix48 => ?_)
                      refine ok_chk (nxi njb37 ix48 (by omega) (by omega)) ?_
                      refine ok_ltA (fun x49 => ?_)
                      refine ok_ltA (fun x50 => ?_)
                      refine ok_ltA (fun x51 => ?_)
                      refine ok_ltA (fun x52 => ?_)
                      refine ok_ltI (av_add ix25 iy21 (by omega) (by omega)) (fun x53 ix53 => ?_)
                      refine ok_chk (nxi njb37 ix53 (by omega) (by omega)) ?_
                      refine ok_ltA (fun x54 => ?_)
                      refine ok_ltA (fun x55 => ?_)
                      refine ok_ltA (fun x56 => ?_)
                      refine ok_ltI (av_sub is27_1 tn_1 (by omega) (by omega)) (fun x57 ix57 => ?_)
                      refine ok_ltI (av_mul tn_64 ix57 (by omega) (by omega)) (fun x58 ix58 => ?_)
                      refine ok_ltI (av_add i5 ix58 (by omega) (by omega)) (fun x59 ix59 => ?_)
                      refine ok_chk (nz i3 (by omega)) ?_
                      refine ok_ltI (av_div is9_1 i3 (by omega) (by omega)) (fun x60 ix60 => ?_)
                      refine ok_ltI (av_mul ix60 tn_8 (by omega) (by omega)) (fun x61 ix61 => ?_)
                      refine ok_ltI (av_add ix59 ix61 (by omega) (by omega)) (fun x62 ix62 => ?_)
                      refine ok_chk (nz i3 (by omega)) ?_
                      refine ok_ltI (av_mod is9_1 i3 (by omega) (by omega)) (fun x63 ix63 => ?_)
                      refine ok_ltI (av_add ix62 ix63 (by omega) (by omega)) (fun x64 ix64 => ?_)
                      refine ok_ltA (fun x65 => ?_)
                      refine ok_ltA (fun x66 => ?_)
                      refine ok_dr rfl (g_lt ts27_2 (two_lt hc4)) (gk_two ts27_2 hc4) ?_
                      refine ok_chk (nxg (gl_two ts27_2 hc4) ix64 (by omega) (by omega)) ?_
                      refine ok_ltt (fun M68 eM68 => ?_)
                      have tM68 : TT G M68 p 2 L := by rw [eM68]; exact (tt_two ts27_2 hc4)
                      have fM68 : Fr p [1] M M68 := by rw [eM68]; exact (fr_w fs27_2 (pc_two hc4 rfl))
                      clear eM68
                      refine ok_ltI (av_add is27_1 tn_1 (by omega) (by omega)) (fun x69 ix69 => ?_)
                      exact ok_some ⟨⟨(ti_bd ix69 (by omega) (by omega)), tM68, fM68⟩, (mu_up ix69 (by omega) (by omega))⟩
                  · exact ⟨(ti_bd tn_1 (by omega) (by omega)), ts9_2, fs9_2⟩
                  · exact mu_0 tn_1 (by omega)
                  · intro y26 hyy26
                    obtain ⟨ly26_1, ty26_2, fy26_2⟩ := hyy26
                    have iy26_1 : TI y26.1 y26.1.toInt := rfl
                    refine ok_ltI (av_add is9_1 tn_1 (by omega) (by omega)) (fun x29 ix29 => ?_)
                    exact ok_some ⟨⟨(ti_bd ix29 (by omega) (by omega)), ty26_2, fy26_2⟩, (mu_up ix29 (by omega) (by omega))⟩
      · exact ⟨(ti_bd tn_0 (by omega) (by omega)), t, (fr_0 p [1] M)⟩
      · exact mu_0 tn_0 (by omega)
      · intro y8 hyy8
        obtain ⟨ly8_1, ty8_2, fy8_2⟩ := hyy8
        have iy8_1 : TI y8.1 y8.1.toInt := rfl
        exact ok_some ⟨ty8_2, fy8_2⟩
    · refine ok_dr rfl (by have q := (tt_q0b t hq0); omega) (gk_0 t hq0) ?_
      refine ok_ltI (tw_q t hq0) (fun x2 ix2 => ?_)
      refine ok_ltI (av_mul tn_8 ix2 (by omega) (by omega)) (fun x3 ix3 => ?_)
      refine ok_ltI (th_q t hq0) (fun x4 ix4 => ?_)
      refine ok_ltI (av_mul tn_8 ix4 (by omega) (by omega)) (fun x5 ix5 => ?_)
      refine ok_ltI (av_and 3 i1 (by decide) (by decide)) (fun x6 ix6 => ?_)
      refine ok_ltI (av_and 3 i2 (by decide) (by decide)) (fun x7 ix7 => ?_)
      refine ok_bnd (Q := fun (z : Int32 × DD) => (0 ≤ z.1.toInt ∧ z.1.toInt ≤ (8 * 8)) ∧ TT G z.2 p 2 L ∧ Fr p [1] M z.2) (ok_itr (fun (z : Int32 × DD) => (0 ≤ z.1.toInt ∧ z.1.toInt ≤ (8 * 8)) ∧ TT G z.2 p 2 L ∧ Fr p [1] M z.2) (fun z => ((8 * 8) - z.1.toInt).toNat) ?_ _ _ ?_ ?_) ?_
      · intro s9 hys9
        obtain ⟨ls9_1, ts9_2, fs9_2⟩ := hys9
        have is9_1 : TI s9.1 s9.1.toInt := rfl
        refine ok_ltI (av_mul i3 i3 (by omega) (by omega)) (fun x12 ix12 => ?_)
        refine ok_if (fun c1 => ?_) (fun c1 => ?_)
        · have dc1 := tl_le ix12 is9_1 c1
          exact ok_some ⟨(ti_bd is9_1 (by omega) (by omega)), ts9_2, fs9_2⟩
        · have dc1 := tl_nle ix12 is9_1 c1
          refine ok_ltI (av_sar 3 i1 (by decide)) (fun x14 ix14 => ?_)
          refine ok_chk (nz i3 (by omega)) ?_
          refine ok_ltI (av_mod is9_1 i3 (by omega) (by omega)) (fun x15 ix15 => ?_)
          refine ok_ltI (av_add ix14 ix15 (by omega) (by omega)) (fun x16 ix16 => ?_)
          refine ok_ltI (av_sar 3 i2 (by decide)) (fun x17 ix17 => ?_)
          refine ok_chk (nz i3 (by omega)) ?_
          refine ok_ltI (av_div is9_1 i3 (by omega) (by omega)) (fun x18 ix18 => ?_)
          refine ok_ltI (av_add ix17 ix18 (by omega) (by omega)) (fun x19 ix19 => ?_)
          refine ok_bnd (Q := fun (z : Int32) => (0 ≤ z.toInt ∧ z.toInt ≤ 15)) ?_ ?_
          · refine ok_if (fun c2 => ?_) (fun c2 => ?_)
            · have dc2 := tl_le tn_0 ix16 c2
              refine ok_bnd (Q := fun (z : Int32) => (0 ≤ z.toInt ∧ z.toInt ≤ 15)) ?_ ?_
              · refine ok_if (fun c3 => ?_) (fun c3 => ?_)
                · have dc3 := tl_lt ix16 ix3 c3
                  exact ok_some (ti_bd ix16 (by omega) (by omega))
                · have dc3 := tl_nlt ix16 ix3 c3
                  refine ok_ltI (av_sub ix3 tn_1 (by omega) (by omega)) (fun x89 ix89 => ?_)
                  exact ok_some (ti_bd ix89 (by omega) (by omega))
              · intro y87 hyy87
                have ly87 := hyy87
                have iy87 : TI y87 y87.toInt := rfl
                exact ok_some (ti_bd iy87 (by omega) (by omega))
            · have dc2 := tl_nle tn_0 ix16 c2
              exact ok_some (ti_bd tn_0 (by omega) (by omega))
          · intro y20 hyy20
            have ly20 := hyy20
            have iy20 : TI y20 y20.toInt := rfl
            refine ok_bnd (Q := fun (z : Int32) => (0 ≤ z.toInt ∧ z.toInt ≤ 15)) ?_ ?_
            · refine ok_if (fun c4 => ?_) (fun c4 => ?_)
              · have dc4 := tl_le tn_m1 ix16 c4
                refine ok_ltI (av_sub ix3 tn_1 (by omega) (by omega)) (fun x81 ix81 => ?_)
                refine ok_bnd (Q := fun (z : Int32) => (0 ≤ z.toInt ∧ z.toInt ≤ 15)) ?_ ?_
                · refine ok_if (fun c5 => ?_) (fun c5 => ?_)
                  · have dc5 := tl_lt ix16 ix81 c5
                    refine ok_ltI (av_add ix16 tn_1 (by omega) (by omega)) (fun x84 ix84 => ?_)
                    exact ok_some (ti_bd ix84 (by omega) (by omega))
                  · have dc5 := tl_nlt ix16 ix81 c5
                    refine ok_ltI (av_sub ix3 tn_1 (by omega) (by omega)) (fun x85 ix85 => ?_)
                    exact ok_some (ti_bd ix85 (by omega) (by omega))
                · intro y82 hyy82
                  have ly82 := hyy82
                  have iy82 : TI y82 y82.toInt := rfl
                  exact ok_some (ti_bd iy82 (by omega) (by omega))
              · have dc4 := tl_nle tn_m1 ix16 c4
                exact ok_some (ti_bd tn_0 (by omega) (by omega))
            · intro y21 hyy21
              have ly21 := hyy21
              have iy21 : TI y21 y21.toInt := rfl
              refine ok_bnd (Q := fun (z : Int32) => (0 ≤ z.toInt ∧ z.toInt ≤ 15)) ?_ ?_
              · refine ok_if (fun c6 => ?_) (fun c6 => ?_)
                · have dc6 := tl_le tn_0 ix19 c6
                  refine ok_bnd (Q := fun (z : Int32) => (0 ≤ z.toInt ∧ z.toInt ≤ 15)) ?_ ?_
                  · refine ok_if (fun c7 => ?_) (fun c7 => ?_)
                    · have dc7 := tl_lt ix19 ix5 c7
                      exact ok_some (ti_bd ix19 (by omega) (by omega))
                    · have dc7 := tl_nlt ix19 ix5 c7
                      refine ok_ltI (av_sub ix5 tn_1 (by omega) (by omega)) (fun x79 ix79 => ?_)
                      exact ok_some (ti_bd ix79 (by omega) (by omega))
                  · intro y77 hyy77
                    have ly77 := hyy77
                    have iy77 : TI y77 y77.toInt := rfl
                    exact ok_some (ti_bd iy77 (by omega) (by omega))
                · have dc6 := tl_nle tn_0 ix19 c6
                  exact ok_some (ti_bd tn_0 (by omega) (by omega))
              · intro y22 hyy22
                have ly22 := hyy22
                have iy22 : TI y22 y22.toInt := rfl
                refine ok_ltI (av_mul iy22 ix3 (by omega) (by omega)) (fun x23 ix23 => ?_)
                refine ok_bnd (Q := fun (z : Int32) => (0 ≤ z.toInt ∧ z.toInt ≤ 15)) ?_ ?_
                · refine ok_if (fun c8 => ?_) (fun c8 => ?_)
                  · have dc8 := tl_le tn_m1 ix19 c8
                    refine ok_ltI (av_sub ix5 tn_1 (by omega) (by omega)) (fun x71 ix71 => ?_)
                    refine ok_bnd (Q := fun (z : Int32) => (0 ≤ z.toInt ∧ z.toInt ≤ 15)) ?_ ?_
                    · refine ok_if (fun c9 => ?_) (fun c9 => ?_)
                      · have dc9 := tl_lt ix19 ix71 c9
                        refine ok_ltI (av_add ix19 tn_1 (by omega) (by omega)) (fun x74 ix74 => ?_)
                        exact ok_some (ti_bd ix74 (by omega) (by omega))
                      · have dc9 := tl_nlt ix19 ix71 c9
                        refine ok_ltI (av_sub ix5 tn_1 (by omega) (by omega)) (fun x75 ix75 => ?_)
                        exact ok_some (ti_bd ix75 (by omega) (by omega))
                    · intro y72 hyy72
                      have ly72 := hyy72
                      have iy72 : TI y72 y72.toInt := rfl
                      exact ok_some (ti_bd iy72 (by omega) (by omega))
                  · have dc8 := tl_nle tn_m1 ix19 c8
                    exact ok_some (ti_bd tn_0 (by omega) (by omega))
                · intro y24 hyy24
                  have ly24 := hyy24
                  have iy24 : TI y24 y24.toInt := rfl
                  refine ok_ltI (av_mul iy24 ix3 (by omega) (by omega)) (fun x25 ix25 => ?_)
                  refine ok_bnd (Q := fun (z : Int32 × DD) => (1 ≤ z.1.toInt ∧ z.1.toInt ≤ 3) ∧ TT G z.2 p 2 L ∧ Fr p [1] M z.2) (ok_itr (fun (z : Int32 × DD) => (1 ≤ z.1.toInt ∧ z.1.toInt ≤ 3) ∧ TT G z.2 p 2 L ∧ Fr p [1] M z.2) (fun z => (3 - z.1.toInt).toNat) ?_ _ _ ?_ ?_) ?_
                  · intro s27 hys27
                    obtain ⟨ls27_1, ts27_2, fs27_2⟩ := hys27
                    have is27_1 : TI s27.1 s27.1.toInt := rfl
                    refine ok_if (fun c10 => ?_) (fun c10 => ?_)
                    · have dc10 := tl_le tn_3 is27_1 c10
                      exact ok_some ⟨(ti_bd is27_1 (by omega) (by omega)), ts27_2, fs27_2⟩
                    · have dc10 := tl_nle tn_3 is27_1 c10
                      refine ok_dr (pr_4 ts27_2 hq0) (by have q := (tt_q0b ts27_2 hq0); omega) (gk_2 ts27_2 hq0) ?_
                      refine ok_chk (nxg (gl_2 ts27_2 hq0) is27_1 (by omega) (by omega)) ?_
                      refine ok_ltI (av_sub tn_8 ix6 (by omega) (by omega)) (fun x33 ix33 => ?_)
                      refine ok_ltI (av_sub tn_8 ix7 (by omega) (by omega)) (fun x34 ix34 => ?_)
                      refine ok_ltA (fun x35 => ?_)
                      refine ok_ltI (av_add ix23 iy20 (by omega) (by omega)) (fun x36 ix36 => ?_)
                      refine ok_dpv ts27_2 hq0 is27_1 (by omega) (by omega) (fun jb37 hjb37 njb37 => ?_)
                      refine ok_chk (nxi njb37 ix36 (by omega) (by omega)) ?_
                      refine ok_ltA (fun x38 => ?_)
                      refine ok_ltA (fun x39 => ?_)
                      refine ok_ltI (av_sub tn_8 ix7 (by omega) (by omega)) (fun x40 ix40 => ?_)
                      refine ok_ltA (fun x41 => ?_)
                      refine ok_ltI (av_add ix23 iy21 (by omega) (by omega)) (fun x42 ix42 => ?_)
                      refine ok_chk (nxi njb37 ix42 (by omega) (by omega)) ?_
                      refine ok_ltA (fun x43 => ?_)
                      refine ok_ltA (fun x44 => ?_)
                      refine ok_ltA (fun x45 => ?_)
                      refine ok_ltI (av_sub tn_8 ix6 (by omega) (by omega)) (fun x46 ix46 => ?_)
                      refine ok_ltA (fun x47 => ?_)
                      refine ok_ltI (av_add ix25 iy20 (by omega) (by omega)) (fun x48 ix48 => ?_)
                      refine ok_chk (nxi njb37 ix48 (by omega) (by omega)) ?_
                      refine ok_ltA (fun x49 => ?_)
                      refine ok_ltA (fun x50 => ?_)
                      refine ok_ltA (fun x51 => ?_)
                      refine ok_ltA (fun x52 => ?_)
                      refine ok_ltI (av_add ix25 iy21 (by omega) (by omega)) (fun x53 ix53 => ?_)
                      refine ok_chk (nxi njb37 ix53 (by omega) (by omega)) ?_
                      refine ok_ltA (fun x54 => ?_)
                      refine ok_ltA (fun x55 => ?_)
                      refine ok_ltA (fun x56 => ?_)
                      refine ok_ltI (av_sub is27_1 tn_1 (by omega) (by omega)) (fun x57 ix57 => ?_)
                      refine ok_ltI (av_mul tn_64 ix57 (by omega) (by omega)) (fun x58 ix58 => ?_)
                      refine ok_ltI (av_add i5 ix58 (by omega) (by omega)) (fun x59 ix59 => ?_)
                      refine ok_chk (nz i3 (by omega)) ?_
                      refine ok_ltI (av_div is9_1 i3 (by omega) (by omega)) (fun x60 ix60 => ?_)
                      refine ok_ltI (av_mul ix60 tn_8 (by omega) (by omega)) (fun x61 ix61 => ?_)
                      refine ok_ltI (av_add ix59 ix61 (by omega) (by omega)) (fun x62 ix62 => ?_)
                      refine ok_chk (nz i3 (by omega)) ?_
                      refine ok_ltI (av_mod is9_1 i3 (by omega) (by omega)) (fun x63 ix63 => ?_)
                      refine ok_ltI (av_add ix62 ix63 (by omega) (by omega)) (fun x64 ix64 => ?_)
                      refine ok_ltA (fun x65 => ?_)
                      refine ok_ltA (fun x66 => ?_)
                      refine ok_dr rfl (g_lt ts27_2 (two_lt hc4)) (gk_two ts27_2 hc4) ?_
                      refine ok_chk (nxg (gl_two ts27_2 hc4) ix64 (by omega) (by omega)) ?_
                      refine ok_ltt (fun M68 eM68 => ?_)
                      have tM68 : TT G M68 p 2 L := by rw [eM68]; exact (tt_two ts27_2 hc4)
                      have fM68 : Fr p [1] M M68 := by rw [eM68]; exact (fr_w fs27_2 (pc_two hc4 rfl))
                      clear eM68
                      refine ok_ltI (av_add is27_1 tn_1 (by omega) (by omega)) (fun x69 ix69 => ?_)
                      exact ok_some ⟨⟨(ti_bd ix69 (by omega) (by omega)), tM68, fM68⟩, (mu_up ix69 (by omega) (by omega))⟩
                  · exact ⟨(ti_bd tn_1 (by omega) (by omega)), ts9_2, fs9_2⟩
                  · exact mu_0 tn_1 (by omega)
                  · intro y26 hyy26
                    obtain ⟨ly26_1, ty26_2, fy26_2⟩ := hyy26
                    have iy26_1 : TI y26.1 y26.1.toInt := rfl
                    refine ok_ltI (av_add is9_1 tn_1 (by omega) (by omega)) (fun x29 ix29 => ?_)
                    exact ok_some ⟨⟨(ti_bd ix29 (by omega) (by omega)), ty26_2, fy26_2⟩, (mu_up ix29 (by omega) (by omega))⟩
      · exact ⟨(ti_bd tn_0 (by omega) (by omega)), t, (fr_0 p [1] M)⟩
      · exact mu_0 tn_0 (by omega)
      · intro y8 hyy8
        obtain ⟨ly8_1, ty8_2, fy8_2⟩ := hyy8
        have iy8_1 : TI y8.1 y8.1.toInt := rfl
        exact ok_some ⟨ty8_2, fy8_2⟩
theorem s_blend {G : GG} {M : DD} {p : Nat} {w : Int} {L : List Nat} (t : TT G M p w L) {p0 : Int32} {p1 : Int32} {a1 : Int} (i1 : TI p1 a1) {p2 : Int32} {a2 : Int} (i2 : TI p2 a2) {p3 : Int32} {a3 : Int} (i3 : TI p3 a3) (h0 : 0 ≤ a1) (h1 : a2 = 8 ∨ a2 = 16) (h2 : a3 = 2 ∨ a3 = 4 ∨ a3 = 8 ∨ a3 = 16) (h3 : a1 + a2 * (a3 - 1) + a3 ≤ 384) : OK (FX6_blend G M 138 p0 p1 p2 p3) (fun y => TT G y p w L ∧ Fr p [1] M y) := by
  unfold FX6_blend
  have hw12 : 1 ≤ w ∧ w ≤ 2 := by rcases tt_w t with h | h <;> omega
  rcases h1 with rfl | rfl
  · rcases h2 with rfl | rfl | rfl | rfl
    · refine ok_bnd (Q := fun (z : Option Nat) => (∃ c, (c == 140 || c == 141) = true ∧ z = some c)) ?_ ?_
      · refine ok_if (fun c1 => ?_) (fun c1 => ?_)
        · have dc1 := tl_eq (rfl : TI p0 p0.toInt) tn_1 c1
          exact ok_some ⟨141, rfl, f_r (b := 141) t rfl (by decide)⟩
        · refine ok_bnd (Q := fun (z : Option Nat) => (∃ c, (c == 140 || c == 141) = true ∧ z = some c)) ?_ ?_
          · refine ok_if (fun c2 => ?_) (fun c2 => ?_)
            · have dc2 := tl_eq (rfl : TI p0 p0.toInt) tn_4 c2
              exact ok_some ⟨141, rfl, f_r (b := 141) t rfl (by decide)⟩
            · exact ok_some ⟨140, rfl, f_r (b := 140) t rfl (by decide)⟩
          · intro y90 hyy90
            obtain ⟨cy90, hcy90, ecy90⟩ := hyy90
            exact ok_some ⟨cy90, hcy90, ecy90⟩
      · intro y1 hyy1
        obtain ⟨cy1, hcy1, ecy1⟩ := hyy1
        refine ok_bnd (Q := fun (z : Int32) => True) ?_ ?_
        · refine ok_if (fun c3 => ?_) (fun c3 => ?_)
          · have dc3 := tl_eq (rfl : TI p0 p0.toInt) tn_4 c3
            refine ok_ltA (fun x88 => ?_)
            exact ok_some trivial
          · refine ok_ltA (fun x87 => ?_)
            exact ok_some trivial
        · intro y2 hyy2
          have u_y2 := hyy2
          refine ok_bnd (Q := fun (z : Int32) => True) ?_ ?_
          · refine ok_if (fun c4 => ?_) (fun c4 => ?_)
            · have dc4 := tl_eq (rfl : TI p0 p0.toInt) tn_4 c4
              refine ok_ltA (fun x85 => ?_)
              exact ok_some trivial
            · refine ok_ltA (fun x84 => ?_)
              exact ok_some trivial
          · intro y3 hyy3
            have u_y3 := hyy3
            have kp3 : p3.toInt = _ := i3
            refine ok_bnd (Q := fun (z : Int32 × DD) => (0 ≤ z.1.toInt ∧ z.1.toInt ≤ p3.toInt) ∧ TT G z.2 p w L ∧ Fr p [1] M z.2) (ok_itr (fun (z : Int32 × DD) => (0 ≤ z.1.toInt ∧ z.1.toInt ≤ p3.toInt) ∧ TT G z.2 p w L ∧ Fr p [1] M z.2) (fun z => (p3.toInt - z.1.toInt).toNat) ?_ _ _ ?_ ?_) ?_
            · intro s5 hys5
              obtain ⟨ls5_1, ts5_2, fs5_2⟩ := hys5
              have is5_1 : TI s5.1 s5.1.toInt := rfl
              refine ok_if (fun c5 => ?_) (fun c5 => ?_)
              · have dc5 := tl_le i3 is5_1 c5
                exact ok_some ⟨(ti_bd is5_1 (by omega) (by omega)), ts5_2, fs5_2⟩
              · have dc5 := tl_nle i3 is5_1 c5
                refine ok_ltI (av_mul is5_1 i2 (by omega) (by omega)) (fun x9 ix9 => ?_)
                refine ok_ltI (av_add i1 ix9 (by omega) (by omega)) (fun x10 ix10 => ?_)
                have k0x10 : x10.toInt = _ := ix10
                refine ok_bnd (Q := fun (z : Int32 × DD) => (x10.toInt ≤ z.1.toInt ∧ z.1.toInt ≤ (a1 + s5.1.toInt * 8 + 2)) ∧ TT G z.2 p w L ∧ Fr p [1] M z.2) (ok_itr (fun (z : Int32 × DD) => (x10.toInt ≤ z.1.toInt ∧ z.1.toInt ≤ (a1 + s5.1.toInt * 8 + 2)) ∧ TT G z.2 p w L ∧ Fr p [1] M z.2) (fun z => ((a1 + s5.1.toInt * 8 + 2) - z.1.toInt).toNat) ?_ _ _ ?_ ?_) ?_
                · intro s12 hys12
                  obtain ⟨ls12_1, ts12_2, fs12_2⟩ := hys12
                  have is12_1 : TI s12.1 s12.1.toInt := rfl
                  refine ok_ltI (av_mul is5_1 i2 (by omega) (by omega)) (fun x16 ix16 => ?_)
                  refine ok_ltI (av_add i1 ix16 (by omega) (by omega)) (fun x17 ix17 => ?_)
                  refine ok_ltI (av_add ix17 i3 (by omega) (by omega)) (fun x18 ix18 => ?_)
                  refine ok_if (fun c6 => ?_) (fun c6 => ?_)
                  · have dc6 := tl_le ix18 is12_1 c6
                    exact ok_some ⟨(ti_bd is12_1 (by omega) (by omega)), ts12_2, fs12_2⟩
                  · have dc6 := tl_nle ix18 is12_1 c6
                    refine ok_bnd (Q := fun (z : DD) => TT G z p w L ∧ Fr p [1] M z) ?_ ?_
                    · refine ok_if (fun c7 => ?_) (fun c7 => ?_)
                      · have dc7 := tl_le tn_2 (rfl : TI p0 p0.toInt) c7
                        refine ok_bnd (Q := fun (z : DD) => TT G z p w L ∧ Fr p [1] M z) ?_ ?_
                        · refine ok_if (fun c8 => ?_) (fun c8 => ?_)
                          · have dc8 := tl_eq (rfl : TI p0 p0.toInt) tn_2 c8
                            refine ok_dr (f_r (b := 140) ts12_2 rfl (by decide)) (g_lt ts12_2 (by decide)) (g_k ts12_2 (by decide) rfl) ?_
                            refine ok_chk (nxg (g_n (i := 140) (n := 384) ts12_2 (by decide) rfl) is12_1 (by omega) (by omega)) ?_
                            refine ok_ltA (fun x71 => ?_)
                            refine ok_dr (f_r (b := 141) ts12_2 rfl (by decide)) (g_lt ts12_2 (by decide)) (g_k ts12_2 (by decide) rfl) ?_
                            refine ok_chk (nxg (g_n (i := 141) (n := 384) ts12_2 (by decide) rfl) is12_1 (by omega) (by omega)) ?_
                            refine ok_ltA (fun x73 => ?_)
                            refine ok_ltA (fun x74 => ?_)
                            refine ok_ltA (fun x75 => ?_)
                            refine ok_ltA (fun x76 => ?_)
                            refine ok_dr (f_r (b := 139) ts12_2 rfl (by decide)) (g_lt ts12_2 (by decide)) (g_k ts12_2 (by decide) rfl) ?_
                            refine ok_chk (nxg (g_n (i := 139) (n := 384) ts12_2 (by decide) rfl) is12_1 (by omega) (by omega)) ?_
                            refine ok_ltt (fun M78 eM78 => ?_)
                            have tM78 : TT G M78 p w L := by rw [eM78]; exact (tt_w0 ts12_2 rfl)
                            have fM78 : Fr p [1] M M78 := by rw [eM78]; exact (fr_w fs12_2 rfl)
                            clear eM78
                            exact ok_some ⟨tM78, fM78⟩
                          · refine ok_bnd (Q := fun (z : Int32 × DD) => True ∧ TT G z.2 p w L ∧ Fr p [1] M z.2) ?_ ?_
                            · refine ok_if (fun c9 => ?_) (fun c9 => ?_)
                              · have dc9 := tl_eq (rfl : TI p0 p0.toInt) tn_5 c9
                                refine ok_dr (f_r (b := 140) ts12_2 rfl (by decide)) (g_lt ts12_2 (by decide)) (g_k ts12_2 (by decide) rfl) ?_
                                refine ok_chk (nxg (g_n (i := 140) (n := 384) ts12_2 (by decide) rfl) is12_1 (by omega) (by omega)) ?_
                                refine ok_ltA (fun x47 => ?_)
                                refine ok_ltA (fun x48 => ?_)
                                refine ok_ltA (fun x49 => ?_)
                                refine ok_dr (f_r (b := 141) ts12_2 rfl (by decide)) (g_lt ts12_2 (by decide)) (g_k ts12_2 (by decide) rfl) ?_
                                refine ok_chk (nxg (g_n (i := 141) (n := 384) ts12_2 (by decide) rfl) is12_1 (by omega) (by omega)) ?_
                                refine ok_ltA (fun x51 => ?_)
                                refine ok_ltA (fun x52 => ?_)
                                refine ok_ltA (fun x53 => ?_)
                                refine ok_ltA (fun x54 => ?_)
                                refine ok_ltA (fun x55 => ?_)
                                refine ok_ltA (fun x56 => ?_)
                                refine ok_ltA (fun x57 => ?_)
                                refine ok_ltA (fun x58 => ?_)
                                refine ok_ltA (fun x59 => ?_)
                                refine ok_ltA (fun x60 => ?_)
                                refine ok_ltA (fun x61 => ?_)
                                refine ok_ltA (fun x62 => ?_)
                                refine ok_ltA (fun x63 => ?_)
                                refine ok_ltA (fun x64 => ?_)
                                refine ok_ltA (fun x65 => ?_)
                                refine ok_ltA (fun x66 => ?_)
                                refine ok_bnd (s_clip ts12_2) ?_
                                intro y67 hyy67
                                obtain ⟨ty67, gy67, _⟩ := hyy67
                                have fy67 := fr_tr fs12_2 gy67 rfl
                                refine ok_dr (f_r (b := 139) ts12_2 rfl (by decide)) (g_lt ty67 (by decide)) (g_k ty67 (by decide) rfl) ?_
                                refine ok_chk (nxg (g_n (i := 139) (n := 384) ty67 (by decide) rfl) is12_1 (by omega) (by omega)) ?_
                                refine ok_ltt (fun M69 eM69 => ?_)
                                have tM69 : TT G M69 p w L := by rw [eM69]; exact (tt_w0 ty67 rfl)
                                have fM69 : Fr p [1] M M69 := by rw [eM69]; exact (fr_w fy67 rfl)
                                clear eM69
                                exact ok_some ⟨trivial, tM69, fM69⟩
                              · refine ok_ltA (fun x27 => ?_)
                                refine ok_bnd (Q := fun (z : Int32) => True) ?_ ?_
                                · refine ok_if (fun c10 => ?_) (fun c10 => ?_)
                                  · have dc10 := tl_le (rfl : TI x27 x27.toInt) tn_0 c10
                                    refine ok_dr ecy1 (g_lt ts12_2 (two_lt hcy1)) (gk_two ts12_2 hcy1) ?_
                                    refine ok_chk (nxg (gl_two ts12_2 hcy1) is12_1 (by omega) (by omega)) ?_
                                    refine ok_ltA (fun x35 => ?_)
                                    refine ok_ltA (fun x36 => ?_)
                                    exact ok_some trivial
                                  · have dc10 := tl_nle (rfl : TI x27 x27.toInt) tn_0 c10
                                    refine ok_dr ecy1 (g_lt ts12_2 (two_lt hcy1)) (gk_two ts12_2 hcy1) ?_
                                    refine ok_chk (nxg (gl_two ts12_2 hcy1) is12_1 (by omega) (by omega)) ?_
                                    refine ok_ltA (fun x38 => ?_)
                                    refine ok_ltA (fun x39 => ?_)
                                    refine ok_ltA (fun x40 => ?_)
                                    refine ok_ltA (fun x41 => ?_)
                                    refine ok_ltA (fun x42 => ?_)
                                    refine ok_ltA (fun x43 => ?_)
                                    refine ok_ltA (fun x44 => ?_)
                                    refine ok_ltA (fun x45 => ?_)
                                    exact ok_some trivial
                                · intro y28 hyy28
                                  have u_y28 := hyy28
                                  refine ok_ltA (fun x29 => ?_)
                                  refine ok_bnd (s_clip ts12_2) ?_
                                  intro y30 hyy30
                                  obtain ⟨ty30, gy30, _⟩ := hyy30
                                  have fy30 := fr_tr fs12_2 gy30 rfl
                                  refine ok_dr (f_r (b := 139) ts12_2 rfl (by decide)) (g_lt ty30 (by decide)) (g_k ty30 (by decide) rfl) ?_
                                  refine ok_chk (nxg (g_n (i := 139) (n := 384) ty30 (by decide) rfl) is12_1 (by omega) (by omega)) ?_
                                  refine ok_ltt (fun M32 eM32 => ?_)
                                  have tM32 : TT G M32 p w L := by rw [eM32]; exact (tt_w0 ty30 rfl)
                                  have fM32 : Fr p [1] M M32 := by rw [eM32]; exact (fr_w fy30 rfl)
                                  clear eM32
                                  exact ok_some ⟨trivial, tM32, fM32⟩
                            · intro y25 hyy25
                              obtain ⟨_, ty25_2, fy25_2⟩ := hyy25
                              exact ok_some ⟨ty25_2, fy25_2⟩
                        · intro y23 hyy23
                          obtain ⟨ty23, fy23⟩ := hyy23
                          exact ok_some ⟨ty23, fy23⟩
                      · have dc7 := tl_nle tn_2 (rfl : TI p0 p0.toInt) c7
                        refine ok_dr ecy1 (g_lt ts12_2 (two_lt hcy1)) (gk_two ts12_2 hcy1) ?_
                        refine ok_chk (nxg (gl_two ts12_2 hcy1) is12_1 (by omega) (by omega)) ?_
                        refine ok_ltA (fun x80 => ?_)
                        refine ok_dr (f_r (b := 139) ts12_2 rfl (by decide)) (g_lt ts12_2 (by decide)) (g_k ts12_2 (by decide) rfl) ?_
                        refine ok_chk (nxg (g_n (i := 139) (n := 384) ts12_2 (by decide) rfl) is12_1 (by omega) (by omega)) ?_
                        refine ok_ltt (fun M82 eM82 => ?_)
                        have tM82 : TT G M82 p w L := by rw [eM82]; exact (tt_w0 ts12_2 rfl)
                        have fM82 : Fr p [1] M M82 := by rw [eM82]; exact (fr_w fs12_2 rfl)
                        clear eM82
                        exact ok_some ⟨tM82, fM82⟩
                    · intro y20 hyy20
                      obtain ⟨ty20, fy20⟩ := hyy20
                      refine ok_ltI (av_add is12_1 tn_1 (by omega) (by omega)) (fun x21 ix21 => ?_)
                      exact ok_some ⟨⟨(ti_bd ix21 (by omega) (by omega)), ty20, fy20⟩, (mu_up ix21 (by omega) (by omega))⟩
                · exact ⟨(ti_bd ix10 (by omega) (by omega)), ts5_2, fs5_2⟩
                · exact mu_0 ix10 (by omega)
                · intro y11 hyy11
                  obtain ⟨ly11_1, ty11_2, fy11_2⟩ := hyy11
                  have iy11_1 : TI y11.1 y11.1.toInt := rfl
                  refine ok_ltI (av_add is5_1 tn_1 (by omega) (by omega)) (fun x14 ix14 => ?_)
                  exact ok_some ⟨⟨(ti_bd ix14 (by omega) (by omega)), ty11_2, fy11_2⟩, (mu_up ix14 (by omega) (by omega))⟩
            · exact ⟨(ti_bd tn_0 (by omega) (by omega)), t, (fr_0 p [1] M)⟩
            · exact mu_0 tn_0 (by omega)
            · intro y4 hyy4
              obtain ⟨ly4_1, ty4_2, fy4_2⟩ := hyy4
              have iy4_1 : TI y4.1 y4.1.toInt := rfl
              exact ok_some ⟨ty4_2, fy4_2⟩
    · refine ok_bnd (Q := fun (z : Option Nat) => (∃ c, (c == 140 || c == 141) = true ∧ z = some c)) ?_ ?_
      · refine ok_if (fun c1 => ?_) (fun c1 => ?_)
        · have dc1 := tl_eq (rfl : TI p0 p0.toInt) tn_1 c1
          exact ok_some ⟨141, rfl, f_r (b := 141) t rfl (by decide)⟩
        · refine ok_bnd (Q := fun (z : Option Nat) => (∃ c, (c == 140 || c == 141) = true ∧ z = some c)) ?_ ?_
          · refine ok_if (fun c2 => ?_) (fun c2 => ?_)
            · have dc2 := tl_eq (rfl : TI p0 p0.toInt) tn_4 c2
              exact ok_some ⟨141, rfl, f_r (b := 141) t rfl (by decide)⟩
            · exact ok_some ⟨140, rfl, f_r (b := 140) t rfl (by decide)⟩
          · intro y90 hyy90
            obtain ⟨cy90, hcy90, ecy90⟩ := hyy90
            exact ok_some ⟨cy90, hcy90, ecy90⟩
      · intro y1 hyy1
        obtain ⟨cy1, hcy1, ecy1⟩ := hyy1
        refine ok_bnd (Q := fun (z : Int32) => True) ?_ ?_
        · refine ok_if (fun c3 => ?_) (fun c3 => ?_)
          · have dc3 := tl_eq (rfl : TI p0 p0.toInt) tn_4 c3
            refine ok_ltA (fun x88 => ?_)
            exact ok_some trivial
          · refine ok_ltA (fun x87 => ?_)
            exact ok_some trivial
        · intro y2 hyy2
          have u_y2 := hyy2
          refine ok_bnd (Q := fun (z : Int32) => True) ?_ ?_
          · refine ok_if (fun c4 => ?_) (fun c4 => ?_)
            · have dc4 := tl_eq (rfl : TI p0 p0.toInt) tn_4 c4
              refine ok_ltA (fun x85 => ?_)
              exact ok_some trivial
            · refine ok_ltA (fun x84 => ?_)
              exact ok_some trivial
          · intro y3 hyy3
            have u_y3 := hyy3
            have kp3 : p3.toInt = _ := i3
            refine ok_bnd (Q := fun (z : Int32 × DD) => (0 ≤ z.1.toInt ∧ z.1.toInt ≤ p3.toInt) ∧ TT G z.2 p w L ∧ Fr p [1] M z.2) (ok_itr (fun (z : Int32 × DD) => (0 ≤ z.1.toInt ∧ z.1.toInt ≤ p3.toInt) ∧ TT G z.2 p w L ∧ Fr p [1] M z.2) (fun z => (p3.toInt - z.1.toInt).toNat) ?_ _ _ ?_ ?_) ?_
            · intro s5 hys5
              obtain ⟨ls5_1, ts5_2, fs5_2⟩ := hys5
              have is5_1 : TI s5.1 s5.1.toInt := rfl
              refine ok_if (fun c5 => ?_) (fun c5 => ?_)
              · have dc5 := tl_le i3 is5_1 c5
                exact ok_some ⟨(ti_bd is5_1 (by omega) (by omega)), ts5_2, fs5_2⟩
              · have dc5 := tl_nle i3 is5_1 c5
                refine ok_ltI (av_mul is5_1 i2 (by omega) (by omega)) (fun x9 ix9 => ?_)
                refine ok_ltI (av_add i1 ix9 (by omega) (by omega)) (fun x10 ix10 => ?_)
                have k0x10 : x10.toInt = _ := ix10
                refine ok_bnd (Q := fun (z : Int32 × DD) => (x10.toInt ≤ z.1.toInt ∧ z.1.toInt ≤ (a1 + s5.1.toInt * 8 + 4)) ∧ TT G z.2 p w L ∧ Fr p [1] M z.2) (ok_itr (fun (z : Int32 × DD) => (x10.toInt ≤ z.1.toInt ∧ z.1.toInt ≤ (a1 + s5.1.toInt * 8 + 4)) ∧ TT G z.2 p w L ∧ Fr p [1] M z.2) (fun z => ((a1 + s5.1.toInt * 8 + 4) - z.1.toInt).toNat) ?_ _ _ ?_ ?_) ?_
                · intro s12 hys12
                  obtain ⟨ls12_1, ts12_2, fs12_2⟩ := hys12
                  have is12_1 : TI s12.1 s12.1.toInt := rfl
                  refine ok_ltI (av_mul is5_1 i2 (by omega) (by omega)) (fun x16 ix16 => ?_)
                  refine ok_ltI (av_add i1 ix16 (by omega) (by omega)) (fun x17 ix17 => ?_)
                  refine ok_ltI (av_add ix17 i3 (by omega) (by omega)) (fun x18 ix18 => ?_)
                  refine ok_if (fun c6 => ?_) (fun c6 => ?_)
                  · have dc6 := tl_le ix18 is12_1 c6
                    exact ok_some ⟨(ti_bd is12_1 (by omega) (by omega)), ts12_2, fs12_2⟩
                  · have dc6 := tl_nle ix18 is12_1 c6
                    refine ok_bnd (Q := fun (z : DD) => TT G z p w L ∧ Fr p [1] M z) ?_ ?_
                    · refine ok_if (fun c7 => ?_) (fun c7 => ?_)
                      · have dc7 := tl_le tn_2 (rfl : TI p0 p0.toInt) c7
                        refine ok_bnd (Q := fun (z : DD) => TT G z p w L ∧ Fr p [1] M z) ?_ ?_
                        · refine ok_if (fun c8 => ?_) (fun c8 => ?_)
                          · have dc8 := tl_eq (rfl : TI p0 p0.toInt) tn_2 c8
                            refine ok_dr (f_r (b := 140) ts12_2 rfl (by decide)) (g_lt ts12_2 (by decide)) (g_k ts12_2 (by decide) rfl) ?_
                            refine ok_chk (nxg (g_n (i := 140) (n := 384) ts12_2 (by decide) rfl) is12_1 (by omega) (by omega)) ?_
                            refine ok_ltA (fun x71 => ?_)
                            refine ok_dr (f_r (b := 141) ts12_2 rfl (by decide)) (g_lt ts12_2 (by decide)) (g_k ts12_2 (by decide) rfl) ?_
                            refine ok_chk (nxg (g_n (i := 141) (n := 384) ts12_2 (by decide) rfl) is12_1 (by omega) (by omega)) ?_
                            refine ok_ltA (fun x73 => ?_)
                            refine ok_ltA (fun x74 => ?_)
                            refine ok_ltA (fun x75 => ?_)
                            refine ok_ltA (fun x76 => ?_)
                            refine ok_dr (f_r (b := 139) ts12_2 rfl (by decide)) (g_lt ts12_2 (by decide)) (g_k ts12_2 (by decide) rfl) ?_
                            refine ok_chk (nxg (g_n (i := 139) (n := 384) ts12_2 (by decide) rfl) is12_1 (by omega) (by omega)) ?_
                            refine ok_ltt (fun M78 eM78 => ?_)
                            have tM78 : TT G M78 p w L := by rw [eM78]; exact (tt_w0 ts12_2 rfl)
                            have fM78 : Fr p [1] M M78 := by rw [eM78]; exact (fr_w fs12_2 rfl)
                            clear eM78
                            exact ok_some ⟨tM78, fM78⟩
                          · refine ok_bnd (Q := fun (z : Int32 × DD) => True ∧ TT G z.2 p w L ∧ Fr p [1] M z.2) ?_ ?_
                            · refine ok_if (fun c9 => ?_) (fun c9 => ?_)
                              · have dc9 := tl_eq (rfl : TI p0 p0.toInt) tn_5 c9
                                refine ok_dr (f_r (b := 140) ts12_2 rfl (by decide)) (g_lt ts12_2 (by decide)) (g_k ts12_2 (by decide) rfl) ?_
                                refine ok_chk (nxg (g_n (i := 140) (n := 384) ts12_2 (by decide) rfl) is12_1 (by omega) (by omega)) ?_
                                refine ok_ltA (fun x47 => ?_)
                                refine ok_ltA (fun x48 => ?_)
                                refine ok_ltA (fun x49 => ?_)
                                refine ok_dr (f_r (b := 141) ts12_2 rfl (by decide)) (g_lt ts12_2 (by decide)) (g_k ts12_2 (by decide) rfl) ?_
                                refine ok_chk (nxg (g_n (i := 141) (n := 384) ts12_2 (by decide) rfl) is12_1 (by omega) (by omega)) ?_
                                refine ok_ltA (fun x51 => ?_)
                                refine ok_ltA (fun x52 => ?_)
                                refine ok_ltA (fun x53 => ?_)
                                refine ok_ltA (fun x54 => ?_)
                                refine ok_ltA (fun x55 => ?_)
                                refine ok_ltA (fun x56 => ?_)
                                refine ok_ltA (fun x57 => ?_)
                                refine ok_ltA (fun x58 => ?_)
                                refine ok_ltA (fun x59 => ?_)
                                refine ok_ltA (fun x60 => ?_)
                                refine ok_ltA (fun x61 => ?_)
                                refine ok_ltA (fun x62 => ?_)
                                refine ok_ltA (fun x63 => ?_)
                                refine ok_ltA (fun x64 => ?_)
                                refine ok_ltA (fun x65 => ?_)
                                refine ok_ltA (fun x66 => ?_)
                                refine ok_bnd (s_clip ts12_2) ?_
                                intro y67 hyy67
                                obtain ⟨ty67, gy67, _⟩ := hyy67
                                have fy67 := fr_tr fs12_2 gy67 rfl
                                refine ok_dr (f_r (b := 139) ts12_2 rfl (by decide)) (g_lt ty67 (by decide)) (g_k ty67 (by decide) rfl) ?_
                                refine ok_chk (nxg (g_n (i := 139) (n := 384) ty67 (by decide) rfl) is12_1 (by omega) (by omega)) ?_
                                refine ok_ltt (fun M69 eM69 => ?_)
                                have tM69 : TT G M69 p w L := by rw [eM69]; exact (tt_w0 ty67 rfl)
                                have fM69 : Fr p [1] M M69 := by rw [eM69]; exact (fr_w fy67 rfl)
                                clear eM69
                                exact ok_some ⟨trivial, tM69, fM69⟩
                              · refine ok_ltA (fun x27 => ?_)
                                refine ok_bnd (Q := fun (z : Int32) => True) ?_ ?_
                                · refine ok_if (fun c10 => ?_) (fun c10 => ?_)
                                  · have dc10 := tl_le (rfl : TI x27 x27.toInt) tn_0 c10
                                    refine ok_dr ecy1 (g_lt ts12_2 (two_lt hcy1)) (gk_two ts12_2 hcy1) ?_
                                    refine ok_chk (nxg (gl_two ts12_2 hcy1) is12_1 (by omega) (by omega)) ?_
                                    refine ok_ltA (fun x35 => ?_)
                                    refine ok_ltA (fun x36 => ?_)
                                    exact ok_some trivial
                                  · have dc10 := tl_nle (rfl : TI x27 x27.toInt) tn_0 c10
                                    refine ok_dr ecy1 (g_lt ts12_2 (two_lt hcy1)) (gk_two ts12_2 hcy1) ?_
                                    refine ok_chk (nxg (gl_two ts12_2 hcy1) is12_1 (by omega) (by omega)) ?_
                                    refine ok_ltA (fun x38 => ?_)
                                    refine ok_ltA (fun x39 => ?_)
                                    refine ok_ltA (fun x40 => ?_)
                                    refine ok_ltA (fun x41 => ?_)
                                    refine ok_ltA (fun x42 => ?_)
                                    refine ok_ltA (fun x43 => ?_)
                                    refine ok_ltA (fun x44 => ?_)
                                    refine ok_ltA (fun x45 => ?_)
                                    exact ok_some trivial
                                · intro y28 hyy28
                                  have u_y28 := hyy28
                                  refine ok_ltA (fun x29 => ?_)
                                  refine ok_bnd (s_clip ts12_2) ?_
                                  intro y30 hyy30
                                  obtain ⟨ty30, gy30, _⟩ := hyy30
                                  have fy30 := fr_tr fs12_2 gy30 rfl
                                  refine ok_dr (f_r (b := 139) ts12_2 rfl (by decide)) (g_lt ty30 (by decide)) (g_k ty30 (by decide) rfl) ?_
                                  refine ok_chk (nxg (g_n (i := 139) (n := 384) ty30 (by decide) rfl) is12_1 (by omega) (by omega)) ?_
                                  refine ok_ltt (fun M32 eM32 => ?_)
                                  have tM32 : TT G M32 p w L := by rw [eM32]; exact (tt_w0 ty30 rfl)
                                  have fM32 : Fr p [1] M M32 := by rw [eM32]; exact (fr_w fy30 rfl)
                                  clear eM32
                                  exact ok_some ⟨trivial, tM32, fM32⟩
                            · intro y25 hyy25
                              obtain ⟨_, ty25_2, fy25_2⟩ := hyy25
                              exact ok_some ⟨ty25_2, fy25_2⟩
                        · intro y23 hyy23
                          obtain ⟨ty23, fy23⟩ := hyy23
                          exact ok_some ⟨ty23, fy23⟩
                      · have dc7 := tl_nle tn_2 (rfl : TI p0 p0.toInt) c7
                        refine ok_dr ecy1 (g_lt ts12_2 (two_lt hcy1)) (gk_two ts12_2 hcy1) ?_
                        refine ok_chk (nxg (gl_two ts12_2 hcy1) is12_1 (by omega) (by omega)) ?_
                        refine ok_ltA (fun x80 => ?_)
                        refine ok_dr (f_r (b := 139) ts12_2 rfl (by decide)) (g_lt ts12_2 (by decide)) (g_k ts12_2 (by decide) rfl) ?_
                        refine ok_chk (nxg (g_n (i := 139) (n := 384) ts12_2 (by decide) rfl) is12_1 (by omega) (by omega)) ?_
                        refine ok_ltt (fun M82 eM82 => ?_)
                        have tM82 : TT G M82 p w L := by rw [eM82]; exact (tt_w0 ts12_2 rfl)
                        have fM82 : Fr p [1] M M82 := by rw [eM82]; exact (fr_w fs12_2 rfl)
                        clear eM82
                        exact ok_some ⟨tM82, fM82⟩
                    · intro y20 hyy20
                      obtain ⟨ty20, fy20⟩ := hyy20
                      refine ok_ltI (av_add is12_1 tn_1 (by omega) (by omega)) (fun x21 ix21 => ?_)
                      exact ok_some ⟨⟨(ti_bd ix21 (by omega) (by omega)), ty20, fy20⟩, (mu_up ix21 (by omega) (by omega))⟩
                · exact ⟨(ti_bd ix10 (by omega) (by omega)), ts5_2, fs5_2⟩
                · exact mu_0 ix10 (by omega)
                · intro y11 hyy11
                  obtain ⟨ly11_1, ty11_2, fy11_2⟩ := hyy11
                  have iy11_1 : TI y11.1 y11.1.toInt := rfl
                  refine ok_ltI (av_add is5_1 tn_1 (by omega) (by omega)) (fun x14 ix14 => ?_)
                  exact ok_some ⟨⟨(ti_bd ix14 (by omega) (by omega)), ty11_2, fy11_2⟩, (mu_up ix14 (by omega) (by omega))⟩
            · exact ⟨(ti_bd tn_0 (by omega) (by omega)), t, (fr_0 p [1] M)⟩
            · exact mu_0 tn_0 (by omega)
            · intro y4 hyy4
              obtain ⟨ly4_1, ty4_2, fy4_2⟩ := hyy4
              have iy4_1 : TI y4.1 y4.1.toInt := rfl
              exact ok_some ⟨ty4_2, fy4_2⟩
    · refine ok_bnd (Q := fun (z : Option Nat) => (∃ c, (c == 140 || c == 141) = true ∧ z = some c)) ?_ ?_
      · refine ok_if (fun c1 => ?_) (fun c1 => ?_)
        · have dc1 := tl_eq (rfl : TI p0 p0.toInt) tn_1 c1
          exact ok_some ⟨141, rfl, f_r (b := 141) t rfl (by decide)⟩
        · refine ok_bnd (Q := fun (z : Option Nat) => (∃ c, (c == 140 || c == 141) = true ∧ z = some c)) ?_ ?_
          · refine ok_if (fun c2 => ?_) (fun c2 => ?_)
            · have dc2 := tl_eq (rfl : TI p0 p0.toInt) tn_4 c2
              exact ok_some ⟨141, rfl, f_r (b := 141) t rfl (by decide)⟩
            · exact ok_some ⟨140, rfl, f_r (b := 140) t rfl (by decide)⟩
          · intro y90 hyy90
            obtain ⟨cy90, hcy90, ecy90⟩ := hyy90
            exact ok_some ⟨cy90, hcy90, ecy90⟩
      · intro y1 hyy1
        obtain ⟨cy1, hcy1, ecy1⟩ := hyy1
        refine ok_bnd (Q := fun (z : Int32) => True) ?_ ?_
        · refine ok_if (fun c3 => ?_) (fun c3 => ?_)
          · have dc3 := tl_eq (rfl : TI p0 p0.toInt) tn_4 c3
            refine ok_ltA (fun x88 => ?_)
            exact ok_some trivial
          · refine ok_ltA (fun x87 => ?_)
            exact ok_some trivial
        · intro y2 hyy2
          have u_y2 := hyy2
          refine ok_bnd (Q := fun (z : Int32) => True) ?_ ?_
          · refine ok_if (fun c4 => ?_) (fun c4 => ?_)
            · have dc4 := tl_eq (rfl : TI p0 p0.toInt) tn_4 c4
              refine ok_ltA (fun x85 => ?_)
              exact ok_some trivial
            · refine ok_ltA (fun x84 => ?_)
              exact ok_some trivial
          · intro y3 hyy3
            have u_y3 := hyy3
            have kp3 : p3.toInt = _ := i3
            refine ok_bnd (Q := fun (z : Int32 × DD) => (0 ≤ z.1.toInt ∧ z.1.toInt ≤ p3.toInt) ∧ TT G z.2 p w L ∧ Fr p [1] M z.2) (ok_itr (fun (z : Int32 × DD) => (0 ≤ z.1.toInt ∧ z.1.toInt ≤ p3.toInt) ∧ TT G z.2 p w L ∧ Fr p [1] M z.2) (fun z => (p3.toInt - z.1.toInt).toNat) ?_ _ _ ?_ ?_) ?_
            · intro s5 hys5
              obtain ⟨ls5_1, ts5_2, fs5_2⟩ := hys5
              have is5_1 : TI s5.1 s5.1.toInt := rfl
              refine ok_if (fun c5 => ?_) (fun c5 => ?_)
              · have dc5 := tl_le i3 is5_1 c5
                exact ok_some ⟨(ti_bd is5_1 (by omega) (by omega)), ts5_2, fs5_2⟩
              · have dc5 := tl_nle i3 is5_1 c5
                refine ok_ltI (av_mul is5_1 i2 (by omega) (by omega)) (fun x9 ix9 => ?_)
                refine ok_ltI (av_add i1 ix9 (by omega) (by omega)) (fun x10 ix10 => ?_)
                have k0x10 : x10.toInt = _ := ix10
                refine ok_bnd (Q := fun (z : Int32 × DD) => (x10.toInt ≤ z.1.toInt ∧ z.1.toInt ≤ (a1 + s5.1.toInt * 8 + 8)) ∧ TT G z.2 p w L ∧ Fr p [1] M z.2) (ok_itr (fun (z : Int32 × DD) => (x10.toInt ≤ z.1.toInt ∧ z.1.toInt ≤ (a1 + s5.1.toInt * 8 + 8)) ∧ TT G z.2 p w L ∧ Fr p [1] M z.2) (fun z => ((a1 + s5.1.toInt * 8 + 8) - z.1.toInt).toNat) ?_ _ _ ?_ ?_) ?_
                · intro s12 hys12
                  obtain ⟨ls12_1, ts12_2, fs12_2⟩ := hys12
                  have is12_1 : TI s12.1 s12.1.toInt := rfl
                  refine ok_ltI (av_mul is5_1 i2 (by omega) (by omega)) (fun x16 ix16 => ?_)
                  refine ok_ltI (av_add i1 ix16 (by omega) (by omega)) (fun x17 ix17 => ?_)
                  refine ok_ltI (av_add ix17 i3 (by omega) (by omega)) (fun x18 ix18 => ?_)
                  refine ok_if (fun c6 => ?_) (fun c6 => ?_)
                  · have dc6 := tl_le ix18 is12_1 c6
                    exact ok_some ⟨(ti_bd is12_1 (by omega) (by omega)), ts12_2, fs12_2⟩
                  · have dc6 := tl_nle ix18 is12_1 c6
                    refine ok_bnd (Q := fun (z : DD) => TT G z p w L ∧ Fr p [1] M z) ?_ ?_
                    · refine ok_if (fun c7 => ?_) (fun c7 => ?_)
                      · have dc7 := tl_le tn_2 (rfl : TI p0 p0.toInt) c7
                        refine ok_bnd (Q := fun (z : DD) => TT G z p w L ∧ Fr p [1] M z) ?_ ?_
                        · refine ok_if (fun c8 => ?_) (fun c8 => ?_)
                          · have dc8 := tl_eq (rfl : TI p0 p0.toInt) tn_2 c8
                            refine ok_dr (f_r (b := 140) ts12_2 rfl (by decide)) (g_lt ts12_2 (by decide)) (g_k ts12_2 (by decide) rfl) ?_
                            refine ok_chk (nxg (g_n (i := 140) (n := 384) ts12_2 (by decide) rfl) is12_1 (by omega) (by omega)) ?_
                            refine ok_ltA (fun x71 => ?_)
                            refine ok_dr (f_r (b := 141) ts12_2 rfl (by decide)) (g_lt ts12_2 (by decide)) (g_k ts12_2 (by decide) rfl) ?_
                            refine ok_chk (nxg (g_n (i := 141) (n := 384) ts12_2 (by decide) rfl) is12_1 (by omega) (by omega)) ?_
                            refine ok_ltA (fun x73 => ?_)
                            refine ok_ltA (fun x74 => ?_)
                            refine ok_ltA (fun x75 => ?_)
                            refine ok_ltA (fun x76 => ?_)
                            refine ok_dr (f_r (b := 139) ts12_2 rfl (by decide)) (g_lt ts12_2 (by decide)) (g_k ts12_2 (by decide) rfl) ?_
                            refine ok_chk (nxg (g_n (i := 139) (n := 384) ts12_2 (by decide) rfl) is12_1 (by omega) (by omega)) ?_
                            refine ok_ltt (fun M78 eM78 => ?_)
                            have tM78 : TT G M78 p w L := by rw [eM78]; exact (tt_w0 ts12_2 rfl)
                            have fM78 : Fr p [1] M M78 := by rw [eM78]; exact (fr_w fs12_2 rfl)
                            clear eM78
                            exact ok_some ⟨tM78, fM78⟩
                          · refine ok_bnd (Q := fun (z : Int32 × DD) => True ∧ TT G z.2 p w L ∧ Fr p [1] M z.2) ?_ ?_
                            · refine ok_if (fun c9 => ?_) (fun c9 => ?_)
                              · have dc9 := tl_eq (rfl : TI p0 p0.toInt) tn_5 c9
                                refine ok_dr (f_r (b := 140) ts12_2 rfl (by decide)) (g_lt ts12_2 (by decide)) (g_k ts12_2 (by decide) rfl) ?_
                                refine ok_chk (nxg (g_n (i := 140) (n := 384) ts12_2 (by decide) rfl) is12_1 (by omega) (by omega)) ?_
                                refine ok_ltA (fun x47 => ?_)
                                refine ok_ltA (fun x48 => ?_)
                                refine ok_ltA (fun x49 => ?_)
                                refine ok_dr (f_r (b := 141) ts12_2 rfl (by decide)) (g_lt ts12_2 (by decide)) (g_k ts12_2 (by decide) rfl) ?_
                                refine ok_chk (nxg (g_n (i := 141) (n := 384) ts12_2 (by decide) rfl) is12_1 (by omega) (by omega)) ?_
                                refine ok_ltA (fun x51 => ?_)
                                refine ok_ltA (fun x52 => ?_)
                                refine ok_ltA (fun x53 => ?_)
                                refine ok_ltA (fun x54 => ?_)
                                refine ok_ltA (fun x55 => ?_)
                                refine ok_ltA (fun x56 => ?_)
                                refine ok_ltA (fun x57 => ?_)
                                refine ok_ltA (fun x58 => ?_)
                                refine ok_ltA (fun x59 => ?_)
                                refine ok_ltA (fun x60 => ?_)
                                refine ok_ltA (fun x61 => ?_)
                                refine ok_ltA (fun x62 => ?_)
                                refine ok_ltA (fun x63 => ?_)
                                refine ok_ltA (fun x64 => ?_)
                                refine ok_ltA (fun x65 => ?_)
                                refine ok_ltA (fun x66 => ?_)
                                refine ok_bnd (s_clip ts12_2) ?_
                                intro y67 hyy67
                                obtain ⟨ty67, gy67, _⟩ := hyy67
                                have fy67 := fr_tr fs12_2 gy67 rfl
                                refine ok_dr (f_r (b := 139) ts12_2 rfl (by decide)) (g_lt ty67 (by decide)) (g_k ty67 (by decide) rfl) ?_
                                refine ok_chk (nxg (g_n (i := 139) (n := 384) ty67 (by decide) rfl) is12_1 (by omega) (by omega)) ?_
                                refine ok_ltt (fun M69 eM69 => ?_)
                                have tM69 : TT G M69 p w L := by rw [eM69]; exact (tt_w0 ty67 rfl)
                                have fM69 : Fr p [1] M M69 := by rw [eM69]; exact (fr_w fy67 rfl)
                                clear eM69
                                exact ok_some ⟨trivial, tM69, fM69⟩
                              · refine ok_ltA (fun x27 => ?_)
                                refine ok_bnd (Q := fun (z : Int32) => True) ?_ ?_
                                · refine ok_if (fun c10 => ?_) (fun c10 => ?_)
                                  · have dc10 := tl_le (rfl : TI x27 x27.toInt) tn_0 c10
                                    refine ok_dr ecy1 (g_lt ts12_2 (two_lt hcy1)) (gk_two ts12_2 hcy1) ?_
                                    refine ok_chk (nxg (gl_two ts12_2 hcy1) is12_1 (by omega) (by omega)) ?_
                                    refine ok_ltA (fun x35 => ?_)
                                    refine ok_ltA (fun x36 => ?_)
                                    exact ok_some trivial
                                  · have dc10 := tl_nle (rfl : TI x27 x27.toInt) tn_0 c10
                                    refine ok_dr ecy1 (g_lt ts12_2 (two_lt hcy1)) (gk_two ts12_2 hcy1) ?_
                                    refine ok_chk (nxg (gl_two ts12_2 hcy1) is12_1 (by omega) (by omega)) ?_
                                    refine ok_ltA (fun x38 => ?_)
                                    refine ok_ltA (fun x39 => ?_)
                                    refine ok_ltA (fun x40 => ?_)
                                    refine ok_ltA (fun x41 => ?_)
                                    refine ok_ltA (fun x42 => ?_)
                                    refine ok_ltA (fun x43 => ?_)
                                    refine ok_ltA (fun x44 => ?_)
                                    refine ok_ltA (fun x45 => ?_)
                                    exact ok_some trivial
                                · intro y28 hyy28
                                  have u_y28 := hyy28
                                  refine ok_ltA (fun x29 => ?_)
                                  refine ok_bnd (s_clip ts12_2) ?_
                                  intro y30 hyy30
                                  obtain ⟨ty30, gy30, _⟩ := hyy30
                                  have fy30 := fr_tr fs12_2 gy30 rfl
                                  refine ok_dr (f_r (b := 139) ts12_2 rfl (by decide)) (g_lt ty30 (by decide)) (g_k ty30 (by decide) rfl) ?_
                                  refine ok_chk (nxg (g_n (i := 139) (n := 384) ty30 (by decide) rfl) is12_1 (by omega) (by omega)) ?_
                                  refine ok_ltt (fun M32 eM32 => ?_)
                                  have tM32 : TT G M32 p w L := by rw [eM32]; exact (tt_w0 ty30 rfl)
                                  have fM32 : Fr p [1] M M32 := by rw [eM32]; exact (fr_w fy30 rfl)
                                  clear eM32
                                  exact ok_some ⟨trivial, tM32, fM32⟩
                            · intro y25 hyy25
                              obtain ⟨_, ty25_2, fy25_2⟩ := hyy25
                              exact ok_some ⟨ty25_2, fy25_2⟩
                        · intro y23 hyy23
                          obtain ⟨ty23, fy23⟩ := hyy23
                          exact ok_some ⟨ty23, fy23⟩
                      · have dc7 := tl_nle tn_2 (rfl : TI p0 p0.toInt) c7
                        refine ok_dr ecy1 (g_lt ts12_2 (two_lt hcy1)) (gk_two ts12_2 hcy1) ?_
                        refine ok_chk (nxg (gl_two ts12_2 hcy1) is12_1 (by omega) (by omega)) ?_
                        refine ok_ltA (fun x80 => ?_)
                        refine ok_dr (f_r (b := 139) ts12_2 rfl (by decide)) (g_lt ts12_2 (by decide)) (g_k ts12_2 (by decide) rfl) ?_
                        refine ok_chk (nxg (g_n (i := 139) (n := 384) ts12_2 (by decide) rfl) is12_1 (by omega) (by omega)) ?_
                        refine ok_ltt (fun M82 eM82 => ?_)
                        have tM82 : TT G M82 p w L := by rw [eM82]; exact (tt_w0 ts12_2 rfl)
                        have fM82 : Fr p [1] M M82 := by rw [eM82]; exact (fr_w fs12_2 rfl)
                        clear eM82
                        exact ok_some ⟨tM82, fM82⟩
                    · intro y20 hyy20
                      obtain ⟨ty20, fy20⟩ := hyy20
                      refine ok_ltI (av_add is12_1 tn_1 (by omega) (by omega)) (fun x21 ix21 => ?_)
                      exact ok_some ⟨⟨(ti_bd ix21 (by omega) (by omega)), ty20, fy20⟩, (mu_up ix21 (by omega) (by omega))⟩
                · exact ⟨(ti_bd ix10 (by omega) (by omega)), ts5_2, fs5_2⟩
                · exact mu_0 ix10 (by omega)
                · intro y11 hyy11
                  obtain ⟨ly11_1, ty11_2, fy11_2⟩ := hyy11
                  have iy11_1 : TI y11.1 y11.1.toInt := rfl
                  refine ok_ltI (av_add is5_1 tn_1 (by omega) (by omega)) (fun x14 ix14 => ?_)
                  exact ok_some ⟨⟨(ti_bd ix14 (by omega) (by omega)), ty11_2, fy11_2⟩, (mu_up ix14 (by omega) (by omega))⟩
            · exact ⟨(ti_bd tn_0 (by omega) (by omega)), t, (fr_0 p [1] M)⟩
            · exact mu_0 tn_0 (by omega)
            · intro y4 hyy4
              obtain ⟨ly4_1, ty4_2, fy4_2⟩ := hyy4
              have iy4_1 : TI y4.1 y4.1.toInt := rfl
              exact ok_some ⟨ty4_2, fy4_2⟩
    · refine ok_bnd (Q := fun (z : Option Nat) => (∃ c, (c == 140 || c == 141) = true ∧ z = some c)) ?_ ?_
      · refine ok_if (fun c1 => ?_) (fun c1 => ?_)
        · have dc1 := tl_eq (rfl : TI p0 p0.toInt) tn_1 c1
          exact ok_some ⟨141, rfl, f_r (b := 141) t rfl (by decide)⟩
        · refine ok_bnd (Q := fun (z : Option Nat) => (∃ c, (c == 140 || c == 141) = true ∧ z = some c)) ?_ ?_
          · refine ok_if (fun c2 => ?_) (fun c2 => ?_)
            · have dc2 := tl_eq (rfl : TI p0 p0.toInt) tn_4 c2
              exact ok_some ⟨141, rfl, f_r (b := 141) t rfl (by decide)⟩
            · exact ok_some ⟨140, rfl, f_r (b := 140) t rfl (by decide)⟩
          · intro y90 hyy90
            obtain ⟨cy90, hcy90, ecy90⟩ := hyy90
            exact ok_some ⟨cy90, hcy90, ecy90⟩
      · intro y1 hyy1
        obtain ⟨cy1, hcy1, ecy1⟩ := hyy1
        refine ok_bnd (Q := fun (z : Int32) => True) ?_ ?_
        · refine ok_if (fun c3 => ?_) (fun c3 => ?_)
          · have dc3 := tl_eq (rfl : TI p0 p0.toInt) tn_4 c3
            refine ok_ltA (fun x88 => ?_)
            exact ok_some trivial
          · refine ok_ltA (fun x87 => ?_)
            exact ok_some trivial
        · intro y2 hyy2
          have u_y2 := hyy2
          refine ok_bnd (Q := fun (z : Int32) => True) ?_ ?_
          · refine ok_if (fun c4 => ?_) (fun c4 => ?_)
            · have dc4 := tl_eq (rfl : TI p0 p0.toInt) tn_4 c4
              refine ok_ltA (fun x85 => ?_)
              exact ok_some trivial
            · refine ok_ltA (fun x84 => ?_)
              exact ok_some trivial
          · intro y3 hyy3
            have u_y3 := hyy3
            have kp3 : p3.toInt = _ := i3
            refine ok_bnd (Q := fun (z : Int32 × DD) => (0 ≤ z.1.toInt ∧ z.1.toInt ≤ p3.toInt) ∧ TT G z.2 p w L ∧ Fr p [1] M z.2) (ok_itr (fun (z : Int32 × DD) => (0 ≤ z.1.toInt ∧ z.1.toInt ≤ p3.toInt) ∧ TT G z.2 p w L ∧ Fr p [1] M z.2) (fun z => (p3.toInt - z.1.toInt).toNat) ?_ _ _ ?_ ?_) ?_
            · intro s5 hys5
              obtain ⟨ls5_1, ts5_2, fs5_2⟩ := hys5
              have is5_1 : TI s5.1 s5.1.toInt := rfl
              refine ok_if (fun c5 => ?_) (fun c5 => ?_)
              · have dc5 := tl_le i3 is5_1 c5
                exact ok_some ⟨(ti_bd is5_1 (by omega) (by omega)), ts5_2, fs5_2⟩
              · have dc5 := tl_nle i3 is5_1 c5
                refine ok_ltI (av_mul is5_1 i2 (by omega) (by omega)) (fun x9 ix9 => ?_)
                refine ok_ltI (av_add i1 ix9 (by omega) (by omega)) (fun x10 ix10 => ?_)
                have k0x10 : x10.toInt = _ := ix10
                refine ok_bnd (Q := fun (z : Int32 × DD) => (x10.toInt ≤ z.1.toInt ∧ z.1.toInt ≤ (a1 + s5.1.toInt * 8 + 16)) ∧ TT G z.2 p w L ∧ Fr p [1] M z.2) (ok_itr (fun (z : Int32 × DD) => (x10.toInt ≤ z.1.toInt ∧ z.1.toInt ≤ (a1 + s5.1.toInt * 8 + 16)) ∧ TT G z.2 p w L ∧ Fr p [1] M z.2) (fun z => ((a1 + s5.1.toInt * 8 + 16) - z.1.toInt).toNat) ?_ _ _ ?_ ?_) ?_
                · intro s12 hys12
                  obtain ⟨ls12_1, ts12_2, fs12_2⟩ := hys12
                  have is12_1 : TI s12.1 s12.1.toInt := rfl
                  refine ok_ltI (av_mul is5_1 i2 (by omega) (by omega)) (fun x16 ix16 => ?_)
                  refine ok_ltI (av_add i1 ix16 (by omega) (by omega)) (fun x17 ix17 => ?_)
                  refine ok_ltI (av_add ix17 i3 (by omega) (by omega)) (fun x18 ix18 => ?_)
                  refine ok_if (fun c6 => ?_) (fun c6 => ?_)
                  · have dc6 := tl_le ix18 is12_1 c6
                    exact ok_some ⟨(ti_bd is12_1 (by omega) (by omega)), ts12_2, fs12_2⟩
                  · have dc6 := tl_nle ix18 is12_1 c6
                    refine ok_bnd (Q := fun (z : DD) => TT G z p w L ∧ Fr p [1] M z) ?_ ?_
                    · refine ok_if (fun c7 => ?_) (fun c7 => ?_)
                      · have dc7 := tl_le tn_2 (rfl : TI p0 p0.toInt) c7
                        refine ok_bnd (Q := fun (z : DD) => TT G z p w L ∧ Fr p [1] M z) ?_ ?_
                        · refine ok_if (fun c8 => ?_) (fun c8 => ?_)
                          · have dc8 := tl_eq (rfl : TI p0 p0.toInt) tn_2 c8
                            refine ok_dr (f_r (b := 140) ts12_2 rfl (by decide)) (g_lt ts12_2 (by decide)) (g_k ts12_2 (by decide) rfl) ?_
                            refine ok_chk (nxg (g_n (i := 140) (n := 384) ts12_2 (by decide) rfl) is12_1 (by omega) (by omega)) ?_
                            refine ok_ltA (fun x71 => ?_)
                            refine ok_dr (f_r (b := 141) ts12_2 rfl (by decide)) (g_lt ts12_2 (by decide)) (g_k ts12_2 (by decide) rfl) ?_
                            refine ok_chk (nxg (g_n (i := 141) (n := 384) ts12_2 (by decide) rfl) is12_1 (by omega) (by omega)) ?_
                            refine ok_ltA (fun x73 => ?_)
                            refine ok_ltA (fun x74 => ?_)
                            refine ok_ltA (fun x75 => ?_)
                            refine ok_ltA (fun x76 => ?_)
                            refine ok_dr (f_r (b := 139) ts12_2 rfl (by decide)) (g_lt ts12_2 (by decide)) (g_k ts12_2 (by decide) rfl) ?_
                            refine ok_chk (nxg (g_n (i := 139) (n := 384) ts12_2 (by decide) rfl) is12_1 (by omega) (by omega)) ?_
                            refine ok_ltt (fun M78 eM78 => ?_)
                            have tM78 : TT G M78 p w L := by rw [eM78]; exact (tt_w0 ts12_2 rfl)
                            have fM78 : Fr p [1] M M78 := by rw [eM78]; exact (fr_w fs12_2 rfl)
                            clear eM78
                            exact ok_some ⟨tM78, fM78⟩
                          · refine ok_bnd (Q := fun (z : Int32 × DD) => True ∧ TT G z.2 p w L ∧ Fr p [1] M z.2) ?_ ?_
                            · refine ok_if (fun c9 => ?_) (fun c9 => ?_)
                              · have dc9 := tl_eq (rfl : TI p0 p0.toInt) tn_5 c9
                                refine ok_dr (f_r (b := 140) ts12_2 rfl (by decide)) (g_lt ts12_2 (by decide)) (g_k ts12_2 (by decide) rfl) ?_
                                refine ok_chk (nxg (g_n (i := 140) (n := 384) ts12_2 (by decide) rfl) is12_1 (by omega) (by omega)) ?_
                                refine ok_ltA (fun x47 => ?_)
                                refine ok_ltA (fun x48 => ?_)
                                refine ok_ltA (fun x49 => ?_)
                                refine ok_dr (f_r (b := 141) ts12_2 rfl (by decide)) (g_lt ts12_2 (by decide)) (g_k ts12_2 (by decide) rfl) ?_
                                refine ok_chk (nxg (g_n (i := 141) (n := 384) ts12_2 (by decide) rfl) is12_1 (by omega) (by omega)) ?_
                                refine ok_ltA (fun x51 => ?_)
                                refine ok_ltA (fun x52 => ?_)
                                refine ok_ltA (fun x53 => ?_)
                                refine ok_ltA (fun x54 => ?_)
                                refine ok_ltA (fun x55 => ?_)
                                refine ok_ltA (fun x56 => ?_)
                                refine ok_ltA (fun x57 => ?_)
                                refine ok_ltA (fun x58 => ?_)
                                refine ok_ltA (fun x59 => ?_)
                                refine ok_ltA (fun x60 => ?_)
                                refine ok_ltA (fun x61 => ?_)
                                refine ok_ltA (fun x62 => ?_)
                                refine ok_ltA (fun x63 => ?_)
                                refine ok_ltA (fun x64 => ?_)
                                refine ok_ltA (fun x65 => ?_)
                                refine ok_ltA (fun x66 => ?_)
                                refine ok_bnd (s_clip ts12_2) ?_
                                intro y67 hyy67
                                obtain ⟨ty67, gy67, _⟩ := hyy67
                                have fy67 := fr_tr fs12_2 gy67 rfl
                                refine ok_dr (f_r (b := 139) ts12_2 rfl (by decide)) (g_lt ty67 (by decide)) (g_k ty67 (by decide) rfl) ?_
                                refine ok_chk (nxg (g_n (i := 139) (n := 384) ty67 (by decide) rfl) is12_1 (by omega) (by omega)) ?_
                                refine ok_ltt (fun M69 eM69 => ?_)
                                have tM69 : TT G M69 p w L := by rw [eM69]; exact (tt_w0 ty67 rfl)
                                have fM69 : Fr p [1] M M69 := by rw [eM69]; exact (fr_w fy67 rfl)
                                clear eM69
                                exact ok_some ⟨trivial, tM69, fM69⟩
                              · refine ok_ltA (fun x27 => ?_)
                                refine ok_bnd (Q := fun (z : Int32) => True) ?_ ?_
                                · refine ok_if (fun c10 => ?_) (fun c10 => ?_)
                                  · have dc10 := tl_le (rfl : TI x27 x27.toInt) tn_0 c10
                                    refine ok_dr ecy1 (g_lt ts12_2 (two_lt hcy1)) (gk_two ts12_2 hcy1) ?_
                                    refine ok_chk (nxg (gl_two ts12_2 hcy1) is12_1 (by omega) (by omega)) ?_
                                    refine ok_ltA (fun x35 => ?_)
                                    refine ok_ltA (fun x36 => ?_)
                                    exact ok_some trivial
                                  · have dc10 := tl_nle (rfl : TI x27 x27.toInt) tn_0 c10
                                    refine ok_dr ecy1 (g_lt ts12_2 (two_lt hcy1)) (gk_two ts12_2 hcy1) ?_
                                    refine ok_chk (nxg (gl_two ts12_2 hcy1) is12_1 (by omega) (by omega)) ?_
                                    refine ok_ltA (fun x38 => ?_)
                                    refine ok_ltA (fun x39 => ?_)
                                    refine ok_ltA (fun x40 => ?_)
                                    refine ok_ltA (fun x41 => ?_)
                                    refine ok_ltA (fun x42 => ?_)
                                    refine ok_ltA (fun x43 => ?_)
                                    refine ok_ltA (fun x44 => ?_)
                                    refine ok_ltA (fun x45 => ?_)
                                    exact ok_some trivial
                                · intro y28 hyy28
                                  have u_y28 := hyy28
                                  refine ok_ltA (fun x29 => ?_)
                                  refine ok_bnd (s_clip ts12_2) ?_
                                  intro y30 hyy30
                                  obtain ⟨ty30, gy30, _⟩ := hyy30
                                  have fy30 := fr_tr fs12_2 gy30 rfl
                                  refine ok_dr (f_r (b := 139) ts12_2 rfl (by decide)) (g_lt ty30 (by decide)) (g_k ty30 (by decide) rfl) ?_
                                  refine ok_chk (nxg (g_n (i := 139) (n := 384) ty30 (by decide) rfl) is12_1 (by omega) (by omega)) ?_
                                  refine ok_ltt (fun M32 eM32 => ?_)
                                  have tM32 : TT G M32 p w L := by rw [eM32]; exact (tt_w0 ty30 rfl)
                                  have fM32 : Fr p [1] M M32 := by rw [eM32]; exact (fr_w fy30 rfl)
                                  clear eM32
                                  exact ok_some ⟨trivial, tM32, fM32⟩
                            · intro y25 hyy25
                              obtain ⟨_, ty25_2, fy25_2⟩ := hyy25
                              exact ok_some ⟨ty25_2, fy25_2⟩
                        · intro y23 hyy23
                          obtain ⟨ty23, fy23⟩ := hyy23
                          exact ok_some ⟨ty23, fy23⟩
                      · have dc7 := tl_nle tn_2 (rfl : TI p0 p0.toInt) c7
                        refine ok_dr ecy1 (g_lt ts12_2 (two_lt hcy1)) (gk_two ts12_2 hcy1) ?_
                        refine ok_chk (nxg (gl_two ts12_2 hcy1) is12_1 (by omega) (by omega)) ?_
                        refine ok_ltA (fun x80 => ?_)
                        refine ok_dr (f_r (b := 139) ts12_2 rfl (by decide)) (g_lt ts12_2 (by decide)) (g_k ts12_2 (by decide) rfl) ?_
                        refine ok_chk (nxg (g_n (i := 139) (n := 384) ts12_2 (by decide) rfl) is12_1 (by omega) (by omega)) ?_
                        refine ok_ltt (fun M82 eM82 => ?_)
                        have tM82 : TT G M82 p w L := by rw [eM82]; exact (tt_w0 ts12_2 rfl)
                        have fM82 : Fr p [1] M M82 := by rw [eM82]; exact (fr_w fs12_2 rfl)
                        clear eM82
                        exact ok_some ⟨tM82, fM82⟩
                    · intro y20 hyy20
                      obtain ⟨ty20, fy20⟩ := hyy20
                      refine ok_ltI (av_add is12_1 tn_1 (by omega) (by omega)) (fun x21 ix21 => ?_)
                      exact ok_some ⟨⟨(ti_bd ix21 (by omega) (by omega)), ty20, fy20⟩, (mu_up ix21 (by omega) (by omega))⟩
                · exact ⟨(ti_bd ix10 (by omega) (by omega)), ts5_2, fs5_2⟩
                · exact mu_0 ix10 (by omega)
                · intro y11 hyy11
                  obtain ⟨ly11_1, ty11_2, fy11_2⟩ := hyy11
                  have iy11_1 : TI y11.1 y11.1.toInt := rfl
                  refine ok_ltI (av_add is5_1 tn_1 (by omega) (by omega)) (fun x14 ix14 => ?_)
                  exact ok_some ⟨⟨(ti_bd ix14 (by omega) (by omega)), ty11_2, fy11_2⟩, (mu_up ix14 (by omega) (by omega))⟩
            · exact ⟨(ti_bd tn_0 (by omega) (by omega)), t, (fr_0 p [1] M)⟩
            · exact mu_0 tn_0 (by omega)
            · intro y4 hyy4
              obtain ⟨ly4_1, ty4_2, fy4_2⟩ := hyy4
              have iy4_1 : TI y4.1 y4.1.toInt := rfl
              exact ok_some ⟨ty4_2, fy4_2⟩
  · rcases h2 with rfl | rfl | rfl | rfl
    · refine ok_bnd (Q := fun (z : Option Nat) => (∃ c, (c == 140 || c == 141) = true ∧ z = some c)) ?_ ?_
      · refine ok_if (fun c1 => ?_) (fun c1 => ?_)
        · have dc1 := tl_eq (rfl : TI p0 p0.toInt) tn_1 c1
          exact ok_some ⟨141, rfl, f_r (b := 141) t rfl (by decide)⟩
        · refine ok_bnd (Q := fun (z : Option Nat) => (∃ c, (c == 140 || c == 141) = true ∧ z = some c)) ?_ ?_
          · refine ok_if (fun c2 => ?_) (fun c2 => ?_)
            · have dc2 := tl_eq (rfl : TI p0 p0.toInt) tn_4 c2
              exact ok_some ⟨141, rfl, f_r (b := 141) t rfl (by decide)⟩
            · exact ok_some ⟨140, rfl, f_r (b := 140) t rfl (by decide)⟩
          · intro y90 hyy90
            obtain ⟨cy90, hcy90, ecy90⟩ := hyy90
            exact ok_some ⟨cy90, hcy90, ecy90⟩
      · intro y1 hyy1
        obtain ⟨cy1, hcy1, ecy1⟩ := hyy1
        refine ok_bnd (Q := fun (z : Int32) => True) ?_ ?_
        · refine ok_if (fun c3 => ?_) (fun c3 => ?_)
          · have dc3 := tl_eq (rfl : TI p0 p0.toInt) tn_4 c3
            refine ok_ltA (fun x88 => ?_)
            exact ok_some trivial
          · refine ok_ltA (fun x87 => ?_)
            exact ok_some trivial
        · intro y2 hyy2
          have u_y2 := hyy2
          refine ok_bnd (Q := fun (z : Int32) => True) ?_ ?_
          · refine ok_if (fun c4 => ?_) (fun c4 => ?_)
            · have dc4 := tl_eq (rfl : TI p0 p0.toInt) tn_4 c4
              refine ok_ltA (fun x85 => ?_)
              exact ok_some trivial
            · refine ok_ltA (fun x84 => ?_)
              exact ok_some trivial
          · intro y3 hyy3
            have u_y3 := hyy3
            have kp3 : p3.toInt = _ := i3
            refine ok_bnd (Q := fun (z : Int32 × DD) => (0 ≤ z.1.toInt ∧ z.1.toInt ≤ p3.toInt) ∧ TT G z.2 p w L ∧ Fr p [1] M z.2) (ok_itr (fun (z : Int32 × DD) => (0 ≤ z.1.toInt ∧ z.1.toInt ≤ p3.toInt) ∧ TT G z.2 p w L ∧ Fr p [1] M z.2) (fun z => (p3.toInt - z.1.toInt).toNat) ?_ _ _ ?_ ?_) ?_
            · intro s5 hys5
              obtain ⟨ls5_1, ts5_2, fs5_2⟩ := hys5
              have is5_1 : TI s5.1 s5.1.toInt := rfl
              refine ok_if (fun c5 => ?_) (fun c5 => ?_)
              · have dc5 := tl_le i3 is5_1 c5
                exact ok_some ⟨(ti_bd is5_1 (by omega) (by omega)), ts5_2, fs5_2⟩
              · have dc5 := tl_nle i3 is5_1 c5
                refine ok_ltI (av_mul is5_1 i2 (by omega) (by omega)) (fun x9 ix9 => ?_)
                refine ok_ltI (av_add i1 ix9 (by omega) (by omega)) (fun x10 ix10 => ?_)
                have k0x10 : x10.toInt = _ := ix10
                refine ok_bnd (Q := fun (z : Int32 × DD) => (x10.toInt ≤ z.1.toInt ∧ z.1.toInt ≤ (a1 + s5.1.toInt * 16 + 2)) ∧ TT G z.2 p w L ∧ Fr p [1] M z.2) (ok_itr (fun (z : Int32 × DD) => (x10.toInt ≤ z.1.toInt ∧ z.1.toInt ≤ (a1 + s5.1.toInt * 16 + 2)) ∧ TT G z.2 p w L ∧ Fr p [1] M z.2) (fun z => ((a1 + s5.1.toInt * 16 + 2) - z.1.toInt).toNat) ?_ _ _ ?_ ?_) ?_
                · intro s12 hys12
                  obtain ⟨ls12_1, ts12_2, fs12_2⟩ := hys12
                  have is12_1 : TI s12.1 s12.1.toInt := rfl
                  refine ok_ltI (av_mul is5_1 i2 (by omega) (by omega)) (fun x16 ix16 => ?_)
                  refine ok_ltI (av_add i1 ix16 (by omega) (by omega)) (fun x17 ix17 => ?_)
                  refine ok_ltI (av_add ix17 i3 (by omega) (by omega)) (fun x18 ix18 => ?_)
                  refine ok_if (fun c6 => ?_) (fun c6 => ?_)
                  · have dc6 := tl_le ix18 is12_1 c6
                    exact ok_some ⟨(ti_bd is12_1 (by omega) (by omega)), ts12_2, fs12_2⟩
                  · have dc6 := tl_nle ix18 is12_1 c6
                    refine ok_bnd (Q := fun (z : DD) => TT G z p w L ∧ Fr p [1] M z) ?_ ?_
                    · refine ok_if (fun c7 => ?_) (fun c7 => ?_)
                      · have dc7 := tl_le tn_2 (rfl : TI p0 p0.toInt) c7
                        refine ok_bnd (Q := fun (z : DD) => TT G z p w L ∧ Fr p [1] M z) ?_ ?_
                        · refine ok_if (fun c8 => ?_) (fun c8 => ?_)
                          · have dc8 := tl_eq (rfl : TI p0 p0.toInt) tn_2 c8
                            refine ok_dr (f_r (b := 140) ts12_2 rfl (by decide)) (g_lt ts12_2 (by decide)) (g_k ts12_2 (by decide) rfl) ?_
                            refine ok_chk (nxg (g_n (i := 140) (n := 384) ts12_2 (by decide) rfl) is12_1 (by omega) (by omega)) ?_
                            refine ok_ltA (fun x71 => ?_)
                            refine ok_dr (f_r (b := 141) ts12_2 rfl (by decide)) (g_lt ts12_2 (by decide)) (g_k ts12_2 (by decide) rfl) ?_
                            refine ok_chk (nxg (g_n (i := 141) (n := 384) ts12_2 (by decide) rfl) is12_1 (by omega) (by omega)) ?_
                            refine ok_ltA (fun x73 => ?_)
                            refine ok_ltA (fun x74 => ?_)
                            refine ok_ltA (fun x75 => ?_)
                            refine ok_ltA (fun x76 => ?_)
                            refine ok_dr (f_r (b := 139) ts12_2 rfl (by decide)) (g_lt ts12_2 (by decide)) (g_k ts12_2 (by decide) rfl) ?_
                            refine ok_chk (nxg (g_n (i := 139) (n := 384) ts12_2 (by decide) rfl) is12_1 (by omega) (by omega)) ?_
                            refine ok_ltt (fun M78 eM78 => ?_)
                            have tM78 : TT G M78 p w L := by rw [eM78]; exact (tt_w0 ts12_2 rfl)
                            have fM78 : Fr p [1] M M78 := by rw [eM78]; exact (fr_w fs12_2 rfl)
                            clear eM78
                            exact ok_some ⟨tM78, fM78⟩
                          · refine ok_bnd (Q := fun (z : Int32 × DD) => True ∧ TT G z.2 p w L ∧ Fr p [1] M z.2) ?_ ?_
                            · refine ok_if (fun c9 => ?_) (fun c9 => ?_)
                              · have dc9 := tl_eq (rfl : TI p0 p0.toInt) tn_5 c9
                                refine ok_dr (f_r (b := 140) ts12_2 rfl (by decide)) (g_lt ts12_2 (by decide)) (g_k ts12_2 (by decide) rfl) ?_
                                refine ok_chk (nxg (g_n (i := 140) (n := 384) ts12_2 (by decide) rfl) is12_1 (by omega) (by omega)) ?_
                                refine ok_ltA (fun x47 => ?_)
                                refine ok_ltA (fun x48 => ?_)
                                refine ok_ltA (fun x49 => ?_)
                                refine ok_dr (f_r (b := 141) ts12_2 rfl (by decide)) (g_lt ts12_2 (by decide)) (g_k ts12_2 (by decide) rfl) ?_
                                refine ok_chk (nxg (g_n (i := 141) (n := 384) ts12_2 (by decide) rfl) is12_1 (by omega) (by omega)) ?_
                                refine ok_ltA (fun x51 => ?_)
                                refine ok_ltA (fun x52 => ?_)
                                refine ok_ltA (fun x53 => ?_)
                                refine ok_ltA (fun x54 => ?_)
                                refine ok_ltA (fun x55 => ?_)
                                refine ok_ltA (fun x56 => ?_)
                                refine ok_ltA (fun x57 => ?_)
                                refine ok_ltA (fun x58 => ?_)
                                refine ok_ltA (fun x59 => ?_)
                                refine ok_ltA (fun x60 => ?_)
                                refine ok_ltA (fun x61 => ?_)
                                refine ok_ltA (fun x62 => ?_)
                                refine ok_ltA (fun x63 => ?_)
                                refine ok_ltA (fun x64 => ?_)
                                refine ok_ltA (fun x65 => ?_)
                                refine ok_ltA (fun x66 => ?_)
                                refine ok_bnd (s_clip ts12_2) ?_
                                intro y67 hyy67
                                obtain ⟨ty67, gy67, _⟩ := hyy67
                                have fy67 := fr_tr fs12_2 gy67 rfl
                                refine ok_dr (f_r (b := 139) ts12_2 rfl (by decide)) (g_lt ty67 (by decide)) (g_k ty67 (by decide) rfl) ?_
                                refine ok_chk (nxg (g_n (i := 139) (n := 384) ty67 (by decide) rfl) is12_1 (by omega) (by omega)) ?_
                                refine ok_ltt (fun M69 eM69 => ?_)
                                have tM69 : TT G M69 p w L := by rw [eM69]; exact (tt_w0 ty67 rfl)
                                have fM69 : Fr p [1] M M69 := by rw [eM69]; exact (fr_w fy67 rfl)
                                clear eM69
                                exact ok_some ⟨trivial, tM69, fM69⟩
                              · refine ok_ltA (fun x27 => ?_)
                                refine ok_bnd (Q := fun (z : Int32) => True) ?_ ?_
                                · refine ok_if (fun c10 => ?_) (fun c10 => ?_)
                                  · have dc10 := tl_le (rfl : TI x27 x27.toInt) tn_0 c10
                                    refine ok_dr ecy1 (g_lt ts12_2 (two_lt hcy1)) (gk_two ts12_2 hcy1) ?_
                                    refine ok_chk (nxg (gl_two ts12_2 hcy1) is12_1 (by omega) (by omega)) ?_
                                    refine ok_ltA (fun x35 => ?_)
                                    refine ok_ltA (fun x36 => ?_)
                                    exact ok_some trivial
                                  · have dc10 := tl_nle (rfl : TI x27 x27.toInt) tn_0 c10
                                    refine ok_dr ecy1 (g_lt ts12_2 (two_lt hcy1)) (gk_two ts12_2 hcy1) ?_
                                    refine ok_chk (nxg (gl_two ts12_2 hcy1) is12_1 (by omega) (by omega)) ?_
                                    refine ok_ltA (fun x38 => ?_)
                                    refine ok_ltA (fun x39 => ?_)
                                    refine ok_ltA (fun x40 => ?_)
                                    refine ok_ltA (fun x41 => ?_)
                                    refine ok_ltA (fun x42 => ?_)
                                    refine ok_ltA (fun x43 => ?_)
                                    refine ok_ltA (fun x44 => ?_)
                                    refine ok_ltA (fun x45 => ?_)
                                    exact ok_some trivial
                                · intro y28 hyy28
                                  have u_y28 := hyy28
                                  refine ok_ltA (fun x29 => ?_)
                                  refine ok_bnd (s_clip ts12_2) ?_
                                  intro y30 hyy30
                                  obtain ⟨ty30, gy30, _⟩ := hyy30
                                  have fy30 := fr_tr fs12_2 gy30 rfl
                                  refine ok_dr (f_r (b := 139) ts12_2 rfl (by decide)) (g_lt ty30 (by decide)) (g_k ty30 (by decide) rfl) ?_
                                  refine ok_chk (nxg (g_n (i := 139) (n := 384) ty30 (by decide) rfl) is12_1 (by omega) (by omega)) ?_
                                  refine ok_ltt (fun M32 eM32 => ?_)
                                  have tM32 : TT G M32 p w L := by rw [eM32]; exact (tt_w0 ty30 rfl)
                                  have fM32 : Fr p [1] M M32 := by rw [eM32]; exact (fr_w fy30 rfl)
                                  clear eM32
                                  exact ok_some ⟨trivial, tM32, fM32⟩
                            · intro y25 hyy25
                              obtain ⟨_, ty25_2, fy25_2⟩ := hyy25
                              exact ok_some ⟨ty25_2, fy25_2⟩
                        · intro y23 hyy23
                          obtain ⟨ty23, fy23⟩ := hyy23
                          exact ok_some ⟨ty23, fy23⟩
                      · have dc7 := tl_nle tn_2 (rfl : TI p0 p0.toInt) c7
                        refine ok_dr ecy1 (g_lt ts12_2 (two_lt hcy1)) (gk_two ts12_2 hcy1) ?_
                        refine ok_chk (nxg (gl_two ts12_2 hcy1) is12_1 (by omega) (by omega)) ?_
                        refine ok_ltA (fun x80 => ?_)
                        refine ok_dr (f_r (b := 139) ts12_2 rfl (by decide)) (g_lt ts12_2 (by decide)) (g_k ts12_2 (by decide) rfl) ?_
                        refine ok_chk (nxg (g_n (i := 139) (n := 384) ts12_2 (by decide) rfl) is12_1 (by omega) (by omega)) ?_
                        refine ok_ltt (fun M82 eM82 => ?_)
                        have tM82 : TT G M82 p w L := by rw [eM82]; exact (tt_w0 ts12_2 rfl)
                        have fM82 : Fr p [1] M M82 := by rw [eM82]; exact (fr_w fs12_2 rfl)
                        clear eM82
                        exact ok_some ⟨tM82, fM82⟩
                    · intro y20 hyy20
                      obtain ⟨ty20, fy20⟩ := hyy20
                      refine ok_ltI (av_add is12_1 tn_1 (by omega) (by omega)) (fun x21 ix21 => ?_)
                      exact ok_some ⟨⟨(ti_bd ix21 (by omega) (by omega)), ty20, fy20⟩, (mu_up ix21 (by omega) (by omega))⟩
                · exact ⟨(ti_bd ix10 (by omega) (by omega)), ts5_2, fs5_2⟩
                · exact mu_0 ix10 (by omega)
                · intro y11 hyy11
                  obtain ⟨ly11_1, ty11_2, fy11_2⟩ := hyy11
                  have iy11_1 : TI y11.1 y11.1.toInt := rfl
                  refine ok_ltI (av_add is5_1 tn_1 (by omega) (by omega)) (fun x14 ix14 => ?_)
                  exact ok_some ⟨⟨(ti_bd ix14 (by omega) (by omega)), ty11_2, fy11_2⟩, (mu_up ix14 (by omega) (by omega))⟩
            · exact ⟨(ti_bd tn_0 (by omega) (by omega)), t, (fr_0 p [1] M)⟩
            · exact mu_0 tn_0 (by omega)
            · intro y4 hyy4
              obtain ⟨ly4_1, ty4_2, fy4_2⟩ := hyy4
              have iy4_1 : TI y4.1 y4.1.toInt := rfl
              exact ok_some ⟨ty4_2, fy4_2⟩
    · refine ok_bnd (Q := fun (z : Option Nat) => (∃ c, (c == 140 || c == 141) = true ∧ z = some c)) ?_ ?_
      · refine ok_if (fun c1 => ?_) (fun c1 => ?_)
        · have dc1 := tl_eq (rfl : TI p0 p0.toInt) tn_1 c1
          exact ok_some ⟨141, rfl, f_r (b := 141) t rfl (by decide)⟩
        · refine ok_bnd (Q := fun (z : Option Nat) => (∃ c, (c == 140 || c == 141) = true ∧ z = some c)) ?_ ?_
          · refine ok_if (fun c2 => ?_) (fun c2 => ?_)
            · have dc2 := tl_eq (rfl : TI p0 p0.toInt) tn_4 c2
              exact ok_some ⟨141, rfl, f_r (b := 141) t rfl (by decide)⟩
            · exact ok_some ⟨140, rfl, f_r (b := 140) t rfl (by decide)⟩
          · intro y90 hyy90
            obtain ⟨cy90, hcy90, ecy90⟩ := hyy90
            exact ok_some ⟨cy90, hcy90, ecy90⟩
      · intro y1 hyy1
        obtain ⟨cy1, hcy1, ecy1⟩ := hyy1
        refine ok_bnd (Q := fun (z : Int32) => True) ?_ ?_
        · refine ok_if (fun c3 => ?_) (fun c3 => ?_)
          · have dc3 := tl_eq (rfl : TI p0 p0.toInt) tn_4 c3
            refine ok_ltA (fun x88 => ?_)
            exact ok_some trivial
          · refine ok_ltA (fun x87 => ?_)
            exact ok_some trivial
        · intro y2 hyy2
          have u_y2 := hyy2
          refine ok_bnd (Q := fun (z : Int32) => True) ?_ ?_
          · refine ok_if (fun c4 => ?_) (fun c4 => ?_)
            · have dc4 := tl_eq (rfl : TI p0 p0.toInt) tn_4 c4
              refine ok_ltA (fun x85 => ?_)
              exact ok_some trivial
            · refine ok_ltA (fun x84 => ?_)
              exact ok_some trivial
          · intro y3 hyy3
            have u_y3 := hyy3
            have kp3 : p3.toInt = _ := i3
            refine ok_bnd (Q := fun (z : Int32 × DD) => (0 ≤ z.1.toInt ∧ z.1.toInt ≤ p3.toInt) ∧ TT G z.2 p w L ∧ Fr p [1] M z.2) (ok_itr (fun (z : Int32 × DD) => (0 ≤ z.1.toInt ∧ z.1.toInt ≤ p3.toInt) ∧ TT G z.2 p w L ∧ Fr p [1] M z.2) (fun z => (p3.toInt - z.1.toInt).toNat) ?_ _ _ ?_ ?_) ?_
            · intro s5 hys5
              obtain ⟨ls5_1, ts5_2, fs5_2⟩ := hys5
              have is5_1 : TI s5.1 s5.1.toInt := rfl
              refine ok_if (fun c5 => ?_) (fun c5 => ?_)
              · have dc5 := tl_le i3 is5_1 c5
                exact ok_some ⟨(ti_bd is5_1 (by omega) (by omega)), ts5_2, fs5_2⟩
              · have dc5 := tl_nle i3 is5_1 c5
                refine ok_ltI (av_mul is5_1 i2 (by omega) (by omega)) (fun x9 ix9 => ?_)
                refine ok_ltI (av_add i1 ix9 (by omega) (by omega)) (fun x10 ix10 => ?_)
                have k0x10 : x10.toInt = _ := ix10
                refine ok_bnd (Q := fun (z : Int32 × DD) => (x10.toInt ≤ z.1.toInt ∧ z.1.toInt ≤ (a1 + s5.1.toInt * 16 + 4)) ∧ TT G z.2 p w L ∧ Fr p [1] M z.2) (ok_itr (fun (z : Int32 × DD) => (x10.toInt ≤ z.1.toInt ∧ z.1.toInt ≤ (a1 + s5.1.toInt * 16 + 4)) ∧ TT G z.2 p w L ∧ Fr p [1] M z.2) (fun z => ((a1 + s5.1.toInt * 16 + 4) - z.1.toInt).toNat) ?_ _ _ ?_ ?_) ?_
                · intro s12 hys12
                  obtain ⟨ls12_1, ts12_2, fs12_2⟩ := hys12
                  have is12_1 : TI s12.1 s12.1.toInt := rfl
                  refine ok_ltI (av_mul is5_1 i2 (by omega) (by omega)) (fun x16 ix16 => ?_)
                  refine ok_ltI (av_add i1 ix16 (by omega) (by omega)) (fun x17 ix17 => ?_)
                  refine ok_ltI (av_add ix17 i3 (by omega) (by omega)) (fun x18 ix18 => ?_)
                  refine ok_if (fun c6 => ?_) (fun c6 => ?_)
                  · have dc6 := tl_le ix18 is12_1 c6
                    exact ok_some ⟨(ti_bd is12_1 (by omega) (by omega)), ts12_2, fs12_2⟩
                  · have dc6 := tl_nle ix18 is12_1 c6
                    refine ok_bnd (Q := fun (z : DD) => TT G z p w L ∧ Fr p [1] M z) ?_ ?_
                    · refine ok_if (fun c7 => ?_) (fun c7 => ?_)
                      · have dc7 := tl_le tn_2 (rfl : TI p0 p0.toInt) c7
                        refine ok_bnd (Q := fun (z : DD) => TT G z p w L ∧ Fr p [1] M z) ?_ ?_
                        · refine ok_if (fun c8 => ?_) (fun c8 => ?_)
                          · have dc8 := tl_eq (rfl : TI p0 p0.toInt) tn_2 c8
                            refine ok_dr (f_r (b := 140) ts12_2 rfl (by decide)) (g_lt ts12_2 (by decide)) (g_k ts12_2 (by decide) rfl) ?_
                            refine ok_chk (nxg (g_n (i := 140) (n := 384) ts12_2 (by decide) rfl) is12_1 (by omega) (by omega)) ?_
                            refine ok_ltA (fun x71 => ?_)
                            refine ok_dr (f_r (b := 141) ts12_2 rfl (by decide)) (g_lt ts12_2 (by decide)) (g_k ts12_2 (by decide) rfl) ?_
                            refine ok_chk (nxg (g_n (i := 141) (n := 384) ts12_2 (by decide) rfl) is12_1 (by omega) (by omega)) ?_
                            refine ok_ltA (fun x73 => ?_)
                            refine ok_ltA (fun x74 => ?_)
                            refine ok_ltA (fun x75 => ?_)
                            refine ok_ltA (fun x76 => ?_)
                            refine ok_dr (f_r (b := 139) ts12_2 rfl (by decide)) (g_lt ts12_2 (by decide)) (g_k ts12_2 (by decide) rfl) ?_
                            refine ok_chk (nxg (g_n (i := 139) (n := 384) ts12_2 (by decide) rfl) is12_1 (by omega) (by omega)) ?_
                            refine ok_ltt (fun M78 eM78 => ?_)
                            have tM78 : TT G M78 p w L := by rw [eM78]; exact (tt_w0 ts12_2 rfl)
                            have fM78 : Fr p [1] M M78 := by rw [eM78]; exact (fr_w fs12_2 rfl)
                            clear eM78
                            exact ok_some ⟨tM78, fM78⟩
                          · refine ok_bnd (Q := fun (z : Int32 × DD) => True ∧ TT G z.2 p w L ∧ Fr p [1] M z.2) ?_ ?_
                            · refine ok_if (fun c9 => ?_) (fun c9 => ?_)
                              · have dc9 := tl_eq (rfl : TI p0 p0.toInt) tn_5 c9
                                refine ok_dr (f_r (b := 140) ts12_2 rfl (by decide)) (g_lt ts12_2 (by decide)) (g_k ts12_2 (by decide) rfl) ?_
                                refine ok_chk (nxg (g_n (i := 140) (n := 384) ts12_2 (by decide) rfl) is12_1 (by omega) (by omega)) ?_
                                refine ok_ltA (fun x47 => ?_)
                                refine ok_ltA (fun x48 => ?_)
                                refine ok_ltA (fun x49 => ?_)
                                refine ok_dr (f_r (b := 141) ts12_2 rfl (by decide)) (g_lt ts12_2 (by decide)) (g_k ts12_2 (by decide) rfl) ?_
                                refine ok_chk (nxg (g_n (i := 141) (n := 384) ts12_2 (by decide) rfl) is12_1 (by omega) (by omega)) ?_
                                refine ok_ltA (fun x51 => ?_)
                                refine ok_ltA (fun x52 => ?_)
                                refine ok_ltA (fun x53 => ?_)
                                refine ok_ltA (fun x54 => ?_)
                                refine ok_ltA (fun x55 => ?_)
                                refine ok_ltA (fun x56 => ?_)
                                refine ok_ltA (fun x57 => ?_)
                                refine ok_ltA (fun x58 => ?_)
                                refine ok_ltA (fun x59 => ?_)
                                refine ok_ltA (fun x60 => ?_)
                                refine ok_ltA (fun x61 => ?_)
                                refine ok_ltA (fun x62 => ?_)
                                refine ok_ltA (fun x63 => ?_)
                                refine ok_ltA (fun x64 => ?_)
                                refine ok_ltA (fun x65 => ?_)
                                refine ok_ltA (fun x66 => ?_)
                                refine ok_bnd (s_clip ts12_2) ?_
                                intro y67 hyy67
                                obtain ⟨ty67, gy67, _⟩ := hyy67
                                have fy67 := fr_tr fs12_2 gy67 rfl
                                refine ok_dr (f_r (b := 139) ts12_2 rfl (by decide)) (g_lt ty67 (by decide)) (g_k ty67 (by decide) rfl) ?_
                                refine ok_chk (nxg (g_n (i := 139) (n := 384) ty67 (by decide) rfl) is12_1 (by omega) (by omega)) ?_
                                refine ok_ltt (fun M69 eM69 => ?_)
                                have tM69 : TT G M69 p w L := by rw [eM69]; exact (tt_w0 ty67 rfl)
                                have fM69 : Fr p [1] M M69 := by rw [eM69]; exact (fr_w fy67 rfl)
                                clear eM69
                                exact ok_some ⟨trivial, tM69, fM69⟩
                              · refine ok_ltA (fun x27 => ?_)
                                refine ok_bnd (Q := fun (z : Int32) => True) ?_ ?_
                                · refine ok_if (fun c10 => ?_) (fun c10 => ?_)
                                  · have dc10 := tl_le (rfl : TI x27 x27.toInt) tn_0 c10
                                    refine ok_dr ecy1 (g_lt ts12_2 (two_lt hcy1)) (gk_two ts12_2 hcy1) ?_
                                    refine ok_chk (nxg (gl_two ts12_2 hcy1) is12_1 (by omega) (by omega)) ?_
                                    refine ok_ltA (fun x35 => ?_)
                                    refine ok_ltA (fun x36 => ?_)
                                    exact ok_some trivial
                                  · have dc10 := tl_nle (rfl : TI x27 x27.toInt) tn_0 c10
                                    refine ok_dr ecy1 (g_lt ts12_2 (two_lt hcy1)) (gk_two ts12_2 hcy1) ?_
                                    refine ok_chk (nxg (gl_two ts12_2 hcy1) is12_1 (by omega) (by omega)) ?_
                                    refine ok_ltA (fun x38 => ?_)
                                    refine ok_ltA (fun x39 => ?_)
                                    refine ok_ltA (fun x40 => ?_)
                                    refine ok_ltA (fun x41 => ?_)
                                    refine ok_ltA (fun x42 => ?_)
                                    refine ok_ltA (fun x43 => ?_)
                                    refine ok_ltA (fun x44 => ?_)
                                    refine ok_ltA (fun x45 => ?_)
                                    exact ok_some trivial
                                · intro y28 hyy28
                                  have u_y28 := hyy28
                                  refine ok_ltA (fun x29 => ?_)
                                  refine ok_bnd (s_clip ts12_2) ?_
                                  intro y30 hyy30
                                  obtain ⟨ty30, gy30, _⟩ := hyy30
                                  have fy30 := fr_tr fs12_2 gy30 rfl
                                  refine ok_dr (f_r (b := 139) ts12_2 rfl (by decide)) (g_lt ty30 (by decide)) (g_k ty30 (by decide) rfl) ?_
                                  refine ok_chk (nxg (g_n (i := 139) (n := 384) ty30 (by decide) rfl) is12_1 (by omega) (by omega)) ?_
                                  refine ok_ltt (fun M32 eM32 => ?_)
                                  have tM32 : TT G M32 p w L := by rw [eM32]; exact (tt_w0 ty30 rfl)
                                  have fM32 : Fr p [1] M M32 := by rw [eM32]; exact (fr_w fy30 rfl)
                                  clear eM32
                                  exact ok_some ⟨trivial, tM32, fM32⟩
                            · intro y25 hyy25
                              obtain ⟨_, ty25_2, fy25_2⟩ := hyy25
                              exact ok_some ⟨ty25_2, fy25_2⟩
                        · intro y23 hyy23
                          obtain ⟨ty23, fy23⟩ := hyy23
                          exact ok_some ⟨ty23, fy23⟩
                      · have dc7 := tl_nle tn_2 (rfl : TI p0 p0.toInt) c7
                        refine ok_dr ecy1 (g_lt ts12_2 (two_lt hcy1)) (gk_two ts12_2 hcy1) ?_
                        refine ok_chk (nxg (gl_two ts12_2 hcy1) is12_1 (by omega) (by omega)) ?_
                        refine ok_ltA (fun x80 => ?_)
                        refine ok_dr (f_r (b := 139) ts12_2 rfl (by decide)) (g_lt ts12_2 (by decide)) (g_k ts12_2 (by decide) rfl) ?_
                        refine ok_chk (nxg (g_n (i := 139) (n := 384) ts12_2 (by decide) rfl) is12_1 (by omega) (by omega)) ?_
                        refine ok_ltt (fun M82 eM82 => ?_)
                        have tM82 : TT G M82 p w L := by rw [eM82]; exact (tt_w0 ts12_2 rfl)
                        have fM82 : Fr p [1] M M82 := by rw [eM82]; exact (fr_w fs12_2 rfl)
                        clear eM82
                        exact ok_some ⟨tM82, fM82⟩
                    · intro y20 hyy20
                      obtain ⟨ty20, fy20⟩ := hyy20
                      refine ok_ltI (av_add is12_1 tn_1 (by omega) (by omega)) (fun x21 ix21 => ?_)
                      exact ok_some ⟨⟨(ti_bd ix21 (by omega) (by omega)), ty20, fy20⟩, (mu_up ix21 (by omega) (by omega))⟩
                · exact ⟨(ti_bd ix10 (by omega) (by omega)), ts5_2, fs5_2⟩
                · exact mu_0 ix10 (by omega)
                · intro y11 hyy11
                  obtain ⟨ly11_1, ty11_2, fy11_2⟩ := hyy11
                  have iy11_1 : TI y11.1 y11.1.toInt := rfl
                  refine ok_ltI (av_add is5_1 tn_1 (by omega) (by omega)) (fun x14 ix14 => ?_)
                  exact ok_some ⟨⟨(ti_bd ix14 (by omega) (by omega)), ty11_2, fy11_2⟩, (mu_up ix14 (by omega) (by omega))⟩
            · exact ⟨(ti_bd tn_0 (by omega) (by omega)), t, (fr_0 p [1] M)⟩
            · exact mu_0 tn_0 (by omega)
            · intro y4 hyy4
              obtain ⟨ly4_1, ty4_2, fy4_2⟩ := hyy4
              have iy4_1 : TI y4.1 y4.1.toInt := rfl
              exact ok_some ⟨ty4_2, fy4_2⟩
    · refine ok_bnd (Q := fun (z : Option Nat) => (∃ c, (c == 140 || c == 141) = true ∧ z = some c)) ?_ ?_
      · refine ok_if (fun c1 => ?_) (fun c1 => ?_)
        · have dc1 := tl_eq (rfl : TI p0 p0.toInt) tn_1 c1
          exact ok_some ⟨141, rfl, f_r (b := 141) t rfl (by decide)⟩
        · refine ok_bnd (Q := fun (z : Option Nat) => (∃ c, (c == 140 || c == 141) = true ∧ z = some c)) ?_ ?_
          · refine ok_if (fun c2 => ?_) (fun c2 => ?_)
            · have dc2 := tl_eq (rfl : TI p0 p0.toInt) tn_4 c2
              exact ok_some ⟨141, rfl, f_r (b := 141) t rfl (by decide)⟩
            · exact ok_some ⟨140, rfl, f_r (b := 140) t rfl (by decide)⟩
          · intro y90 hyy90
            obtain ⟨cy90, hcy90, ecy90⟩ := hyy90
            exact ok_some ⟨cy90, hcy90, ecy90⟩
      · intro y1 hyy1
        obtain ⟨cy1, hcy1, ecy1⟩ := hyy1
        refine ok_bnd (Q := fun (z : Int32) => True) ?_ ?_
        · refine ok_if (fun c3 => ?_) (fun c3 => ?_)
          · have dc3 := tl_eq (rfl : TI p0 p0.toInt) tn_4 c3
            refine ok_ltA (fun x88 => ?_)
            exact ok_some trivial
          · refine ok_ltA (fun x87 => ?_)
            exact ok_some trivial
        · intro y2 hyy2
          have u_y2 := hyy2
          refine ok_bnd (Q := fun (z : Int32) => True) ?_ ?_
          · refine ok_if (fun c4 => ?_) (fun c4 => ?_)
            · have dc4 := tl_eq (rfl : TI p0 p0.toInt) tn_4 c4
              refine ok_ltA (fun x85 => ?_)
              exact ok_some trivial
            · refine ok_ltA (fun x84 => ?_)
              exact ok_some trivial
          · intro y3 hyy3
            have u_y3 := hyy3
            have kp3 : p3.toInt = _ := i3
            refine ok_bnd (Q := fun (z : Int32 × DD) => (0 ≤ z.1.toInt ∧ z.1.toInt ≤ p3.toInt) ∧ TT G z.2 p w L ∧ Fr p [1] M z.2) (ok_itr (fun (z : Int32 × DD) => (0 ≤ z.1.toInt ∧ z.1.toInt ≤ p3.toInt) ∧ TT G z.2 p w L ∧ Fr p [1] M z.2) (fun z => (p3.toInt - z.1.toInt).toNat) ?_ _ _ ?_ ?_) ?_
            · intro s5 hys5
              obtain ⟨ls5_1, ts5_2, fs5_2⟩ := hys5
              have is5_1 : TI s5.1 s5.1.toInt := rfl
              refine ok_if (fun c5 => ?_) (fun c5 => ?_)
              · have dc5 := tl_le i3 is5_1 c5
                exact ok_some ⟨(ti_bd is5_1 (by omega) (by omega)), ts5_2, fs5_2⟩
              · have dc5 := tl_nle i3 is5_1 c5
                refine ok_ltI (av_mul is5_1 i2 (by omega) (by omega)) (fun x9 ix9 => ?_)
                refine ok_ltI (av_add i1 ix9 (by omega) (by omega)) (fun x10 ix10 => ?_)
                have k0x10 : x10.toInt = _ := ix10
                refine ok_bnd (Q := fun (z : Int32 × DD) => (x10.toInt ≤ z.1.toInt ∧ z.1.toInt ≤ (a1 + s5.1.toInt * 16 + 8)) ∧ TT G z.2 p w L ∧ Fr p [1] M z.2) (ok_itr (fun (z : Int32 × DD) => (x10.toInt ≤ z.1.toInt ∧ z.1.toInt ≤ (a1 + s5.1.toInt * 16 + 8)) ∧ TT G z.2 p w L ∧ Fr p [1] M z.2) (fun z => ((a1 + s5.1.toInt * 16 + 8) - z.1.toInt).toNat) ?_ _ _ ?_ ?_) ?_
                · intro s12 hys12
                  obtain ⟨ls12_1, ts12_2, fs12_2⟩ := hys12
                  have is12_1 : TI s12.1 s12.1.toInt := rfl
                  refine ok_ltI (av_mul is5_1 i2 (by omega) (by omega)) (fun x16 ix16 => ?_)
                  refine ok_ltI (av_add i1 ix16 (by omega) (by omega)) (fun x17 ix17 => ?_)
                  refine ok_ltI (av_add ix17 i3 (by omega) (by omega)) (fun x18 ix18 => ?_)
                  refine ok_if (fun c6 => ?_) (fun c6 => ?_)
                  · have dc6 := tl_le ix18 is12_1 c6
                    exact ok_some ⟨(ti_bd is12_1 (by omega) (by omega)), ts12_2, fs12_2⟩
                  · have dc6 := tl_nle ix18 is12_1 c6
                    refine ok_bnd (Q := fun (z : DD) => TT G z p w L ∧ Fr p [1] M z) ?_ ?_
                    · refine ok_if (fun c7 => ?_) (fun c7 => ?_)
                      · have dc7 := tl_le tn_2 (rfl : TI p0 p0.toInt) c7
                        refine ok_bnd (Q := fun (z : DD) => TT G z p w L ∧ Fr p [1] M z) ?_ ?_
                        · refine ok_if (fun c8 => ?_) (fun c8 => ?_)
                          · have dc8 := tl_eq (rfl : TI p0 p0.toInt) tn_2 c8
                            refine ok_dr (f_r (b := 140) ts12_2 rfl (by decide)) (g_lt ts12_2 (by decide)) (g_k ts12_2 (by decide) rfl) ?_
                            refine ok_chk (nxg (g_n (i := 140) (n := 384) ts12_2 (by decide) rfl) is12_1 (by omega) (by omega)) ?_
                            refine ok_ltA (fun x71 => ?_)
                            refine ok_dr (f_r (b := 141) ts12_2 rfl (by decide)) (g_lt ts12_2 (by decide)) (g_k ts12_2 (by decide) rfl) ?_
                            refine ok_chk (nxg (g_n (i := 141) (n := 384) ts12_2 (by decide) rfl) is12_1 (by omega) (by omega)) ?_
                            refine ok_ltA (fun x73 => ?_)
                            refine ok_ltA (fun x74 => ?_)
                            refine ok_ltA (fun x75 => ?_)
                            refine ok_ltA (fun x76 => ?_)
                            refine ok_dr (f_r (b := 139) ts12_2 rfl (by decide)) (g_lt ts12_2 (by decide)) (g_k ts12_2 (by decide) rfl) ?_
                            refine ok_chk (nxg (g_n (i := 139) (n := 384) ts12_2 (by decide) rfl) is12_1 (by omega) (by omega)) ?_
                            refine ok_ltt (fun M78 eM78 => ?_)
                            have tM78 : TT G M78 p w L := by rw [eM78]; exact (tt_w0 ts12_2 rfl)
                            have fM78 : Fr p [1] M M78 := by rw [eM78]; exact (fr_w fs12_2 rfl)
                            clear eM78
                            exact ok_some ⟨tM78, fM78⟩
                          · refine ok_bnd (Q := fun (z : Int32 × DD) => True ∧ TT G z.2 p w L ∧ Fr p [1] M z.2) ?_ ?_
                            · refine ok_if (fun c9 => ?_) (fun c9 => ?_)
                              · have dc9 := tl_eq (rfl : TI p0 p0.toInt) tn_5 c9
                                refine ok_dr (f_r (b := 140) ts12_2 rfl (by decide)) (g_lt ts12_2 (by decide)) (g_k ts12_2 (by decide) rfl) ?_
                                refine ok_chk (nxg (g_n (i := 140) (n := 384) ts12_2 (by decide) rfl) is12_1 (by omega) (by omega)) ?_
                                refine ok_ltA (fun x47 => ?_)
                                refine ok_ltA (fun x48 => ?_)
                                refine ok_ltA (fun x49 => ?_)
                                refine ok_dr (f_r (b := 141) ts12_2 rfl (by decide)) (g_lt ts12_2 (by decide)) (g_k ts12_2 (by decide) rfl) ?_
                                refine ok_chk (nxg (g_n (i := 141) (n := 384) ts12_2 (by decide) rfl) is12_1 (by omega) (by omega)) ?_
                                refine ok_ltA (fun x51 => ?_)
                                refine ok_ltA (fun x52 => ?_)
                                refine ok_ltA (fun x53 => ?_)
                                refine ok_ltA (fun x54 => ?_)
                                refine ok_ltA (fun x55 => ?_)
                                refine ok_ltA (fun x56 => ?_)
                                refine ok_ltA (fun x57 => ?_)
                                refine ok_ltA (fun x58 => ?_)
                                refine ok_ltA (fun x59 => ?_)
                                refine ok_ltA (fun x60 => ?_)
                                refine ok_ltA (fun x61 => ?_)
                                refine ok_ltA (fun x62 => ?_)
                                refine ok_ltA (fun x63 => ?_)
                                refine ok_ltA (fun x64 => ?_)
                                refine ok_ltA (fun x65 => ?_)
                                refine ok_ltA (fun x66 => ?_)
                                refine ok_bnd (s_clip ts12_2) ?_
                                intro y67 hyy67
                                obtain ⟨ty67, gy67, _⟩ := hyy67
                                have fy67 := fr_tr fs12_2 gy67 rfl
                                refine ok_dr (f_r (b := 139) ts12_2 rfl (by decide)) (g_lt ty67 (by decide)) (g_k ty67 (by decide) rfl) ?_
                                refine ok_chk (nxg (g_n (i := 139) (n := 384) ty67 (by decide) rfl) is12_1 (by omega) (by omega)) ?_
                                refine ok_ltt (fun M69 eM69 => ?_)
                                have tM69 : TT G M69 p w L := by rw [eM69]; exact (tt_w0 ty67 rfl)
                                have fM69 : Fr p [1] M M69 := by rw [eM69]; exact (fr_w fy67 rfl)
                                clear eM69
                                exact ok_some ⟨trivial, tM69, fM69⟩
                              · refine ok_ltA (fun x27 => ?_)
                                refine ok_bnd (Q := fun (z : Int32) => True) ?_ ?_
                                · refine ok_if (fun c10 => ?_) (fun c10 => ?_)
                                  · have dc10 := tl_le (rfl : TI x27 x27.toInt) tn_0 c10
                                    refine ok_dr ecy1 (g_lt ts12_2 (two_lt hcy1)) (gk_two ts12_2 hcy1) ?_
                                    refine ok_chk (nxg (gl_two ts12_2 hcy1) is12_1 (by omega) (by omega)) ?_
                                    refine ok_ltA (fun x35 => ?_)
                                    refine ok_ltA (fun x36 => ?_)
                                    exact ok_some trivial
                                  · have dc10 := tl_nle (rfl : TI x27 x27.toInt) tn_0 c10
                                    refine ok_dr ecy1 (g_lt ts12_2 (two_lt hcy1)) (gk_two ts12_2 hcy1) ?_
                                    refine ok_chk (nxg (gl_two ts12_2 hcy1) is12_1 (by omega) (by omega)) ?_
                                    refine ok_ltA (fun x38 => ?_)
                                    refine ok_ltA (fun x39 => ?_)
                                    refine ok_ltA (fun x40 => ?_)
                                    refine ok_ltA (fun x41 => ?_)
                                    refine ok_ltA (fun x42 => ?_)
                                    refine ok_ltA (fun x43 => ?_)
                                    refine ok_ltA (fun x44 => ?_)
                                    refine ok_ltA (fun x45 => ?_)
                                    exact ok_some trivial
                                · intro y28 hyy28
                                  have u_y28 := hyy28
                                  refine ok_ltA (fun x29 => ?_)
                                  refine ok_bnd (s_clip ts12_2) ?_
                                  intro y30 hyy30
                                  obtain ⟨ty30, gy30, _⟩ := hyy30
                                  have fy30 := fr_tr fs12_2 gy30 rfl
                                  refine ok_dr (f_r (b := 139) ts12_2 rfl (by decide)) (g_lt ty30 (by decide)) (g_k ty30 (by decide) rfl) ?_
                                  refine ok_chk (nxg (g_n (i := 139) (n := 384) ty30 (by decide) rfl) is12_1 (by omega) (by omega)) ?_
                                  refine ok_ltt (fun M32 eM32 => ?_)
                                  have tM32 : TT G M32 p w L := by rw [eM32]; exact (tt_w0 ty30 rfl)
                                  have fM32 : Fr p [1] M M32 := by rw [eM32]; exact (fr_w fy30 rfl)
                                  clear eM32
                                  exact ok_some ⟨trivial, tM32, fM32⟩
                            · intro y25 hyy25
                              obtain ⟨_, ty25_2, fy25_2⟩ := hyy25
                              exact ok_some ⟨ty25_2, fy25_2⟩
                        · intro y23 hyy23
                          obtain ⟨ty23, fy23⟩ := hyy23
                          exact ok_some ⟨ty23, fy23⟩
                      · have dc7 := tl_nle tn_2 (rfl : TI p0 p0.toInt) c7
                        refine ok_dr ecy1 (g_lt ts12_2 (two_lt hcy1)) (gk_two ts12_2 hcy1) ?_
                        refine ok_chk (nxg (gl_two ts12_2 hcy1) is12_1 (by omega) (by omega)) ?_
                        refine ok_ltA (fun x80 => ?_)
                        refine ok_dr (f_r (b := 139) ts12_2 rfl (by decide)) (g_lt ts12_2 (by decide)) (g_k ts12_2 (by decide) rfl) ?_
                        refine ok_chk (nxg (g_n (i := 139) (n := 384) ts12_2 (by decide) rfl) is12_1 (by omega) (by omega)) ?_
                        refine ok_ltt (fun M82 eM82 => ?_)
                        have tM82 : TT G M82 p w L := by rw [eM82]; exact (tt_w0 ts12_2 rfl)
                        have fM82 : Fr p [1] M M82 := by rw [eM82]; exact (fr_w fs12_2 rfl)
                        clear eM82
                        exact ok_some ⟨tM82, fM82⟩
                    · intro y20 hyy20
                      obtain ⟨ty20, fy20⟩ := hyy20
                      refine ok_ltI (av_add is12_1 tn_1 (by omega) (by omega)) (fun x21 ix21 => ?_)
                      exact ok_some ⟨⟨(ti_bd ix21 (by omega) (by omega)), ty20, fy20⟩, (mu_up ix21 (by omega) (by omega))⟩
                · exact ⟨(ti_bd ix10 (by omega) (by omega)), ts5_2, fs5_2⟩
                · exact mu_0 ix10 (by omega)
                · intro y11 hyy11
                  obtain ⟨ly11_1, ty11_2, fy11_2⟩ := hyy11
                  have iy11_1 : TI y11.1 y11.1.toInt := rfl
                  refine ok_ltI (av_add is5_1 tn_1 (by omega) (by omega)) (fun x14 ix14 => ?_)
                  exact ok_some ⟨⟨(ti_bd ix14 (by omega) (by omega)), ty11_2, fy11_2⟩, (mu_up ix14 (by omega) (by omega))⟩
            · exact ⟨(ti_bd tn_0 (by omega) (by omega)), t, (fr_0 p [1] M)⟩
            · exact mu_0 tn_0 (by omega)
            · intro y4 hyy4
              obtain ⟨ly4_1, ty4_2, fy4_2⟩ := hyy4
              have iy4_1 : TI y4.1 y4.1.toInt := rfl
              exact ok_some ⟨ty4_2, fy4_2⟩
    · refine ok_bnd (Q := fun (z : Option Nat) => (∃ c, (c == 140 || c == 141) = true ∧ z = some c)) ?_ ?_
      · refine ok_if (fun c1 => ?_) (fun c1 => ?_)
        · have dc1 := tl_eq (rfl : TI p0 p0.toInt) tn_1 c1
          exact ok_some ⟨141, rfl, f_r (b := 141) t rfl (by decide)⟩
        · refine ok_bnd (Q := fun (z : Option Nat) => (∃ c, (c == 140 || c == 141) = true ∧ z = some c)) ?_ ?_
          · refine ok_if (fun c2 => ?_) (fun c2 => ?_)
            · have dc2 := tl_eq (rfl : TI p0 p0.toInt) tn_4 c2
              exact ok_some ⟨141, rfl, f_r (b := 141) t rfl (by decide)⟩
            · exact ok_some ⟨140, rfl, f_r (b := 140) t rfl (by decide)⟩
          · intro y90 hyy90
            obtain ⟨cy90, hcy90, ecy90⟩ := hyy90
            exact ok_some ⟨cy90, hcy90, ecy90⟩
      · intro y1 hyy1
        obtain ⟨cy1, hcy1, ecy1⟩ := hyy1
        refine ok_bnd (Q := fun (z : Int32) => True) ?_ ?_
        · refine ok_if (fun c3 => ?_) (fun c3 => ?_)
          · have dc3 := tl_eq (rfl : TI p0 p0.toInt) tn_4 c3
            refine ok_ltA (fun x88 => ?_)
            exact ok_some trivial
          · refine ok_ltA (fun x87 => ?_)
            exact ok_some trivial
        · intro y2 hyy2
          have u_y2 := hyy2
          refine ok_bnd (Q := fun (z : Int32) => True) ?_ ?_
          · refine ok_if (fun c4 => ?_) (fun c4 => ?_)
            · have dc4 := tl_eq (rfl : TI p0 p0.toInt) tn_4 c4
              refine ok_ltA (fun x85 => ?_)
              exact ok_some trivial
            · refine ok_ltA (fun x84 => ?_)
              exact ok_some trivial
          · intro y3 hyy3
            have u_y3 := hyy3
            have kp3 : p3.toInt = _ := i3
            refine ok_bnd (Q := fun (z : Int32 × DD) => (0 ≤ z.1.toInt ∧ z.1.toInt ≤ p3.toInt) ∧ TT G z.2 p w L ∧ Fr p [1] M z.2) (ok_itr (fun (z : Int32 × DD) => (0 ≤ z.1.toInt ∧ z.1.toInt ≤ p3.toInt) ∧ TT G z.2 p w L ∧ Fr p [1] M z.2) (fun z => (p3.toInt - z.1.toInt).toNat) ?_ _ _ ?_ ?_) ?_
            · intro s5 hys5
              obtain ⟨ls5_1, ts5_2, fs5_2⟩ := hys5
              have is5_1 : TI s5.1 s5.1.toInt := rfl
              refine ok_if (fun c5 => ?_) (fun c5 => ?_)
              · have dc5 := tl_le i3 is5_1 c5
                exact ok_some ⟨(ti_bd is5_1 (by omega) (by omega)), ts5_2, fs5_2⟩
              · have dc5 := tl_nle i3 is5_1 c5
                refine ok_ltI (av_mul is5_1 i2 (by omega) (by omega)) (fun x9 ix9 => ?_)
                refine ok_ltI (av_add i1 ix9 (by omega) (by omega)) (fun x10 ix10 => ?_)
                have k0x10 : x10.toInt = _ := ix10
                refine ok_bnd (Q := fun (z : Int32 × DD) => (x10.toInt ≤ z.1.toInt ∧ z.1.toInt ≤ (a1 + s5.1.toInt * 16 + 16)) ∧ TT G z.2 p w L ∧ Fr p [1] M z.2) (ok_itr (fun (z : Int32 × DD) => (x10.toInt ≤ z.1.toInt ∧ z.1.toInt ≤ (a1 + s5.1.toInt * 16 + 16)) ∧ TT G z.2 p w L ∧ Fr p [1] M z.2) (fun z => ((a1 + s5.1.toInt * 16 + 16) - z.1.toInt).toNat) ?_ _ _ ?_ ?_) ?_
                · intro s12 hys12
                  obtain ⟨ls12_1, ts12_2, fs12_2⟩ := hys12
                  have is12_1 : TI s12.1 s12.1.toInt := rfl
                  refine ok_ltI (av_mul is5_1 i2 (by omega) (by omega)) (fun x16 ix16 => ?_)
                  refine ok_ltI (av_add i1 ix16 (by omega) (by omega)) (fun x17 ix17 => ?_)
                  refine ok_ltI (av_add ix17 i3 (by omega) (by omega)) (fun x18 ix18 => ?_)
                  refine ok_if (fun c6 => ?_) (fun c6 => ?_)
                  · have dc6 := tl_le ix18 is12_1 c6
                    exact ok_some ⟨(ti_bd is12_1 (by omega) (by omega)), ts12_2, fs12_2⟩
                  · have dc6 := tl_nle ix18 is12_1 c6
                    refine ok_bnd (Q := fun (z : DD) => TT G z p w L ∧ Fr p [1] M z) ?_ ?_
                    · refine ok_if (fun c7 => ?_) (fun c7 => ?_)
                      · have dc7 := tl_le tn_2 (rfl : TI p0 p0.toInt) c7
                        refine ok_bnd (Q := fun (z : DD) => TT G z p w L ∧ Fr p [1] M z) ?_ ?_
                        · refine ok_if (fun c8 => ?_) (fun c8 => ?_)
                          · have dc8 := tl_eq (rfl : TI p0 p0.toInt) tn_2 c8
                            refine ok_dr (f_r (b := 140) ts12_2 rfl (by decide)) (g_lt ts12_2 (by decide)) (g_k ts12_2 (by decide) rfl) ?_
                            refine ok_chk (nxg (g_n (i := 140) (n := 384) ts12_2 (by decide) rfl) is12_1 (by omega) (by omega)) ?_
                            refine ok_ltA (fun x71 => ?_)
                            refine ok_dr (f_r (b := 141) ts12_2 rfl (by decide)) (g_lt ts12_2 (by decide)) (g_k ts12_2 (by decide) rfl) ?_
                            refine ok_chk (nxg (g_n (i := 141) (n := 384) ts12_2 (by decide) rfl) is12_1 (by omega) (by omega)) ?_
                            refine ok_ltA (fun x73 => ?_)
                            refine ok_ltA (fun x74 => ?_)
                            refine ok_ltA (fun x75 => ?_)
                            refine ok_ltA (fun x76 => ?_)
                            refine ok_dr (f_r (b := 139) ts12_2 rfl (by decide)) (g_lt ts12_2 (by decide)) (g_k ts12_2 (by decide) rfl) ?_
                            refine ok_chk (nxg (g_n (i := 139) (n := 384) ts12_2 (by decide) rfl) is12_1 (by omega) (by omega)) ?_
                            refine ok_ltt (fun M78 eM78 => ?_)
                            have tM78 : TT G M78 p w L := by rw [eM78]; exact (tt_w0 ts12_2 rfl)
                            have fM78 : Fr p [1] M M78 := by rw [eM78]; exact (fr_w fs12_2 rfl)
                            clear eM78
                            exact ok_some ⟨tM78, fM78⟩
                          · refine ok_bnd (Q := fun (z : Int32 × DD) => True ∧ TT G z.2 p w L ∧ Fr p [1] M z.2) ?_ ?_
                            · refine ok_if (fun c9 => ?_) (fun c9 => ?_)
                              · have dc9 := tl_eq (rfl : TI p0 p0.toInt) tn_5 c9
                                refine ok_dr (f_r (b := 140) ts12_2 rfl (by decide)) (g_lt ts12_2 (by decide)) (g_k ts12_2 (by decide) rfl) ?_
                                refine ok_chk (nxg (g_n (i := 140) (n := 384) ts12_2 (by decide) rfl) is12_1 (by omega) (by omega)) ?_
                                refine ok_ltA (fun x47 => ?_)
                                refine ok_ltA (fun x48 => ?_)
                                refine ok_ltA (fun x49 => ?_)
                                refine ok_dr (f_r (b := 141) ts12_2 rfl (by decide)) (g_lt ts12_2 (by decide)) (g_k ts12_2 (by decide) rfl) ?_
                                refine ok_chk (nxg (g_n (i := 141) (n := 384) ts12_2 (by decide) rfl) is12_1 (by omega) (by omega)) ?_
                                refine ok_ltA (fun x51 => ?_)
                                refine ok_ltA (fun x52 => ?_)
                                refine ok_ltA (fun x53 => ?_)
                                refine ok_ltA (fun x54 => ?_)
                                refine ok_ltA (fun x55 => ?_)
                                refine ok_ltA (fun x56 => ?_)
                                refine ok_ltA (fun x57 => ?_)
                                refine ok_ltA (fun x58 => ?_)
                                refine ok_ltA (fun x59 => ?_)
                                refine ok_ltA (fun x60 => ?_)
                                refine ok_ltA (fun x61 => ?_)
                                refine ok_ltA (fun x62 => ?_)
                                refine ok_ltA (fun x63 => ?_)
                                refine ok_ltA (fun x64 => ?_)
                                refine ok_ltA (fun x65 => ?_)
                                refine ok_ltA (fun x66 => ?_)
                                refine ok_bnd (s_clip ts12_2) ?_
                                intro y67 hyy67
                                obtain ⟨ty67, gy67, _⟩ := hyy67
                                have fy67 := fr_tr fs12_2 gy67 rfl
                                refine ok_dr (f_r (b := 139) ts12_2 rfl (by decide)) (g_lt ty67 (by decide)) (g_k ty67 (by decide) rfl) ?_
                                refine ok_chk (nxg (g_n (i := 139) (n := 384) ty67 (by decide) rfl) is12_1 (by omega) (by omega)) ?_
                                refine ok_ltt (fun M69 eM69 => ?_)
                                have tM69 : TT G M69 p w L := by rw [eM69]; exact (tt_w0 ty67 rfl)
                                have fM69 : Fr p [1] M M69 := by rw [eM69]; exact (fr_w fy67 rfl)
                                clear eM69
                                exact ok_some ⟨trivial, tM69, fM69⟩
                              · refine ok_ltA (fun x27 => ?_)
                                refine ok_bnd (Q := fun (z : Int32) => True) ?_ ?_
                                · refine ok_if (fun c10 => ?_) (fun c10 => ?_)
                                  · have dc10 := tl_le (rfl : TI x27 x27.toInt) tn_0 c10
                                    refine ok_dr ecy1 (g_lt ts12_2 (two_lt hcy1)) (gk_two ts12_2 hcy1) ?_
                                    refine ok_chk (nxg (gl_two ts12_2 hcy1) is12_1 (by omega) (by omega)) ?_
                                    refine ok_ltA (fun x35 => ?_)
                                    refine ok_ltA (fun x36 => ?_)
                                    exact ok_some trivial
                                  · have dc10 := tl_nle (rfl : TI x27 x27.toInt) tn_0 c10
                                    refine ok_dr ecy1 (g_lt ts12_2 (two_lt hcy1)) (gk_two ts12_2 hcy1) ?_
                                    refine ok_chk (nxg (gl_two ts12_2 hcy1) is12_1 (by omega) (by omega)) ?_
                                    refine ok_ltA (fun x38 => ?_)
                                    refine ok_ltA (fun x39 => ?_)
                                    refine ok_ltA (fun x40 => ?_)
                                    refine ok_ltA (fun x41 => ?_)
                                    refine ok_ltA (fun x42 => ?_)
                                    refine ok_ltA (fun x43 => ?_)
                                    refine ok_ltA (fun x44 => ?_)
                                    refine ok_ltA (fun x45 => ?_)
                                    exact ok_some trivial
                                · intro y28 hyy28
                                  have u_y28 := hyy28
                                  refine ok_ltA (fun x29 => ?_)
                                  refine ok_bnd (s_clip ts12_2) ?_
                                  intro y30 hyy30
                                  obtain ⟨ty30, gy30, _⟩ := hyy30
                                  have fy30 := fr_tr fs12_2 gy30 rfl
                                  refine ok_dr (f_r (b := 139) ts12_2 rfl (by decide)) (g_lt ty30 (by decide)) (g_k ty30 (by decide) rfl) ?_
                                  refine ok_chk (nxg (g_n (i := 139) (n := 384) ty30 (by decide) rfl) is12_1 (by omega) (by omega)) ?_
                                  refine ok_ltt (fun M32 eM32 => ?_)
                                  have tM32 : TT G M32 p w L := by rw [eM32]; exact (tt_w0 ty30 rfl)
                                  have fM32 : Fr p [1] M M32 := by rw [eM32]; exact (fr_w fy30 rfl)
                                  clear eM32
                                  exact ok_some ⟨trivial, tM32, fM32⟩
                            · intro y25 hyy25
                              obtain ⟨_, ty25_2, fy25_2⟩ := hyy25
                              exact ok_some ⟨ty25_2, fy25_2⟩
                        · intro y23 hyy23
                          obtain ⟨ty23, fy23⟩ := hyy23
                          exact ok_some ⟨ty23, fy23⟩
                      · have dc7 := tl_nle tn_2 (rfl : TI p0 p0.toInt) c7
                        refine ok_dr ecy1 (g_lt ts12_2 (two_lt hcy1)) (gk_two ts12_2 hcy1) ?_
                        refine ok_chk (nxg (gl_two ts12_2 hcy1) is12_1 (by omega) (by omega)) ?_
                        refine ok_ltA (fun x80 => ?_)
                        refine ok_dr (f_r (b := 139) ts12_2 rfl (by decide)) (g_lt ts12_2 (by decide)) (g_k ts12_2 (by decide) rfl) ?_
                        refine ok_chk (nxg (g_n (i := 139) (n := 384) ts12_2 (by decide) rfl) is12_1 (by omega) (by omega)) ?_
                        refine ok_ltt (fun M82 eM82 => ?_)
                        have tM82 : TT G M82 p w L := by rw [eM82]; exact (tt_w0 ts12_2 rfl)
                        have fM82 : Fr p [1] M M82 := by rw [eM82]; exact (fr_w fs12_2 rfl)
                        clear eM82
                        exact ok_some ⟨tM82, fM82⟩
                    · intro y20 hyy20
                      obtain ⟨ty20, fy20⟩ := hyy20
                      refine ok_ltI (av_add is12_1 tn_1 (by omega) (by omega)) (fun x21 ix21 => ?_)
                      exact ok_some ⟨⟨(ti_bd ix21 (by omega) (by omega)), ty20, fy20⟩, (mu_up ix21 (by omega) (by omega))⟩
                · exact ⟨(ti_bd ix10 (by omega) (by omega)), ts5_2, fs5_2⟩
                · exact mu_0 ix10 (by omega)
                · intro y11 hyy11
                  obtain ⟨ly11_1, ty11_2, fy11_2⟩ := hyy11
                  have iy11_1 : TI y11.1 y11.1.toInt := rfl
                  refine ok_ltI (av_add is5_1 tn_1 (by omega) (by omega)) (fun x14 ix14 => ?_)
                  exact ok_some ⟨⟨(ti_bd ix14 (by omega) (by omega)), ty11_2, fy11_2⟩, (mu_up ix14 (by omega) (by omega))⟩
            · exact ⟨(ti_bd tn_0 (by omega) (by omega)), t, (fr_0 p [1] M)⟩
            · exact mu_0 tn_0 (by omega)
            · intro y4 hyy4
              obtain ⟨ly4_1, ty4_2, fy4_2⟩ := hyy4
              have iy4_1 : TI y4.1 y4.1.toInt := rfl
              exact ok_some ⟨ty4_2, fy4_2⟩
theorem s_chooseWeights {G : GG} {M : DD} {p : Nat} {w : Int} {L : List Nat} (t : TT G M p w L) {p0 : Option Nat} (e0 : p0 = some 125) {p1 : Int32} {a1 : Int} (i1 : TI p1 a1) (h0 : 0 ≤ a1) (h1 : a1 ≤ 2) : OK (FX6_chooseWeights G M 138 p0 p1) (fun y => TT G y.1 p w L ∧ Fr p [1] M y.1 ∧ True) := by
  unfold FX6_chooseWeights
  subst e0
  have hw12 : 1 ≤ w ∧ w ≤ 2 := by rcases tt_w t with h | h <;> omega
  refine ok_dr rfl (g_lt t (by decide)) (g_k t (by decide) rfl) ?_
  refine ok_dr (f_r (b := 144) t rfl (by decide)) (g_lt t (by decide)) (g_k t (by decide) rfl) ?_
  refine ok_chk (nxg (g_n (i := 144) (n := 6) t (by decide) rfl) tn_0 (by omega) (by omega)) ?_
  refine ok_ltB (ib_p t (by simp [PYL] : (144, 0, -1, 7) ∈ PYL)) (fun x4 lx4 => ?_)
  have ix4 : TI x4 x4.toInt := rfl
  refine ok_chk (nxg (g_n (i := 144) (n := 6) t (by decide) rfl) tn_3 (by omega) (by omega)) ?_
  refine ok_ltB (ib_p t (by simp [PYL] : (144, 3, -1, 7) ∈ PYL)) (fun x5 lx5 => ?_)
  have ix5 : TI x5 x5.toInt := rfl
  refine ok_bnd (Q := fun (z : Int32) => (0 ≤ z.toInt ∧ z.toInt ≤ 1)) ?_ ?_
  · refine ok_if (fun c1 => ?_) (fun c1 => ?_)
    · have dc1 := tl_lt ix4 tn_0 c1
      exact ok_some (ti_bd tn_0 (by omega) (by omega))
    · have dc1 := tl_nlt ix4 tn_0 c1
      refine ok_bnd (Q := fun (z : Int32) => (0 ≤ z.toInt ∧ z.toInt ≤ 1)) ?_ ?_
      · refine ok_if (fun c2 => ?_) (fun c2 => ?_)
        · have dc2 := tl_lt ix5 tn_0 c2
          exact ok_some (ti_bd tn_0 (by omega) (by omega))
        · have dc2 := tl_nlt ix5 tn_0 c2
          exact ok_some (ti_bd tn_1 (by omega) (by omega))
      · intro y242 hyy242
        have ly242 := hyy242
        have iy242 : TI y242 y242.toInt := rfl
        exact ok_some (ti_bd iy242 (by omega) (by omega))
  · intro y6 hyy6
    have ly6 := hyy6
    have iy6 : TI y6 y6.toInt := rfl
    refine ok_dr (f_r (b := 215) t rfl (by decide)) (g_lt t (by decide)) (g_k t (by decide) rfl) ?_
    refine ok_dr (f_r (b := 216) t rfl (by decide)) (g_lt t (by decide)) (g_k t (by decide) rfl) ?_
    refine ok_chk (nxg (g_n (i := 216) (n := 27) t (by decide) rfl) tn_1 (by omega) (by omega)) ?_
    refine ok_ltB (ib_p t (by simp [PYL] : (216, 1, 0, 2) ∈ PYL)) (fun x9 lx9 => ?_)
    have ix9 : TI x9 x9.toInt := rfl
    refine ok_bnd (Q := fun (z : Int32) => (0 ≤ z.toInt ∧ z.toInt ≤ 1)) ?_ ?_
    · refine ok_if (fun c3 => ?_) (fun c3 => ?_)
      · have dc3 := tl_eq ix9 tn_1 c3
        exact ok_some (ti_bd tn_1 (by omega) (by omega))
      · have dc3 := tl_ne ix9 tn_1 c3
        exact ok_some (ti_bd tn_0 (by omega) (by omega))
    · intro y10 hyy10
      have ly10 := hyy10
      have iy10 : TI y10 y10.toInt := rfl
      refine ok_bnd (Q := fun (z : Int32) => (0 ≤ z.toInt ∧ z.toInt ≤ 2)) ?_ ?_
      · refine ok_if (fun c4 => ?_) (fun c4 => ?_)
        · have dc4 := tl_eq iy6 tn_0 c4
          refine ok_bnd (Q := fun (z : Int32) => (0 ≤ z.toInt ∧ z.toInt ≤ 1)) ?_ ?_
          · refine ok_if (fun c5 => ?_) (fun c5 => ?_)
            · have dc5 := tl_lt ix4 tn_0 c5
              exact ok_some (ti_bd tn_1 (by omega) (by omega))
            · have dc5 := tl_nlt ix4 tn_0 c5
              exact ok_some (ti_bd tn_0 (by omega) (by omega))
          · intro y238 hyy238
            have ly238 := hyy238
            have iy238 : TI y238 y238.toInt := rfl
            exact ok_some (ti_bd iy238 (by omega) (by omega))
        · have dc4 := tl_ne iy6 tn_0 c4
          exact ok_some (ti_bd tn_2 (by omega) (by omega))
      · intro y11 hyy11
        have ly11 := hyy11
        have iy11 : TI y11 y11.toInt := rfl
        refine ok_if (fun c6 => ?_) (fun c6 => ?_)
        · have dc6 := tl_eq iy10 tn_0 c6
          refine ok_if (fun c7 => ?_) (fun c7 => ?_)
          · have dc7 := tl_eq iy10 tn_0 c7
            refine ok_dr (f_r (b := 220) t rfl (by decide)) (g_lt t (by decide)) (g_k t (by decide) rfl) ?_
            refine ok_chk (nxg (g_n (i := 220) (n := 12) t (by decide) rfl) tn_5 (by omega) (by omega)) ?_
            refine ok_ltA (fun x15 => ?_)
            refine ok_if (fun c8 => ?_) (fun c8 => ?_)
            · have dc8 := tl_eq (rfl : TI x15 x15.toInt) tn_0 c8
              exact ok_some ⟨t, (fr_0 p [1] M), trivial⟩
            · have dc8 := tl_ne (rfl : TI x15 x15.toInt) tn_0 c8
              refine ok_bnd (Q := fun (z : Int32) => (22 ≤ z.toInt ∧ z.toInt ≤ 23)) ?_ ?_
              · refine ok_if (fun c9 => ?_) (fun c9 => ?_)
                · have dc9 := tl_eq i1 tn_0 c9
                  exact ok_some (ti_bd tn_22 (by omega) (by omega))
                · have dc9 := tl_ne i1 tn_0 c9
                  exact ok_some (ti_bd tn_23 (by omega) (by omega))
              · intro y17 hyy17
                have ly17 := hyy17
                have iy17 : TI y17 y17.toInt := rfl
                refine ok_chk (nxg (g_n (i := 216) (n := 27) t (by decide) rfl) iy17 (by omega) (by omega)) ?_
                refine ok_ltA (fun x18 => ?_)
                refine ok_ltt (fun M19 eM19 => ?_)
                have tM19 : TT G M19 p w L := by rw [eM19]; exact (tt_w0 t rfl)
                have fM19 : Fr p [1] M M19 := by rw [eM19]; exact (fr_w (fr_0 p [1] M) rfl)
                clear eM19
                refine ok_bnd (Q := fun (z : DD) => TT G z p w L ∧ Fr p [1] M z) ?_ ?_
                · refine ok_if (fun c10 => ?_) (fun c10 => ?_)
                  · have dc10 := tl_lt ix4 tn_0 c10
                    exact ok_some ⟨tM19, fM19⟩
                  · have dc10 := tl_nlt ix4 tn_0 c10
                    refine ok_bnd (s_weightAt tM19 tn_0 ix4 i1 (by omega) (by omega) (by omega) (by omega) (by omega) (by omega)) ?_
                    intro y34 hyy34
                    obtain ⟨ty34, gy34, iy34⟩ := hyy34
                    have fy34 := fr_tr fM19 gy34 rfl
                    refine ok_dr (f_r (b := 219) tM19 rfl (by decide)) (g_lt ty34 (by decide)) (g_k ty34 (by decide) rfl) ?_
                    refine ok_chk (nxg (g_n (i := 219) (n := 96) ty34 (by decide) rfl) iy34 (by omega) (by omega)) ?_
                    refine ok_ltA (fun x36 => ?_)
                    refine ok_ltt (fun M37 eM37 => ?_)
                    have tM37 : TT G M37 p w L := by rw [eM37]; exact (tt_w0 ty34 rfl)
                    have fM37 : Fr p [1] M M37 := by rw [eM37]; exact (fr_w fy34 rfl)
                    clear eM37
                    refine ok_bnd (s_weightAt tM37 tn_0 ix4 i1 (by omega) (by omega) (by omega) (by omega) (by omega) (by omega)) ?_
                    intro y38 hyy38
                    obtain ⟨ty38, gy38, iy38⟩ := hyy38
                    have fy38 := fr_tr fM37 gy38 rfl
                    refine ok_ltI (av_add iy38 tn_1 (by omega) (by omega)) (fun x39 ix39 => ?_)
                    refine ok_dr (f_r (b := 219) tM37 rfl (by decide)) (g_lt ty38 (by decide)) (g_k ty38 (by decide) rfl) ?_
                    refine ok_chk (nxg (g_n (i := 219) (n := 96) ty38 (by decide) rfl) ix39 (by omega) (by omega)) ?_
                    refine ok_ltA (fun x41 => ?_)
                    refine ok_ltt (fun M42 eM42 => ?_)
                    have tM42 : TT G M42 p w L := by rw [eM42]; exact (tt_w0 ty38 rfl)
                    have fM42 : Fr p [1] M M42 := by rw [eM42]; exact (fr_w fy38 rfl)
                    clear eM42
                    exact ok_some ⟨tM42, fM42⟩
                · intro y20 hyy20
                  obtain ⟨ty20, fy20⟩ := hyy20
                  refine ok_bnd (Q := fun (z : DD) => TT G z p w L ∧ Fr p [1] M z) ?_ ?_
                  · refine ok_if (fun c11 => ?_) (fun c11 => ?_)
                    · have dc11 := tl_lt ix5 tn_0 c11
                      exact ok_some ⟨ty20, fy20⟩
                    · have dc11 := tl_nlt ix5 tn_0 c11
                      refine ok_bnd (s_weightAt ty20 tn_1 ix5 i1 (by omega) (by omega) (by omega) (by omega) (by omega) (by omega)) ?_
                      intro y24 hyy24
                      obtain ⟨ty24, gy24, iy24⟩ := hyy24
                      have fy24 := fr_tr fy20 gy24 rfl
                      refine ok_dr (f_r (b := 219) ty20 rfl (by decide)) (g_lt ty24 (by decide)) (g_k ty24 (by decide) rfl) ?_
                      refine ok_chk (nxg (g_n (i := 219) (n := 96) ty24 (by decide) rfl) iy24 (by omega) (by omega)) ?_
                      refine ok_ltA (fun x26 => ?_)
                      refine ok_ltt (fun M27 eM27 => ?_)
                      have tM27 : TT G M27 p w L := by rw [eM27]; exact (tt_w0 ty24 rfl)
                      have fM27 : Fr p [1] M M27 := by rw [eM27]; exact (fr_w fy24 rfl)
                      clear eM27
                      refine ok_bnd (s_weightAt tM27 tn_1 ix5 i1 (by omega) (by omega) (by omega) (by omega) (by omega) (by omega)) ?_
                      intro y28 hyy28
                      obtain ⟨ty28, gy28, iy28⟩ := hyy28
                      have fy28 := fr_tr fM27 gy28 rfl
                      refine ok_ltI (av_add iy28 tn_1 (by omega) (by omega)) (fun x29 ix29 => ?_)
                      refine ok_dr (f_r (b := 219) tM27 rfl (by decide)) (g_lt ty28 (by decide)) (g_k ty28 (by decide) rfl) ?_
                      refine ok_chk (nxg (g_n (i := 219) (n := 96) ty28 (by decide) rfl) ix29 (by omega) (by omega)) ?_
                      refine ok_ltA (fun x31 => ?_)
                      refine ok_ltt (fun M32 eM32 => ?_)
                      have tM32 : TT G M32 p w L := by rw [eM32]; exact (tt_w0 ty28 rfl)
                      have fM32 : Fr p [1] M M32 := by rw [eM32]; exact (fr_w fy28 rfl)
                      clear eM32
                      exact ok_some ⟨tM32, fM32⟩
                  · intro y21 hyy21
                    obtain ⟨ty21, fy21⟩ := hyy21
                    refine ok_ltI (av_add iy11 tn_3 (by omega) (by omega)) (fun x22 ix22 => ?_)
                    exact ok_some ⟨ty21, fy21, trivial⟩
          · have dc7 := tl_ne iy10 tn_0 c7
            exfalso
            omega
        · have dc6 := tl_ne iy10 tn_0 c6
          refine ok_dr (f_r (b := 220) t rfl (by decide)) (g_lt t (by decide)) (g_k t (by decide) rfl) ?_
          refine ok_chk (nxg (g_n (i := 220) (n := 12) t (by decide) rfl) tn_6 (by omega) (by omega)) ?_
          refine ok_ltB (ib_p t (by simp [PYL] : (220, 6, 0, 0) ∈ PYL)) (fun x75 lx75 => ?_)
          have ix75 : TI x75 x75.toInt := rfl
          refine ok_if (fun c12 => ?_) (fun c12 => ?_)
          · have dc12 := tl_eq ix75 tn_2 c12
            exfalso
            omega
          · have dc12 := tl_ne ix75 tn_2 c12
            refine ok_if (fun c13 => ?_) (fun c13 => ?_)
            · have dc13 := tl_eq iy10 tn_0 c13
              exfalso
              omega
            · have dc13 := tl_ne iy10 tn_0 c13
              refine ok_chk (nxg (g_n (i := 220) (n := 12) t (by decide) rfl) tn_6 (by omega) (by omega)) ?_
              refine ok_ltB (ib_p t (by simp [PYL] : (220, 6, 0, 0) ∈ PYL)) (fun x107 lx107 => ?_)
              have ix107 : TI x107 x107.toInt := rfl
              refine ok_if (fun c14 => ?_) (fun c14 => ?_)
              · have dc14 := tl_eq ix107 tn_1 c14
                exfalso
                omega
              · have dc14 := tl_ne ix107 tn_1 c14
                exact ok_some ⟨t, (fr_0 p [1] M), trivial⟩
theorem s_predictRegion {G : GG} {M : DD} {p : Nat} {w : Int} {L : List Nat} (t : TT G M p w L) {p0 : Option Nat} (e0 : p0 = some 125) {p1 : Int32} {a1 : Int} (i1 : TI p1 a1) {p2 : Int32} {a2 : Int} (i2 : TI p2 a2) {p3 : Int32} {a3 : Int} (i3 : TI p3 a3) {p4 : Int32} (h0 : 0 ≤ a1) (h1 : a1 < 2 * w) (h2 : 0 ≤ a2) (h3 : a2 ≤ 15) (h4 : a3 = 4 ∨ a3 = 8 ∧ a2 % 4 = 0 ∨ a3 = 16 ∧ a2 = 0) : OK (FX6_predictRegion G M 138 p0 p1 p2 p3 p4) (fun y => TT G y p w L ∧ Fr p [1] M y) := by
  unfold FX6_predictRegion
  subst e0
  have hw12 : 1 ≤ w ∧ w ≤ 2 := by rcases tt_w t with h | h <;> omega
  rcases tt_w t with rfl | rfl
  · rcases h4 with rfl | ⟨rfl, h4⟩ | ⟨rfl, rfl⟩
    · refine ok_bnd (s_pieceX t i2 (by omega) (by omega)) ?_
      intro y1 hyy1
      obtain ⟨ty1, gy1, iy1⟩ := hyy1
      have fy1 := fr_tr (fr_0 p [1] M) gy1 rfl
      refine ok_bnd (s_pieceY ty1 i2 (by omega) (by omega)) ?_
      intro y2 hyy2
      obtain ⟨ty2, gy2, iy2⟩ := hyy2
      have fy2 := fr_tr fy1 gy2 rfl
      refine ok_dr rfl (g_lt ty2 (by decide)) (g_k ty2 (by decide) rfl) ?_
      refine ok_dr (tt_pic ty2) (by have q := (tt_q0b ty2 (tt_p ty2)); omega) (gk_0 ty2 (tt_p ty2)) ?_
      refine ok_ltI (tw_q ty2 (tt_p ty2)) (fun x5 ix5 => ?_)
      refine ok_chk (nz ix5 (by omega)) ?_
      refine ok_ltI (av_mod i1 ix5 (by omega) (by omega)) (fun x6 ix6 => ?_)
      refine ok_ltI (av_mul tn_16 ix6 (by omega) (by omega)) (fun x7 ix7 => ?_)
      refine ok_ltI (av_add ix7 iy1 (by omega) (by omega)) (fun x8 ix8 => ?_)
      refine ok_ltI (tw_q ty2 (tt_p ty2)) (fun x9 ix9 => ?_)
      refine ok_chk (nz ix9 (by omega)) ?_
      refine ok_ltI (av_div i1 ix9 (by omega) (by omega)) (fun x10 ix10 => ?_)
      refine ok_ltI (av_mul tn_16 ix10 (by omega) (by omega)) (fun x11 ix11 => ?_)
      refine ok_ltI (av_add ix11 iy2 (by omega) (by omega)) (fun x12 ix12 => ?_)
      refine ok_ltI (av_mul tn_16 iy2 (by omega) (by omega)) (fun x13 ix13 => ?_)
      refine ok_ltI (av_add ix13 iy1 (by omega) (by omega)) (fun x14 ix14 => ?_)
      refine ok_ltI (av_mul tn_4 iy2 (by omega) (by omega)) (fun x15 ix15 => ?_)
      refine ok_ltI (av_add tn_256 ix15 (by omega) (by omega)) (fun x16 ix16 => ?_)
      refine ok_ltI (av_div iy1 tn_2 (by omega) (by omega)) (fun x17 ix17 => ?_)
      refine ok_ltI (av_add ix16 ix17 (by omega) (by omega)) (fun x18 ix18 => ?_)
      refine ok_bnd (Q := fun (z : Int32 × DD) => (0 ≤ z.1.toInt ∧ z.1.toInt ≤ 2) ∧ TT G z.2 p 1 L ∧ Fr p [1] M z.2) (ok_itr (fun (z : Int32 × DD) => (0 ≤ z.1.toInt ∧ z.1.toInt ≤ 2) ∧ TT G z.2 p 1 L ∧ Fr p [1] M z.2) (fun z => (2 - z.1.toInt).toNat) ?_ _ _ ?_ ?_) ?_
      · intro s20 hys20
        obtain ⟨ls20_1, ts20_2, fs20_2⟩ := hys20
        have is20_1 : TI s20.1 s20.1.toInt := rfl
        refine ok_if (fun c1 => ?_) (fun c1 => ?_)
        · have dc1 := tl_le tn_2 is20_1 c1
          exact ok_some ⟨(ti_bd is20_1 (by omega) (by omega)), ts20_2, fs20_2⟩
        · have dc1 := tl_nle tn_2 is20_1 c1
          refine ok_ltI (av_mul tn_3 is20_1 (by omega) (by omega)) (fun x41 ix41 => ?_)
          refine ok_dr (f_r (b := 144) ts20_2 rfl (by decide)) (g_lt ts20_2 (by decide)) (g_k ts20_2 (by decide) rfl) ?_
          refine ok_chk (nxg (g_n (i := 144) (n := 6) ts20_2 (by decide) rfl) ix41 (by omega) (by omega)) ?_
          refine ok_ltB (ib_144 ts20_2 ix41 (by omega)) (fun x43 lx43 => ?_)
          have ix43 : TI x43 x43.toInt := rfl
          refine ok_bnd (Q := fun (z : Option Nat) => (z = none ∨ ∃ q, q ∈ L ∧ z = some q)) ?_ ?_
          · refine ok_if (fun c2 => ?_) (fun c2 => ?_)
            · have dc2 := tl_lt ix43 tn_0 c2
              exact ok_some (Or.inl rfl)
            · have dc2 := tl_nlt ix43 tn_0 c2
              refine ok_bnd (Q := fun (z : Option Nat) => (z = none ∨ ∃ q, q ∈ L ∧ z = some q)) ?_ ?_
              · refine ok_if (fun c3 => ?_) (fun c3 => ?_)
                · have dc3 := tl_le ix43 tn_8 c3
                  refine ok_ltI (av_mul tn_9 is20_1 (by omega) (by omega)) (fun x70 ix70 => ?_)
                  refine ok_ltI (av_add ix70 ix43 (by omega) (by omega)) (fun x71 ix71 => ?_)
                  refine ok_dr (f_r (b := 126) ts20_2 rfl (by decide)) (g_lt ts20_2 (by decide)) (g_k ts20_2 (by decide) rfl) ?_
                  refine ok_chk (nxg (g_n (i := 126) (n := 18) ts20_2 (by decide) rfl) ix71 (by omega) (by omega)) ?_
                  exact ok_some (tt_l7 ts20_2 _)
                · have dc3 := tl_nle ix43 tn_8 c3
                  exfalso
                  omega
              · intro y68 hyy68
                have oy68 := hyy68
                exact ok_some oy68
          · intro y44 hyy44
            have oy44 := hyy44
            refine ok_bnd (Q := fun (z : DD) => TT G z p 1 L ∧ Fr p [1] M z) ?_ ?_
            · refine ok_if (fun c4 => ?_) (fun c4 => ?_)
              · exact ok_some ⟨ts20_2, fs20_2⟩
              · obtain ⟨qc4, hqc4, eqc4⟩ := oj_ne oy44 c4
                refine ok_ltI (av_mul tn_4 ix8 (by omega) (by omega)) (fun x48 ix48 => ?_)
                refine ok_ltI (av_mul tn_3 is20_1 (by omega) (by omega)) (fun x49 ix49 => ?_)
                refine ok_ltI (av_add ix49 tn_1 (by omega) (by omega)) (fun x50 ix50 => ?_)
                refine ok_chk (nxg (g_n (i := 144) (n := 6) ts20_2 (by decide) rfl) ix50 (by omega) (by omega)) ?_
                refine ok_ltA (fun x51 => ?_)
                refine ok_ltA (fun x52 => ?_)
                refine ok_ltI (av_mul tn_4 ix12 (by omega) (by omega)) (fun x53 ix53 => ?_)
                refine ok_ltI (av_mul tn_3 is20_1 (by omega) (by omega)) (fun x54 ix54 => ?_)
                refine ok_ltI (av_add ix54 tn_2 (by omega) (by omega)) (fun x55 ix55 => ?_)
                refine ok_chk (nxg (g_n (i := 144) (n := 6) ts20_2 (by decide) rfl) ix55 (by omega) (by omega)) ?_
                refine ok_ltA (fun x56 => ?_)
                refine ok_ltA (fun x57 => ?_)
                refine ok_bnd (Q := fun (z : Option Nat) => (∃ c, (c == 140 || c == 141) = true ∧ z = some c)) ?_ ?_
                · refine ok_if (fun c5 => ?_) (fun c5 => ?_)
                  · have dc5 := tl_eq is20_1 tn_0 c5
                    exact ok_some ⟨140, rfl, f_r (b := 140) ts20_2 rfl (by decide)⟩
                  · have dc5 := tl_ne is20_1 tn_0 c5
                    exact ok_some ⟨141, rfl, f_r (b := 141) ts20_2 rfl (by decide)⟩
                · intro y58 hyy58
                  obtain ⟨cy58, hcy58, ecy58⟩ := hyy58
                  refine ok_bnd (s_predictLuma ts20_2 eqc4 hqc4 (rfl : TI x52 x52.toInt) (rfl : TI x57 x57.toInt) i3 ecy58 hcy58 ix14 (by omega) (by omega) (by omega)) ?_
                  intro y59 hyy59
                  obtain ⟨ty59, gy59⟩ := hyy59
                  have fy59 := fr_tr fs20_2 gy59 rfl
                  refine ok_bnd (Q := fun (z : DD) => TT G z p 1 L ∧ Fr p [1] M z) ?_ ?_
                  · refine ok_if (fun c6 => ?_) (fun c6 => ?_)
                    · have dc6 := tl_eq (rfl : TI p4 p4.toInt) tn_0 c6
                      exact ok_some ⟨ty59, fy59⟩
                    · have dc6 := tl_ne (rfl : TI p4 p4.toInt) tn_0 c6
                      refine ok_ltI (av_div i3 tn_2 (by omega) (by omega)) (fun x62 ix62 => ?_)
                      refine ok_bnd (Q := fun (z : Option Nat) => (∃ c, (c == 140 || c == 141) = true ∧ z = some c)) ?_ ?_
                      · refine ok_if (fun c7 => ?_) (fun c7 => ?_)
                        · have dc7 := tl_eq is20_1 tn_0 c7
                          exact ok_some ⟨140, rfl, f_r (b := 140) ty59 rfl (by decide)⟩
                        · have dc7 := tl_ne is20_1 tn_0 c7
                          exact ok_some ⟨141, rfl, f_r (b := 141) ty59 rfl (by decide)⟩
                      · intro y63 hyy63
                        obtain ⟨cy63, hcy63, ecy63⟩ := hyy63
                        refine ok_bnd (s_predictColours ty59 eqc4 hqc4 (rfl : TI x52 x52.toInt) (rfl : TI x57 x57.toInt) ix62 ecy63 hcy63 ix18 (by omega) (by omega) (by omega)) ?_
                        intro y64 hyy64
                        obtain ⟨ty64, gy64⟩ := hyy64
                        have fy64 := fr_tr fy59 gy64 rfl
                        exact ok_some ⟨ty64, fy64⟩
                  · intro y60 hyy60
                    obtain ⟨ty60, fy60⟩ := hyy60
                    exact ok_some ⟨ty60, fy60⟩
            · intro y45 hyy45
              obtain ⟨ty45, fy45⟩ := hyy45
              refine ok_ltI (av_add is20_1 tn_1 (by omega) (by omega)) (fun x46 ix46 => ?_)
              exact ok_some ⟨⟨(ti_bd ix46 (by omega) (by omega)), ty45, fy45⟩, (mu_up ix46 (by omega) (by omega))⟩
      · exact ⟨(ti_bd tn_0 (by omega) (by omega)), ty2, fy2⟩
      · exact mu_0 tn_0 (by omega)
      · intro y19 hyy19
        obtain ⟨ly19_1, ty19_2, fy19_2⟩ := hyy19
        have iy19_1 : TI y19.1 y19.1.toInt := rfl
        refine ok_bnd (Q := fun (z : Int32 × DD) => (0 ≤ z.1.toInt ∧ z.1.toInt ≤ 3) ∧ TT G z.2 p 1 L ∧ Fr p [1] M z.2) (ok_itr (fun (z : Int32 × DD) => (0 ≤ z.1.toInt ∧ z.1.toInt ≤ 3) ∧ TT G z.2 p 1 L ∧ Fr p [1] M z.2) (fun z => (3 - z.1.toInt).toNat) ?_ _ _ ?_ ?_) ?_
        · intro s23 hys23
          obtain ⟨ls23_1, ts23_2, fs23_2⟩ := hys23
          have is23_1 : TI s23.1 s23.1.toInt := rfl
          refine ok_bnd (Q := fun (z : Int32) => (1 ≤ z.toInt ∧ z.toInt ≤ 3)) ?_ ?_
          · refine ok_if (fun c8 => ?_) (fun c8 => ?_)
            · have dc8 := tl_eq (rfl : TI p4 p4.toInt) tn_0 c8
              exact ok_some (ti_bd tn_1 (by omega) (by omega))
            · have dc8 := tl_ne (rfl : TI p4 p4.toInt) tn_0 c8
              exact ok_some (ti_bd tn_3 (by omega) (by omega))
          · intro y26 hyy26
            have ly26 := hyy26
            have iy26 : TI y26 y26.toInt := rfl
            refine ok_if (fun c9 => ?_) (fun c9 => ?_)
            · have dc9 := tl_le iy26 is23_1 c9
              exact ok_some ⟨(ti_bd is23_1 (by omega) (by omega)), ts23_2, fs23_2⟩
            · have dc9 := tl_nle iy26 is23_1 c9
              refine ok_bnd (s_chooseWeights ts23_2 rfl is23_1 (by omega) (by omega)) ?_
              intro y28 hyy28
              obtain ⟨ty28, gy28, _⟩ := hyy28
              have fy28 := fr_tr fs23_2 gy28 rfl
              refine ok_bnd (Q := fun (z : DD) => TT G z p 1 L ∧ Fr p [1] M z) ?_ ?_
              · refine ok_if (fun c10 => ?_) (fun c10 => ?_)
                · have dc10 := tl_eq is23_1 tn_0 c10
                  refine ok_bnd (s_blend ty28 ix14 tn_16 i3 (by omega) (by omega) (by omega) (by omega)) ?_
                  intro y37 hyy37
                  obtain ⟨ty37, gy37⟩ := hyy37
                  have fy37 := fr_tr fy28 gy37 rfl
                  exact ok_some ⟨ty37, fy37⟩
                · have dc10 := tl_ne is23_1 tn_0 c10
                  refine ok_ltI (av_sub is23_1 tn_1 (by omega) (by omega)) (fun x32 ix32 => ?_)
                  refine ok_ltI (av_mul tn_64 ix32 (by omega) (by omega)) (fun x33 ix33 => ?_)
                  refine ok_ltI (av_add ix18 ix33 (by omega) (by omega)) (fun x34 ix34 => ?_)
                  refine ok_ltI (av_div i3 tn_2 (by omega) (by omega)) (fun x35 ix35 => ?_)
                  refine ok_bnd (s_blend ty28 ix34 tn_8 ix35 (by omega) (by omega) (by omega) (by omega)) ?_
                  intro y36 hyy36
                  obtain ⟨ty36, gy36⟩ := hyy36
                  have fy36 := fr_tr fy28 gy36 rfl
                  exact ok_some ⟨ty36, fy36⟩
              · intro y29 hyy29
                obtain ⟨ty29, fy29⟩ := hyy29
                refine ok_ltI (av_add is23_1 tn_1 (by omega) (by omega)) (fun x30 ix30 => ?_)
                exact ok_some ⟨⟨(ti_bd ix30 (by omega) (by omega)), ty29, fy29⟩, (mu_up ix30 (by omega) (by omega))⟩
        · exact ⟨(ti_bd tn_0 (by omega) (by omega)), ty19_2, fy19_2⟩
        · exact mu_0 tn_0 (by omega)
        · intro y22 hyy22
          obtain ⟨ly22_1, ty22_2, fy22_2⟩ := hyy22
          have iy22_1 : TI y22.1 y22.1.toInt := rfl
          exact ok_some ⟨ty22_2, fy22_2⟩
    · refine ok_bnd (s_pieceX t i2 (by omega) (by omega)) ?_
      intro y1 hyy1
      obtain ⟨ty1, gy1, iy1⟩ := hyy1
      have fy1 := fr_tr (fr_0 p [1] M) gy1 rfl
      refine ok_bnd (s_pieceY ty1 i2 (by omega) (by omega)) ?_
      intro y2 hyy2
      obtain ⟨ty2, gy2, iy2⟩ := hyy2
      have fy2 := fr_tr fy1 gy2 rfl
      refine ok_dr rfl (g_lt ty2 (by decide)) (g_k ty2 (by decide) rfl) ?_
      refine ok_dr (tt_pic ty2) (by have q := (tt_q0b ty2 (tt_p ty2)); omega) (gk_0 ty2 (tt_p ty2)) ?_
      refine ok_ltI (tw_q ty2 (tt_p ty2)) (fun x5 ix5 => ?_)
      refine ok_chk (nz ix5 (by omega)) ?_
      refine ok_ltI (av_mod i1 ix5 (by omega) (by omega)) (fun x6 ix6 => ?_)
      refine ok_ltI (av_mul tn_16 ix6 (by omega) (by omega)) (fun x7 ix7 => ?_)
      refine ok_ltI (av_add ix7 iy1 (by omega) (by omega)) (fun x8 ix8 => ?_)
      refine ok_ltI (tw_q ty2 (tt_p ty2)) (fun x9 ix9 => ?_)
      refine ok_chk (nz ix9 (by omega)) ?_
      refine ok_ltI (av_div i1 ix9 (by omega) (by omega)) (fun x10 ix10 => ?_)
      refine ok_ltI (av_mul tn_16 ix10 (by omega) (by omega)) (fun x11 ix11 => ?_)
      refine ok_ltI (av_add ix11 iy2 (by omega) (by omega)) (fun x12 ix12 => ?_)
      refine ok_ltI (av_mul tn_16 iy2 (by omega) (by omega)) (fun x13 ix13 => ?_)
      refine ok_ltI (av_add ix13 iy1 (by omega) (by omega)) (fun x14 ix14 => ?_)
      refine ok_ltI (av_mul tn_4 iy2 (by omega) (by omega)) (fun x15 ix15 => ?_)
      refine ok_ltI (av_add tn_256 ix15 (by omega) (by omega)) (fun x16 ix16 => ?_)
      refine ok_ltI (av_div iy1 tn_2 (by omega) (by omega)) (fun x17 ix17 => ?_)
      refine ok_ltI (av_add ix16 ix17 (by omega) (by omega)) (fun x18 ix18 => ?_)
      refine ok_bnd (Q := fun (z : Int32 × DD) => (0 ≤ z.1.toInt ∧ z.1.toInt ≤ 2) ∧ TT G z.2 p 1 L ∧ Fr p [1] M z.2) (ok_itr (fun (z : Int32 × DD) => (0 ≤ z.1.toInt ∧ z.1.toInt ≤ 2) ∧ TT G z.2 p 1 L ∧ Fr p [1] M z.2) (fun z => (2 - z.1.toInt).toNat) ?_ _ _ ?_ ?_) ?_
      · intro s20 hys20
        obtain ⟨ls20_1, ts20_2, fs20_2⟩ := hys20
        have is20_1 : TI s20.1 s20.1.toInt := rfl
        refine ok_if (fun c1 => ?_) (fun c1 => ?_)
        · have dc1 := tl_le tn_2 is20_1 c1
          exact ok_some ⟨(ti_bd is20_1 (by omega) (by omega)), ts20_2, fs20_2⟩
        · have dc1 := tl_nle tn_2 is20_1 c1
          refine ok_ltI (av_mul tn_3 is20_1 (by omega) (by omega)) (fun x41 ix41 => ?_)
          refine ok_dr (f_r (b := 144) ts20_2 rfl (by decide)) (g_lt ts20_2 (by decide)) (g_k ts20_2 (by decide) rfl) ?_
          refine ok_chk (nxg (g_n (i := 144) (n := 6) ts20_2 (by decide) rfl) ix41 (by omega) (by omega)) ?_
          refine ok_ltB (ib_144 ts20_2 ix41 (by omega)) (fun x43 lx43 => ?_)
          have ix43 : TI x43 x43.toInt := rfl
          refine ok_bnd (Q := fun (z : Option Nat) => (z = none ∨ ∃ q, q ∈ L ∧ z = some q)) ?_ ?_
          · refine ok_if (fun c2 => ?_) (fun c2 => ?_)
            · have dc2 := tl_lt ix43 tn_0 c2
              exact ok_some (Or.inl rfl)
            · have dc2 := tl_nlt ix43 tn_0 c2
              refine ok_bnd (Q := fun (z : Option Nat) => (z = none ∨ ∃ q, q ∈ L ∧ z = some q)) ?_ ?_
              · refine ok_if (fun c3 => ?_) (fun c3 => ?_)
                · have dc3 := tl_le ix43 tn_8 c3
                  refine ok_ltI (av_mul tn_9 is20_1 (by omega) (by omega)) (fun x70 ix70 => ?_)
                  refine ok_ltI (av_add ix70 ix43 (by omega) (by omega)) (fun x71 ix71 => ?_)
                  refine ok_dr (f_r (b := 126) ts20_2 rfl (by decide)) (g_lt ts20_2 (by decide)) (g_k ts20_2 (by decide) rfl) ?_
                  refine ok_chk (nxg (g_n (i := 126) (n := 18) ts20_2 (by decide) rfl) ix71 (by omega) (by omega)) ?_
                  exact ok_some (tt_l7 ts20_2 _)
                · have dc3 := tl_nle ix43 tn_8 c3
                  exfalso
                  omega
              · intro y68 hyy68
                have oy68 := hyy68
                exact ok_some oy68
          · intro y44 hyy44
            have oy44 := hyy44
            refine ok_bnd (Q := fun (z : DD) => TT G z p 1 L ∧ Fr p [1] M z) ?_ ?_
            · refine ok_if (fun c4 => ?_) (fun c4 => ?_)
              · exact ok_some ⟨ts20_2, fs20_2⟩
              · obtain ⟨qc4, hqc4, eqc4⟩ := oj_ne oy44 c4
                refine ok_ltI (av_mul tn_4 ix8 (by omega) (by omega)) (fun x48 ix48 => ?_)
                refine ok_ltI (av_mul tn_3 is20_1 (by omega) (by omega)) (fun x49 ix49 => ?_)
                refine ok_ltI (av_add ix49 tn_1 (by omega) (by omega)) (fun x50 ix50 => ?_)
                refine ok_chk (nxg (g_n (i := 144) (n := 6) ts20_2 (by decide) rfl) ix50 (by omega) (by omega)) ?_
                refine ok_ltA (fun x51 => ?_)
                refine ok_ltA (fun x52 => ?_)
                refine ok_ltI (av_mul tn_4 ix12 (by omega) (by omega)) (fun x53 ix53 => ?_)
                refine ok_ltI (av_mul tn_3 is20_1 (by omega) (by omega)) (fun x54 ix54 => ?_)
                refine ok_ltI (av_add ix54 tn_2 (by omega) (by omega)) (fun x55 ix55 => ?_)
                refine ok_chk (nxg (g_n (i := 144) (n := 6) ts20_2 (by decide) rfl) ix55 (by omega) (by omega)) ?_
                refine ok_ltA (fun x56 => ?_)
                refine ok_ltA (fun x57 => ?_)
                refine ok_bnd (Q := fun (z : Option Nat) => (∃ c, (c == 140 || c == 141) = true ∧ z = some c)) ?_ ?_
                · refine ok_if (fun c5 => ?_) (fun c5 => ?_)
                  · have dc5 := tl_eq is20_1 tn_0 c5
                    exact ok_some ⟨140, rfl, f_r (b := 140) ts20_2 rfl (by decide)⟩
                  · have dc5 := tl_ne is20_1 tn_0 c5
                    exact ok_some ⟨141, rfl, f_r (b := 141) ts20_2 rfl (by decide)⟩
                · intro y58 hyy58
                  obtain ⟨cy58, hcy58, ecy58⟩ := hyy58
                  refine ok_bnd (s_predictLuma ts20_2 eqc4 hqc4 (rfl : TI x52 x52.toInt) (rfl : TI x57 x57.toInt) i3 ecy58 hcy58 ix14 (by omega) (by omega) (by omega)) ?_
                  intro y59 hyy59
                  obtain ⟨ty59, gy59⟩ := hyy59
                  have fy59 := fr_tr fs20_2 gy59 rfl
                  refine ok_bnd (Q := fun (z : DD) => TT G z p 1 L ∧ Fr p [1] M z) ?_ ?_
                  · refine ok_if (fun c6 => ?_) (fun c6 => ?_)
                    · have dc6 := tl_eq (rfl : TI p4 p4.toInt) tn_0 c6
                      exact ok_some ⟨ty59, fy59⟩
                    · have dc6 := tl_ne (rfl : TI p4 p4.toInt) tn_0 c6
                      refine ok_ltI (av_div i3 tn_2 (by omega) (by omega)) (fun x62 ix62 => ?_)
                      refine ok_bnd (Q := fun (z : Option Nat) => (∃ c, (c == 140 || c == 141) = true ∧ z = some c)) ?_ ?_
                      · refine ok_if (fun c7 => ?_) (fun c7 => ?_)
                        · have dc7 := tl_eq is20_1 tn_0 c7
                          exact ok_some ⟨140, rfl, f_r (b := 140) ty59 rfl (by decide)⟩
                        · have dc7 := tl_ne is20_1 tn_0 c7
                          exact ok_some ⟨141, rfl, f_r (b := 141) ty59 rfl (by decide)⟩
                      · intro y63 hyy63
                        obtain ⟨cy63, hcy63, ecy63⟩ := hyy63
                        refine ok_bnd (s_predictColours ty59 eqc4 hqc4 (rfl : TI x52 x52.toInt) (rfl : TI x57 x57.toInt) ix62 ecy63 hcy63 ix18 (by omega) (by omega) (by omega)) ?_
                        intro y64 hyy64
                        obtain ⟨ty64, gy64⟩ := hyy64
                        have fy64 := fr_tr fy59 gy64 rfl
                        exact ok_some ⟨ty64, fy64⟩
                  · intro y60 hyy60
                    obtain ⟨ty60, fy60⟩ := hyy60
                    exact ok_some ⟨ty60, fy60⟩
            · intro y45 hyy45
              obtain ⟨ty45, fy45⟩ := hyy45
              refine ok_ltI (av_add is20_1 tn_1 (by omega) (by omega)) (fun x46 ix46 => ?_)
              exact ok_some ⟨⟨(ti_bd ix46 (by omega) (by omega)), ty45, fy45⟩, (mu_up ix46 (by omega) (by omega))⟩
      · exact ⟨(ti_bd tn_0 (by omega) (by omega)), ty2, fy2⟩
      · exact mu_0 tn_0 (by omega)
      · intro y19 hyy19
        obtain ⟨ly19_1, ty19_2, fy19_2⟩ := hyy19
        have iy19_1 : TI y19.1 y19.1.toInt := rfl
        refine ok_bnd (Q := fun (z : Int32 × DD) => (0 ≤ z.1.toInt ∧ z.1.toInt ≤ 3) ∧ TT G z.2 p 1 L ∧ Fr p [1] M z.2) (ok_itr (fun (z : Int32 × DD) => (0 ≤ z.1.toInt ∧ z.1.toInt ≤ 3) ∧ TT G z.2 p 1 L ∧ Fr p [1] M z.2) (fun z => (3 - z.1.toInt).toNat) ?_ _ _ ?_ ?_) ?_
        · intro s23 hys23
          obtain ⟨ls23_1, ts23_2, fs23_2⟩ := hys23
          have is23_1 : TI s23.1 s23.1.toInt := rfl
          refine ok_bnd (Q := fun (z : Int32) => (1 ≤ z.toInt ∧ z.toInt ≤ 3)) ?_ ?_
          · refine ok_if (fun c8 => ?_) (fun c8 => ?_)
            · have dc8 := tl_eq (rfl : TI p4 p4.toInt) tn_0 c8
              exact ok_some (ti_bd tn_1 (by omega) (by omega))
            · have dc8 := tl_ne (rfl : TI p4 p4.toInt) tn_0 c8
              exact ok_some (ti_bd tn_3 (by omega) (by omega))
          · intro y26 hyy26
            have ly26 := hyy26
            have iy26 : TI y26 y26.toInt := rfl
            refine ok_if (fun c9 => ?_) (fun c9 => ?_)
            · have dc9 := tl_le iy26 is23_1 c9
              exact ok_some ⟨(ti_bd is23_1 (by omega) (by omega)), ts23_2, fs23_2⟩
            · have dc9 := tl_nle iy26 is23_1 c9
              refine ok_bnd (s_chooseWeights ts23_2 rfl is23_1 (by omega) (by omega)) ?_
              intro y28 hyy28
              obtain ⟨ty28, gy28, _⟩ := hyy28
              have fy28 := fr_tr fs23_2 gy28 rfl
              refine ok_bnd (Q := fun (z : DD) => TT G z p 1 L ∧ Fr p [1] M z) ?_ ?_
              · refine ok_if (fun c10 => ?_) (fun c10 => ?_)
                · have dc10 := tl_eq is23_1 tn_0 c10
                  refine ok_bnd (s_blend ty28 ix14 tn_16 i3 (by omega) (by omega) (by omega) (by omega)) ?_
                  intro y37 hyy37
                  obtain ⟨ty37, gy37⟩ := hyy37
                  have fy37 := fr_tr fy28 gy37 rfl
                  exact ok_some ⟨ty37, fy37⟩
                · have dc10 := tl_ne is23_1 tn_0 c10
                  refine ok_ltI (av_sub is23_1 tn_1 (by omega) (by omega)) (fun x32 ix32 => ?_)
                  refine ok_ltI (av_mul tn_64 ix32 (by omega) (by omega)) (fun x33 ix33 => ?_)
                  refine ok_ltI (av_add ix18 ix33 (by omega) (by omega)) (fun x34 ix34 => ?_)
                  refine ok_ltI (av_div i3 tn_2 (by omega) (by omega)) (fun x35 ix35 => ?_)
                  refine ok_bnd (s_blend ty28 ix34 tn_8 ix35 (by omega) (by omega) (by omega) (by omega)) ?_
                  intro y36 hyy36
                  obtain ⟨ty36, gy36⟩ := hyy36
                  have fy36 := fr_tr fy28 gy36 rfl
                  exact ok_some ⟨ty36, fy36⟩
              · intro y29 hyy29
                obtain ⟨ty29, fy29⟩ := hyy29
                refine ok_ltI (av_add is23_1 tn_1 (by omega) (by omega)) (fun x30 ix30 => ?_)
                exact ok_some ⟨⟨(ti_bd ix30 (by omega) (by omega)), ty29, fy29⟩, (mu_up ix30 (by omega) (by omega))⟩
        · exact ⟨(ti_bd tn_0 (by omega) (by omega)), ty19_2, fy19_2⟩
        · exact mu_0 tn_0 (by omega)
        · intro y22 hyy22
          obtain ⟨ly22_1, ty22_2, fy22_2⟩ := hyy22
          have iy22_1 : TI y22.1 y22.1.toInt := rfl
          exact ok_some ⟨ty22_2, fy22_2⟩
    · refine ok_bnd (s_pieceX t i2 (by omega) (by omega)) ?_
      intro y1 hyy1
      obtain ⟨ty1, gy1, iy1⟩ := hyy1
      have fy1 := fr_tr (fr_0 p [1] M) gy1 rfl
      refine ok_bnd (s_pieceY ty1 i2 (by omega) (by omega)) ?_
      intro y2 hyy2
      obtain ⟨ty2, gy2, iy2⟩ := hyy2
      have fy2 := fr_tr fy1 gy2 rfl
      refine ok_dr rfl (g_lt ty2 (by decide)) (g_k ty2 (by decide) rfl) ?_
      refine ok_dr (tt_pic ty2) (by have q := (tt_q0b ty2 (tt_p ty2)); omega) (gk_0 ty2 (tt_p ty2)) ?_
      refine ok_ltI (tw_q ty2 (tt_p ty2)) (fun x5 ix5 => ?_)
      refine ok_chk (nz ix5 (by omega)) ?_
      refine ok_ltI (av_mod i1 ix5 (by omega) (by omega)) (fun x6 ix6 => ?_)
      refine ok_ltI (av_mul tn_16 ix6 (by omega) (by omega)) (fun x7 ix7 => ?_)
      refine ok_ltI (av_add ix7 iy1 (by omega) (by omega)) (fun x8 ix8 => ?_)
      refine ok_ltI (tw_q ty2 (tt_p ty2)) (fun x9 ix9 => ?_)
      refine ok_chk (nz ix9 (by omega)) ?_
      refine ok_ltI (av_div i1 ix9 (by omega) (by omega)) (fun x10 ix10 => ?_)
      refine ok_ltI (av_mul tn_16 ix10 (by omega) (by omega)) (fun x11 ix11 => ?_)
      refine ok_ltI (av_add ix11 iy2 (by omega) (by omega)) (fun x12 ix12 => ?_)
      refine ok_ltI (av_mul tn_16 iy2 (by omega) (by omega)) (fun x13 ix13 => ?_)
      refine ok_ltI (av_add ix13 iy1 (by omega) (by omega)) (fun x14 ix14 => ?_)
      refine ok_ltI (av_mul tn_4 iy2 (by omega) (by omega)) (fun x15 ix15 => ?_)
      refine ok_ltI (av_add tn_256 ix15 (by omega) (by omega)) (fun x16 ix16 => ?_)
      refine ok_ltI (av_div iy1 tn_2 (by omega) (by omega)) (fun x17 ix17 => ?_)
      refine ok_ltI (av_add ix16 ix17 (by omega) (by omega)) (fun x18 ix18 => ?_)
      refine ok_bnd (Q := fun (z : Int32 × DD) => (0 ≤ z.1.toInt ∧ z.1.toInt ≤ 2) ∧ TT G z.2 p 1 L ∧ Fr p [1] M z.2) (ok_itr (fun (z : Int32 × DD) => (0 ≤ z.1.toInt ∧ z.1.toInt ≤ 2) ∧ TT G z.2 p 1 L ∧ Fr p [1] M z.2) (fun z => (2 - z.1.toInt).toNat) ?_ _ _ ?_ ?_) ?_
      · intro s20 hys20
        obtain ⟨ls20_1, ts20_2, fs20_2⟩ := hys20
        have is20_1 : TI s20.1 s20.1.toInt := rfl
        refine ok_if (fun c1 => ?_) (fun c1 => ?_)
        · have dc1 := tl_le tn_2 is20_1 c1
          exact ok_some ⟨(ti_bd is20_1 (by omega) (by omega)), ts20_2, fs20_2⟩
        · have dc1 := tl_nle tn_2 is20_1 c1
          refine ok_ltI (av_mul tn_3 is20_1 (by omega) (by omega)) (fun x41 ix41 => ?_)
          refine ok_dr (f_r (b := 144) ts20_2 rfl (by decide)) (g_lt ts20_2 (by decide)) (g_k ts20_2 (by decide) rfl) ?_
          refine ok_chk (nxg (g_n (i := 144) (n := 6) ts20_2 (by decide) rfl) ix41 (by omega) (by omega)) ?_
          refine ok_ltB (ib_144 ts20_2 ix41 (by omega)) (fun x43 lx43 => ?_)
          have ix43 : TI x43 x43.toInt := rfl
          refine ok_bnd (Q := fun (z : Option Nat) => (z = none ∨ ∃ q, q ∈ L ∧ z = some q)) ?_ ?_
          · refine ok_if (fun c2 => ?_) (fun c2 => ?_)
            · have dc2 := tl_lt ix43 tn_0 c2
              exact ok_some (Or.inl rfl)
            · have dc2 := tl_nlt ix43 tn_0 c2
              refine ok_bnd (Q := fun (z : Option Nat) => (z = none ∨ ∃ q, q ∈ L ∧ z = some q)) ?_ ?_
              · refine ok_if (fun c3 => ?_) (fun c3 => ?_)
                · have dc3 := tl_le ix43 tn_8 c3
                  refine ok_ltI (av_mul tn_9 is20_1 (by omega) (by omega)) (fun x70 ix70 => ?_)
                  refine ok_ltI (av_add ix70 ix43 (by omega) (by omega)) (fun x71 ix71 => ?_)
                  refine ok_dr (f_r (b := 126) ts20_2 rfl (by decide)) (g_lt ts20_2 (by decide)) (g_k ts20_2 (by decide) rfl) ?_
                  refine ok_chk (nxg (g_n (i := 126) (n := 18) ts20_2 (by decide) rfl) ix71 (by omega) (by omega)) ?_
                  exact ok_some (tt_l7 ts20_2 _)
                · have dc3 := tl_nle ix43 tn_8 c3
                  exfalso
                  omega
              · intro y68 hyy68
                have oy68 := hyy68
                exact ok_some oy68
          · intro y44 hyy44
            have oy44 := hyy44
            refine ok_bnd (Q := fun (z : DD) => TT G z p 1 L ∧ Fr p [1] M z) ?_ ?_
            · refine ok_if (fun c4 => ?_) (fun c4 => ?_)
              · exact ok_some ⟨ts20_2, fs20_2⟩
              · obtain ⟨qc4, hqc4, eqc4⟩ := oj_ne oy44 c4
                refine ok_ltI (av_mul tn_4 ix8 (by omega) (by omega)) (fun x48 ix48 => ?_)
                refine ok_ltI (av_mul tn_3 is20_1 (by omega) (by omega)) (fun x49 ix49 => ?_)
                refine ok_ltI (av_add ix49 tn_1 (by omega) (by omega)) (fun x50 ix50 => ?_)
                refine ok_chk (nxg (g_n (i := 144) (n := 6) ts20_2 (by decide) rfl) ix50 (by omega) (by omega)) ?_
                refine ok_ltA (fun x51 => ?_)
                refine ok_ltA (fun x52 => ?_)
                refine ok_ltI (av_mul tn_4 ix12 (by omega) (by omega)) (fun x53 ix53 => ?_)
                refine ok_ltI (av_mul tn_3 is20_1 (by omega) (by omega)) (fun x54 ix54 => ?_)
                refine ok_ltI (av_add ix54 tn_2 (by omega) (by omega)) (fun x55 ix55 => ?_)
                refine ok_chk (nxg (g_n (i := 144) (n := 6) ts20_2 (by decide) rfl) ix55 (by omega) (by omega)) ?_
                refine ok_ltA (fun x56 => ?_)
                refine ok_ltA (fun x57 => ?_)
                refine ok_bnd (Q := fun (z : Option Nat) => (∃ c, (c == 140 || c == 141) = true ∧ z = some c)) ?_ ?_
                · refine ok_if (fun c5 => ?_) (fun c5 => ?_)
                  · have dc5 := tl_eq is20_1 tn_0 c5
                    exact ok_some ⟨140, rfl, f_r (b := 140) ts20_2 rfl (by decide)⟩
                  · have dc5 := tl_ne is20_1 tn_0 c5
                    exact ok_some ⟨141, rfl, f_r (b := 141) ts20_2 rfl (by decide)⟩
                · intro y58 hyy58
                  obtain ⟨cy58, hcy58, ecy58⟩ := hyy58
                  refine ok_bnd (s_predictLuma ts20_2 eqc4 hqc4 (rfl : TI x52 x52.toInt) (rfl : TI x57 x57.toInt) i3 ecy58 hcy58 ix14 (by omega) (by omega) (by omega)) ?_
                  intro y59 hyy59
                  obtain ⟨ty59, gy59⟩ := hyy59
                  have fy59 := fr_tr fs20_2 gy59 rfl
                  refine ok_bnd (Q := fun (z : DD) => TT G z p 1 L ∧ Fr p [1] M z) ?_ ?_
                  · refine ok_if (fun c6 => ?_) (fun c6 => ?_)
                    · have dc6 := tl_eq (rfl : TI p4 p4.toInt) tn_0 c6
                      exact ok_some ⟨ty59, fy59⟩
                    · have dc6 := tl_ne (rfl : TI p4 p4.toInt) tn_0 c6
                      refine ok_ltI (av_div i3 tn_2 (by omega) (by omega)) (fun x62 ix62 => ?_)
                      refine ok_bnd (Q := fun (z : Option Nat) => (∃ c, (c == 140 || c == 141) = true ∧ z = some c)) ?_ ?_
                      · refine ok_if (fun c7 => ?_) (fun c7 => ?_)
                        · have dc7 := tl_eq is20_1 tn_0 c7
                          exact ok_some ⟨140, rfl, f_r (b := 140) ty59 rfl (by decide)⟩
                        · have dc7 := tl_ne is20_1 tn_0 c7
                          exact ok_some ⟨141, rfl, f_r (b := 141) ty59 rfl (by decide)⟩
                      · intro y63 hyy63
                        obtain ⟨cy63, hcy63, ecy63⟩ := hyy63
                        refine ok_bnd (s_predictColours ty59 eqc4 hqc4 (rfl : TI x52 x52.toInt) (rfl : TI x57 x57.toInt) ix62 ecy63 hcy63 ix18 (by omega) (by omega) (by omega)) ?_
                        intro y64 hyy64
                        obtain ⟨ty64, gy64⟩ := hyy64
                        have fy64 := fr_tr fy59 gy64 rfl
                        exact ok_some ⟨ty64, fy64⟩
                  · intro y60 hyy60
                    obtain ⟨ty60, fy60⟩ := hyy60
                    exact ok_some ⟨ty60, fy60⟩
            · intro y45 hyy45
              obtain ⟨ty45, fy45⟩ := hyy45
              refine ok_ltI (av_add is20_1 tn_1 (by omega) (by omega)) (fun x46 ix46 => ?_)
              exact ok_some ⟨⟨(ti_bd ix46 (by omega) (by omega)), ty45, fy45⟩, (mu_up ix46 (by omega) (by omega))⟩
      · exact ⟨(ti_bd tn_0 (by omega) (by omega)), ty2, fy2⟩
      · exact mu_0 tn_0 (by omega)
      · intro y19 hyy19
        obtain ⟨ly19_1, ty19_2, fy19_2⟩ := hyy19
        have iy19_1 : TI y19.1 y19.1.toInt := rfl
        refine ok_bnd (Q := fun (z : Int32 × DD) => (0 ≤ z.1.toInt ∧ z.1.toInt ≤ 3) ∧ TT G z.2 p 1 L ∧ Fr p [1] M z.2) (ok_itr (fun (z : Int32 × DD) => (0 ≤ z.1.toInt ∧ z.1.toInt ≤ 3) ∧ TT G z.2 p 1 L ∧ Fr p [1] M z.2) (fun z => (3 - z.1.toInt).toNat) ?_ _ _ ?_ ?_) ?_
        · intro s23 hys23
          obtain ⟨ls23_1, ts23_2, fs23_2⟩ := hys23
          have is23_1 : TI s23.1 s23.1.toInt := rfl
          refine ok_bnd (Q := fun (z : Int32) => (1 ≤ z.toInt ∧ z.toInt ≤ 3)) ?_ ?_
          · refine ok_if (fun c8 => ?_) (fun c8 => ?_)
            · have dc8 := tl_eq (rfl : TI p4 p4.toInt) tn_0 c8
              exact ok_some (ti_bd tn_1 (by omega) (by omega))
            · have dc8 := tl_ne (rfl : TI p4 p4.toInt) tn_0 c8
              exact ok_some (ti_bd tn_3 (by omega) (by omega))
          · intro y26 hyy26
            have ly26 := hyy26
            have iy26 : TI y26 y26.toInt := rfl
            refine ok_if (fun c9 => ?_) (fun c9 => ?_)
            · have dc9 := tl_le iy26 is23_1 c9
              exact ok_some ⟨(ti_bd is23_1 (by omega) (by omega)), ts23_2, fs23_2⟩
            · have dc9 := tl_nle iy26 is23_1 c9
              refine ok_bnd (s_chooseWeights ts23_2 rfl is23_1 (by omega) (by omega)) ?_
              intro y28 hyy28
              obtain ⟨ty28, gy28, _⟩ := hyy28
              have fy28 := fr_tr fs23_2 gy28 rfl
              refine ok_bnd (Q := fun (z : DD) => TT G z p 1 L ∧ Fr p [1] M z) ?_ ?_
              · refine ok_if (fun c10 => ?_) (fun c10 => ?_)
                · have dc10 := tl_eq is23_1 tn_0 c10
                  refine ok_bnd (s_blend ty28 ix14 tn_16 i3 (by omega) (by omega) (by omega) (by omega)) ?_
                  intro y37 hyy37
                  obtain ⟨ty37, gy37⟩ := hyy37
                  have fy37 := fr_tr fy28 gy37 rfl
                  exact ok_some ⟨ty37, fy37⟩
                · have dc10 := tl_ne is23_1 tn_0 c10
                  refine ok_ltI (av_sub is23_1 tn_1 (by omega) (by omega)) (fun x32 ix32 => ?_)
                  refine ok_ltI (av_mul tn_64 ix32 (by omega) (by omega)) (fun x33 ix33 => ?_)
                  refine ok_ltI (av_add ix18 ix33 (by omega) (by omega)) (fun x34 ix34 => ?_)
                  refine ok_ltI (av_div i3 tn_2 (by omega) (by omega)) (fun x35 ix35 => ?_)
                  refine ok_bnd (s_blend ty28 ix34 tn_8 ix35 (by omega) (by omega) (by omega) (by omega)) ?_
                  intro y36 hyy36
                  obtain ⟨ty36, gy36⟩ := hyy36
                  have fy36 := fr_tr fy28 gy36 rfl
                  exact ok_some ⟨ty36, fy36⟩
              · intro y29 hyy29
                obtain ⟨ty29, fy29⟩ := hyy29
                refine ok_ltI (av_add is23_1 tn_1 (by omega) (by omega)) (fun x30 ix30 => ?_)
                exact ok_some ⟨⟨(ti_bd ix30 (by omega) (by omega)), ty29, fy29⟩, (mu_up ix30 (by omega) (by omega))⟩
        · exact ⟨(ti_bd tn_0 (by omega) (by omega)), ty19_2, fy19_2⟩
        · exact mu_0 tn_0 (by omega)
        · intro y22 hyy22
          obtain ⟨ly22_1, ty22_2, fy22_2⟩ := hyy22
          have iy22_1 : TI y22.1 y22.1.toInt := rfl
          exact ok_some ⟨ty22_2, fy22_2⟩
  · rcases h4 with rfl | ⟨rfl, h4⟩ | ⟨rfl, rfl⟩
    · refine ok_bnd (s_pieceX t i2 (by omega) (by omega)) ?_
      intro y1 hyy1
      obtain ⟨ty1, gy1, iy1⟩ := hyy1
      have fy1 := fr_tr (fr_0 p [1] M) gy1 rfl
      refine ok_bnd (s_pieceY ty1 i2 (by omega) (by omega)) ?_
      intro y2 hyy2
      obtain ⟨ty2, gy2, iy2⟩ := hyy2
      have fy2 := fr_tr fy1 gy2 rfl
      refine ok_dr rfl (g_lt ty2 (by decide)) (g_k ty2 (by decide) rfl) ?_
      refine ok_dr (tt_pic ty2) (by have q := (tt_q0b ty2 (tt_p ty2)); omega) (gk_0 ty2 (tt_p ty2)) ?_
      refine ok_ltI (tw_q ty2 (tt_p ty2)) (fun x5 ix5 => ?_)
      refine ok_chk (nz ix5 (by omega)) ?_
      refine ok_ltI (av_mod i1 ix5 (by omega) (by omega)) (fun x6 ix6 => ?_)
      refine ok_ltI (av_mul tn_16 ix6 (by omega) (by omega)) (fun x7 ix7 => ?_)
      refine ok_ltI (av_add ix7 iy1 (by omega) (by omega)) (fun x8 ix8 => ?_)
      refine ok_ltI (tw_q ty2 (tt_p ty2)) (fun x9 ix9 => ?_)
      refine ok_chk (nz ix9 (by omega)) ?_
      refine ok_ltI (av_div i1 ix9 (by omega) (by omega)) (fun x10 ix10 => ?_)
      refine ok_ltI (av_mul tn_16 ix10 (by omega) (by omega)) (fun x11 ix11 => ?_)
      refine ok_ltI (av_add ix11 iy2 (by omega) (by omega)) (fun x12 ix12 => ?_)
      refine ok_ltI (av_mul tn_16 iy2 (by omega) (by omega)) (fun x13 ix13 => ?_)
      refine ok_ltI (av_add ix13 iy1 (by omega) (by omega)) (fun x14 ix14 => ?_)
      refine ok_ltI (av_mul tn_4 iy2 (by omega) (by omega)) (fun x15 ix15 => ?_)
      refine ok_ltI (av_add tn_256 ix15 (by omega) (by omega)) (fun x16 ix16 => ?_)
      refine ok_ltI (av_div iy1 tn_2 (by omega) (by omega)) (fun x17 ix17 => ?_)
      refine ok_ltI (av_add ix16 ix17 (by omega) (by omega)) (fun x18 ix18 => ?_)
      refine ok_bnd (Q := fun (z : Int32 × DD) => (0 ≤ z.1.toInt ∧ z.1.toInt ≤ 2) ∧ TT G z.2 p 2 L ∧ Fr p [1] M z.2) (ok_itr (fun (z : Int32 × DD) => (0 ≤ z.1.toInt ∧ z.1.toInt ≤ 2) ∧ TT G z.2 p 2 L ∧ Fr p [1] M z.2) (fun z => (2 - z.1.toInt).toNat) ?_ _ _ ?_ ?_) ?_
      · intro s20 hys20
        obtain ⟨ls20_1, ts20_2, fs20_2⟩ := hys20
        have is20_1 : TI s20.1 s20.1.toInt := rfl
        refine ok_if (fun c1 => ?_) (fun c1 => ?_)
        · have dc1 := tl_le tn_2 is20_1 c1
          exact ok_some ⟨(ti_bd is20_1 (by omega) (by omega)), ts20_2, fs20_2⟩
        · have dc1 := tl_nle tn_2 is20_1 c1
          refine ok_ltI (av_mul tn_3 is20_1 (by omega) (by omega)) (fun x41 ix41 => ?_)
          refine ok_dr (f_r (b := 144) ts20_2 rfl (by decide)) (g_lt ts20_2 (by decide)) (g_k ts20_2 (by decide) rfl) ?_
          refine ok_chk (nxg (g_n (i := 144) (n := 6) ts20_2 (by decide) rfl) ix41 (by omega) (by omega)) ?_
          refine ok_ltB (ib_144 ts20_2 ix41 (by omega)) (fun x43 lx43 => ?_)
          have ix43 : TI x43 x43.toInt := rfl
          refine ok_bnd (Q := fun (z : Option Nat) => (z = none ∨ ∃ q, q ∈ L ∧ z = some q)) ?_ ?_
          · refine ok_if (fun c2 => ?_) (fun c2 => ?_)
            · have dc2 := tl_lt ix43 tn_0 c2
              exact ok_some (Or.inl rfl)
            · have dc2 := tl_nlt ix43 tn_0 c2
              refine ok_bnd (Q := fun (z : Option Nat) => (z = none ∨ ∃ q, q ∈ L ∧ z = some q)) ?_ ?_
              · refine ok_if (fun c3 => ?_) (fun c3 => ?_)
                · have dc3 := tl_le ix43 tn_8 c3
                  refine ok_ltI (av_mul tn_9 is20_1 (by omega) (by omega)) (fun x70 ix70 => ?_)
                  refine ok_ltI (av_add ix70 ix43 (by omega) (by omega)) (fun x71 ix71 => ?_)
                  refine ok_dr (f_r (b := 126) ts20_2 rfl (by decide)) (g_lt ts20_2 (by decide)) (g_k ts20_2 (by decide) rfl) ?_
                  refine ok_chk (nxg (g_n (i := 126) (n := 18) ts20_2 (by decide) rfl) ix71 (by omega) (by omega)) ?_
                  exact ok_some (tt_l7 ts20_2 _)
                · have dc3 := tl_nle ix43 tn_8 c3
                  exfalso
                  omega
              · intro y68 hyy68
                have oy68 := hyy68
                exact ok_some oy68
          · intro y44 hyy44
            have oy44 := hyy44
            refine ok_bnd (Q := fun (z : DD) => TT G z p 2 L ∧ Fr p [1] M z) ?_ ?_
            · refine ok_if (fun c4 => ?_) (fun c4 => ?_)
              · exact ok_some ⟨ts20_2, fs20_2⟩
              · obtain ⟨qc4, hqc4, eqc4⟩ := oj_ne oy44 c4
                refine ok_ltI (av_mul tn_4 ix8 (by omega) (by omega)) (fun x48 ix48 => ?_)
                refine ok_ltI (av_mul tn_3 is20_1 (by omega) (by omega)) (fun x49 ix49 => ?_)
                refine ok_ltI (av_add ix49 tn_1 (by omega) (by omega)) (fun x50 ix50 => ?_)
                refine ok_chk (nxg (g_n (i := 144) (n := 6) ts20_2 (by decide) rfl) ix50 (by omega) (by omega)) ?_
                refine ok_ltA (fun x51 => ?_)
                refine ok_ltA (fun x52 => ?_)
                refine ok_ltI (av_mul tn_4 ix12 (by omega) (by omega)) (fun x53 ix53 => ?_)
                refine ok_ltI (av_mul tn_3 is20_1 (by omega) (by omega)) (fun x54 ix54 => ?_)
                refine ok_ltI (av_add ix54 tn_2 (by omega) (by omega)) (fun x55 ix55 => ?_)
                refine ok_chk (nxg (g_n (i := 144) (n := 6) ts20_2 (by decide) rfl) ix55 (by omega) (by omega)) ?_
                refine ok_ltA (fun x56 => ?_)
                refine ok_ltA (fun x57 => ?_)
                refine ok_bnd (Q := fun (z : Option Nat) => (∃ c, (c == 140 || c == 141) = true ∧ z = some c)) ?_ ?_
                · refine ok_if (fun c5 => ?_) (fun c5 => ?_)
                  · have dc5 := tl_eq is20_1 tn_0 c5
                    exact ok_some ⟨140, rfl, f_r (b := 140) ts20_2 rfl (by decide)⟩
                  · have dc5 := tl_ne is20_1 tn_0 c5
                    exact ok_some ⟨141, rfl, f_r (b := 141) ts20_2 rfl (by decide)⟩
                · intro y58 hyy58
                  obtain ⟨cy58, hcy58, ecy58⟩ := hyy58
                  refine ok_bnd (s_predictLuma ts20_2 eqc4 hqc4 (rfl : TI x52 x52.toInt) (rfl : TI x57 x57.toInt) i3 ecy58 hcy58 ix14 (by omega) (by omega) (by omega)) ?_
                  intro y59 hyy59
                  obtain ⟨ty59, gy59⟩ := hyy59
                  have fy59 := fr_tr fs20_2 gy59 rfl
                  refine ok_bnd (Q := fun (z : DD) => TT G z p 2 L ∧ Fr p [1] M z) ?_ ?_
                  · refine ok_if (fun c6 => ?_) (fun c6 => ?_)
                    · have dc6 := tl_eq (rfl : TI p4 p4.toInt) tn_0 c6
                      exact ok_some ⟨ty59, fy59⟩
                    · have dc6 := tl_ne (rfl : TI p4 p4.toInt) tn_0 c6
                      refine ok_ltI (av_div i3 tn_2 (by omega) (by omega)) (fun x62 ix62 => ?_)
                      refine ok_bnd (Q := fun (z : Option Nat) => (∃ c, (c == 140 || c == 141) = true ∧ z = some c)) ?_ ?_
                      · refine ok_if (fun c7 => ?_) (fun c7 => ?_)
                        · have dc7 := tl_eq is20_1 tn_0 c7
                          exact ok_some ⟨140, rfl, f_r (b := 140) ty59 rfl (by decide)⟩
                        · have dc7 := tl_ne is20_1 tn_0 c7
                          exact ok_some ⟨141, rfl, f_r (b := 141) ty59 rfl (by decide)⟩
                      · intro y63 hyy63
                        obtain ⟨cy63, hcy63, ecy63⟩ := hyy63
                        refine ok_bnd (s_predictColours ty59 eqc4 hqc4 (rfl : TI x52 x52.toInt) (rfl : TI x57 x57.toInt) ix62 ecy63 hcy63 ix18 (by omega) (by omega) (by omega)) ?_
                        intro y64 hyy64
                        obtain ⟨ty64, gy64⟩ := hyy64
                        have fy64 := fr_tr fy59 gy64 rfl
                        exact ok_some ⟨ty64, fy64⟩
                  · intro y60 hyy60
                    obtain ⟨ty60, fy60⟩ := hyy60
                    exact ok_some ⟨ty60, fy60⟩
            · intro y45 hyy45
              obtain ⟨ty45, fy45⟩ := hyy45
              refine ok_ltI (av_add is20_1 tn_1 (by omega) (by omega)) (fun x46 ix46 => ?_)
              exact ok_some ⟨⟨(ti_bd ix46 (by omega) (by omega)), ty45, fy45⟩, (mu_up ix46 (by omega) (by omega))⟩
      · exact ⟨(ti_bd tn_0 (by omega) (by omega)), ty2, fy2⟩
      · exact mu_0 tn_0 (by omega)
      · intro y19 hyy19
        obtain ⟨ly19_1, ty19_2, fy19_2⟩ := hyy19
        have iy19_1 : TI y19.1 y19.1.toInt := rfl
        refine ok_bnd (Q := fun (z : Int32 × DD) => (0 ≤ z.1.toInt ∧ z.1.toInt ≤ 3) ∧ TT G z.2 p 2 L ∧ Fr p [1] M z.2) (ok_itr (fun (z : Int32 × DD) => (0 ≤ z.1.toInt ∧ z.1.toInt ≤ 3) ∧ TT G z.2 p 2 L ∧ Fr p [1] M z.2) (fun z => (3 - z.1.toInt).toNat) ?_ _ _ ?_ ?_) ?_
        · intro s23 hys23
          obtain ⟨ls23_1, ts23_2, fs23_2⟩ := hys23
          have is23_1 : TI s23.1 s23.1.toInt := rfl
          refine ok_bnd (Q := fun (z : Int32) => (1 ≤ z.toInt ∧ z.toInt ≤ 3)) ?_ ?_
          · refine ok_if (fun c8 => ?_) (fun c8 => ?_)
            · have dc8 := tl_eq (rfl : TI p4 p4.toInt) tn_0 c8
              exact ok_some (ti_bd tn_1 (by omega) (by omega))
            · have dc8 := tl_ne (rfl : TI p4 p4.toInt) tn_0 c8
              exact ok_some (ti_bd tn_3 (by omega) (by omega))
          · intro y26 hyy26
            have ly26 := hyy26
            have iy26 : TI y26 y26.toInt := rfl
            refine ok_if (fun c9 => ?_) (fun c9 => ?_)
            · have dc9 := tl_le iy26 is23_1 c9
              exact ok_some ⟨(ti_bd is23_1 (by omega) (by omega)), ts23_2, fs23_2⟩
            · have dc9 := tl_nle iy26 is23_1 c9
              refine ok_bnd (s_chooseWeights ts23_2 rfl is23_1 (by omega) (by omega)) ?_
              intro y28 hyy28
              obtain ⟨ty28, gy28, _⟩ := hyy28
              have fy28 := fr_tr fs23_2 gy28 rfl
              refine ok_bnd (Q := fun (z : DD) => TT G z p 2 L ∧ Fr p [1] M z) ?_ ?_
              · refine ok_if (fun c10 => ?_) (fun c10 => ?_)
                · have dc10 := tl_eq is23_1 tn_0 c10
                  refine ok_bnd (s_blend ty28 ix14 tn_16 i3 (by omega) (by omega) (by omega) (by omega)) ?_
                  intro y37 hyy37
                  obtain ⟨ty37, gy37⟩ := hyy37
                  have fy37 := fr_tr fy28 gy37 rfl
                  exact ok_some ⟨ty37, fy37⟩
                · have dc10 := tl_ne is23_1 tn_0 c10
                  refine ok_ltI (av_sub is23_1 tn_1 (by omega) (by omega)) (fun x32 ix32 => ?_)
                  refine ok_ltI (av_mul tn_64 ix32 (by omega) (by omega)) (fun x33 ix33 => ?_)
                  refine ok_ltI (av_add ix18 ix33 (by omega) (by omega)) (fun x34 ix34 => ?_)
                  refine ok_ltI (av_div i3 tn_2 (by omega) (by omega)) (fun x35 ix35 => ?_)
                  refine ok_bnd (s_blend ty28 ix34 tn_8 ix35 (by omega) (by omega) (by omega) (by omega)) ?_
                  intro y36 hyy36
                  obtain ⟨ty36, gy36⟩ := hyy36
                  have fy36 := fr_tr fy28 gy36 rfl
                  exact ok_some ⟨ty36, fy36⟩
              · intro y29 hyy29
                obtain ⟨ty29, fy29⟩ := hyy29
                refine ok_ltI (av_add is23_1 tn_1 (by omega) (by omega)) (fun x30 ix30 => ?_)
                exact ok_some ⟨⟨(ti_bd ix30 (by omega) (by omega)), ty29, fy29⟩, (mu_up ix30 (by omega) (by omega))⟩
        · exact ⟨(ti_bd tn_0 (by omega) (by omega)), ty19_2, fy19_2⟩
        · exact mu_0 tn_0 (by omega)
        · intro y22 hyy22
          obtain ⟨ly22_1, ty22_2, fy22_2⟩ := hyy22
          have iy22_1 : TI y22.1 y22.1.toInt := rfl
          exact ok_some ⟨ty22_2, fy22_2⟩
    · refine ok_bnd (s_pieceX t i2 (by omega) (by omega)) ?_
      intro y1 hyy1
      obtain ⟨ty1, gy1, iy1⟩ := hyy1
      have fy1 := fr_tr (fr_0 p [1] M) gy1 rfl
      refine ok_bnd (s_pieceY ty1 i2 (by omega) (by omega)) ?_
      intro y2 hyy2
      obtain ⟨ty2, gy2, iy2⟩ := hyy2
      have fy2 := fr_tr fy1 gy2 rfl
      refine ok_dr rfl (g_lt ty2 (by decide)) (g_k ty2 (by decide) rfl) ?_
      refine ok_dr (tt_pic ty2) (by have q := (tt_q0b ty2 (tt_p ty2)); omega) (gk_0 ty2 (tt_p ty2)) ?_
      refine ok_ltI (tw_q ty2 (tt_p ty2)) (fun x5 ix5 => ?_)
      refine ok_chk (nz ix5 (by omega)) ?_
      refine ok_ltI (av_mod i1 ix5 (by omega) (by omega)) (fun x6 ix6 => ?_)
      refine ok_ltI (av_mul tn_16 ix6 (by omega) (by omega)) (fun x7 ix7 => ?_)
      refine ok_ltI (av_add ix7 iy1 (by omega) (by omega)) (fun x8 ix8 => ?_)
      refine ok_ltI (tw_q ty2 (tt_p ty2)) (fun x9 ix9 => ?_)
      refine ok_chk (nz ix9 (by omega)) ?_
      refine ok_ltI (av_div i1 ix9 (by omega) (by omega)) (fun x10 ix10 => ?_)
      refine ok_ltI (av_mul tn_16 ix10 (by omega) (by omega)) (fun x11 ix11 => ?_)
      refine ok_ltI (av_add ix11 iy2 (by omega) (by omega)) (fun x12 ix12 => ?_)
      refine ok_ltI (av_mul tn_16 iy2 (by omega) (by omega)) (fun x13 ix13 => ?_)
      refine ok_ltI (av_add ix13 iy1 (by omega) (by omega)) (fun x14 ix14 => ?_)
      refine ok_ltI (av_mul tn_4 iy2 (by omega) (by omega)) (fun x15 ix15 => ?_)
      refine ok_ltI (av_add tn_256 ix15 (by omega) (by omega)) (fun x16 ix16 => ?_)
      refine ok_ltI (av_div iy1 tn_2 (by omega) (by omega)) (fun x17 ix17 => ?_)
      refine ok_ltI (av_add ix16 ix17 (by omega) (by omega)) (fun x18 ix18 => ?_)
      refine ok_bnd (Q := fun (z : Int32 × DD) => (0 ≤ z.1.toInt ∧ z.1.toInt ≤ 2) ∧ TT G z.2 p 2 L ∧ Fr p [1] M z.2) (ok_itr (fun (z : Int32 × DD) => (0 ≤ z.1.toInt ∧ z.1.toInt ≤ 2) ∧ TT G z.2 p 2 L ∧ Fr p [1] M z.2) (fun z => (2 - z.1.toInt).toNat) ?_ _ _ ?_ ?_) ?_
      · intro s20 hys20
        obtain ⟨ls20_1, ts20_2, fs20_2⟩ := hys20
        have is20_1 : TI s20.1 s20.1.toInt := rfl
        refine ok_if (fun c1 => ?_) (fun c1 => ?_)
        · have dc1 := tl_le tn_2 is20_1 c1
          exact ok_some ⟨(ti_bd is20_1 (by omega) (by omega)), ts20_2, fs20_2⟩
        · have dc1 := tl_nle tn_2 is20_1 c1
          refine ok_ltI (av_mul tn_3 is20_1 (by omega) (by omega)) (fun x41 ix41 => ?_)
          refine ok_dr (f_r (b := 144) ts20_2 rfl (by decide)) (g_lt ts20_2 (by decide)) (g_k ts20_2 (by decide) rfl) ?_
          refine ok_chk (nxg (g_n (i := 144) (n := 6) ts20_2 (by decide) rfl) ix41 (by omega) (by omega)) ?_
          refine ok_ltB (ib_144 ts20_2 ix41 (by omega)) (fun x43 lx43 => ?_)
          have ix43 : TI x43 x43.toInt := rfl
          refine ok_bnd (Q := fun (z : Option Nat) => (z = none ∨ ∃ q, q ∈ L ∧ z = some q)) ?_ ?_
          · refine ok_if (fun c2 => ?_) (fun c2 => ?_)
            · have dc2 := tl_lt ix43 tn_0 c2
              exact ok_some (Or.inl rfl)
            · have dc2 := tl_nlt ix43 tn_0 c2
              refine ok_bnd (Q := fun (z : Option Nat) => (z = none ∨ ∃ q, q ∈ L ∧ z = some q)) ?_ ?_
              · refine ok_if (fun c3 => ?_) (fun c3 => ?_)
                · have dc3 := tl_le ix43 tn_8 c3
                  refine ok_ltI (av_mul tn_9 is20_1 (by omega) (by omega)) (fun x70 ix70 => ?_)
                  refine ok_ltI (av_add ix70 ix43 (by omega) (by omega)) (fun x71 ix71 => ?_)
                  refine ok_dr (f_r (b := 126) ts20_2 rfl (by decide)) (g_lt ts20_2 (by decide)) (g_k ts20_2 (by decide) rfl) ?_
                  refine ok_chk (nxg (g_n (i := 126) (n := 18) ts20_2 (by decide) rfl) ix71 (by omega) (by omega)) ?_
                  exact ok_some (tt_l7 ts20_2 _)
                · have dc3 := tl_nle ix43 tn_8 c3
                  exfalso
                  omega
              · intro y68 hyy68
                have oy68 := hyy68
                exact ok_some oy68
          · intro y44 hyy44
            have oy44 := hyy44
            refine ok_bnd (Q := fun (z : DD) => TT G z p 2 L ∧ Fr p [1] M z) ?_ ?_
            · refine ok_if (fun c4 => ?_) (fun c4 => ?_)
              · exact ok_some ⟨ts20_2, fs20_2⟩
              · obtain ⟨qc4, hqc4, eqc4⟩ := oj_ne oy44 c4
                refine ok_ltI (av_mul tn_4 ix8 (by omega) (by omega)) (fun x48 ix48 => ?_)
                refine ok_ltI (av_mul tn_3 is20_1 (by omega) (by omega)) (fun x49 ix49 => ?_)
                refine ok_ltI (av_add ix49 tn_1 (by omega) (by omega)) (fun x50 ix50 => ?_)
                refine ok_chk (nxg (g_n (i := 144) (n := 6) ts20_2 (by decide) rfl) ix50 (by omega) (by omega)) ?_
                refine ok_ltA (fun x51 => ?_)
                refine ok_ltA (fun x52 => ?_)
                refine ok_ltI (av_mul tn_4 ix12 (by omega) (by omega)) (fun x53 ix53 => ?_)
                refine ok_ltI (av_mul tn_3 is20_1 (by omega) (by omega)) (fun x54 ix54 => ?_)
                refine ok_ltI (av_add ix54 tn_2 (by omega) (by omega)) (fun x55 ix55 => ?_)
                refine ok_chk (nxg (g_n (i := 144) (n := 6) ts20_2 (by decide) rfl) ix55 (by omega) (by omega)) ?_
                refine ok_ltA (fun x56 => ?_)
                refine ok_ltA (fun x57 => ?_)
                refine ok_bnd (Q := fun (z : Option Nat) => (∃ c, (c == 140 || c == 141) = true ∧ z = some c)) ?_ ?_
                · refine ok_if (fun c5 => ?_) (fun c5 => ?_)
                  · have dc5 := tl_eq is20_1 tn_0 c5
                    exact ok_some ⟨140, rfl, f_r (b := 140) ts20_2 rfl (by decide)⟩
                  · have dc5 := tl_ne is20_1 tn_0 c5
                    exact ok_some ⟨141, rfl, f_r (b := 141) ts20_2 rfl (by decide)⟩
                · intro y58 hyy58
                  obtain ⟨cy58, hcy58, ecy58⟩ := hyy58
                  refine ok_bnd (s_predictLuma ts20_2 eqc4 hqc4 (rfl : TI x52 x52.toInt) (rfl : TI x57 x57.toInt) i3 ecy58 hcy58 ix14 (by omega) (by omega) (by omega)) ?_
                  intro y59 hyy59
                  obtain ⟨ty59, gy59⟩ := hyy59
                  have fy59 := fr_tr fs20_2 gy59 rfl
                  refine ok_bnd (Q := fun (z : DD) => TT G z p 2 L ∧ Fr p [1] M z) ?_ ?_
                  · refine ok_if (fun c6 => ?_) (fun c6 => ?_)
                    · have dc6 := tl_eq (rfl : TI p4 p4.toInt) tn_0 c6
                      exact ok_some ⟨ty59, fy59⟩
                    · have dc6 := tl_ne (rfl : TI p4 p4.toInt) tn_0 c6
                      refine ok_ltI (av_div i3 tn_2 (by omega) (by omega)) (fun x62 ix62 => ?_)
                      refine ok_bnd (Q := fun (z : Option Nat) => (∃ c, (c == 140 || c == 141) = true ∧ z = some c)) ?_ ?_
                      · refine ok_if (fun c7 => ?_) (fun c7 => ?_)
                        · have dc7 := tl_eq is20_1 tn_0 c7
                          exact ok_some ⟨140, rfl, f_r (b := 140) ty59 rfl (by decide)⟩
                        · have dc7 := tl_ne is20_1 tn_0 c7
                          exact ok_some ⟨141, rfl, f_r (b := 141) ty59 rfl (by decide)⟩
                      · intro y63 hyy63
                        obtain ⟨cy63, hcy63, ecy63⟩ := hyy63
                        refine ok_bnd (s_predictColours ty59 eqc4 hqc4 (rfl : TI x52 x52.toInt) (rfl : TI x57 x57.toInt) ix62 ecy63 hcy63 ix18 (by omega) (by omega) (by omega)) ?_
                        intro y64 hyy64
                        obtain ⟨ty64, gy64⟩ := hyy64
                        have fy64 := fr_tr fy59 gy64 rfl
                        exact ok_some ⟨ty64, fy64⟩
                  · intro y60 hyy60
                    obtain ⟨ty60, fy60⟩ := hyy60
                    exact ok_some ⟨ty60, fy60⟩
            · intro y45 hyy45
              obtain ⟨ty45, fy45⟩ := hyy45
              refine ok_ltI (av_add is20_1 tn_1 (by omega) (by omega)) (fun x46 ix46 => ?_)
              exact ok_some ⟨⟨(ti_bd ix46 (by omega) (by omega)), ty45, fy45⟩, (mu_up ix46 (by omega) (by omega))⟩
      · exact ⟨(ti_bd tn_0 (by omega) (by omega)), ty2, fy2⟩
      · exact mu_0 tn_0 (by omega)
      · intro y19 hyy19
        obtain ⟨ly19_1, ty19_2, fy19_2⟩ := hyy19
        have iy19_1 : TI y19.1 y19.1.toInt := rfl
        refine ok_bnd (Q := fun (z : Int32 × DD) => (0 ≤ z.1.toInt ∧ z.1.toInt ≤ 3) ∧ TT G z.2 p 2 L ∧ Fr p [1] M z.2) (ok_itr (fun (z : Int32 × DD) => (0 ≤ z.1.toInt ∧ z.1.toInt ≤ 3) ∧ TT G z.2 p 2 L ∧ Fr p [1] M z.2) (fun z => (3 - z.1.toInt).toNat) ?_ _ _ ?_ ?_) ?_
        · intro s23 hys23
          obtain ⟨ls23_1, ts23_2, fs23_2⟩ := hys23
          have is23_1 : TI s23.1 s23.1.toInt := rfl
          refine ok_bnd (Q := fun (z : Int32) => (1 ≤ z.toInt ∧ z.toInt ≤ 3)) ?_ ?_
          · refine ok_if (fun c8 => ?_) (fun c8 => ?_)
            · have dc8 := tl_eq (rfl : TI p4 p4.toInt) tn_0 c8
              exact ok_some (ti_bd tn_1 (by omega) (by omega))
            · have dc8 := tl_ne (rfl : TI p4 p4.toInt) tn_0 c8
              exact ok_some (ti_bd tn_3 (by omega) (by omega))
          · intro y26 hyy26
            have ly26 := hyy26
            have iy26 : TI y26 y26.toInt := rfl
            refine ok_if (fun c9 => ?_) (fun c9 => ?_)
            · have dc9 := tl_le iy26 is23_1 c9
              exact ok_some ⟨(ti_bd is23_1 (by omega) (by omega)), ts23_2, fs23_2⟩
            · have dc9 := tl_nle iy26 is23_1 c9
              refine ok_bnd (s_chooseWeights ts23_2 rfl is23_1 (by omega) (by omega)) ?_
              intro y28 hyy28
              obtain ⟨ty28, gy28, _⟩ := hyy28
              have fy28 := fr_tr fs23_2 gy28 rfl
              refine ok_bnd (Q := fun (z : DD) => TT G z p 2 L ∧ Fr p [1] M z) ?_ ?_
              · refine ok_if (fun c10 => ?_) (fun c10 => ?_)
                · have dc10 := tl_eq is23_1 tn_0 c10
                  refine ok_bnd (s_blend ty28 ix14 tn_16 i3 (by omega) (by omega) (by omega) (by omega)) ?_
                  intro y37 hyy37
                  obtain ⟨ty37, gy37⟩ := hyy37
                  have fy37 := fr_tr fy28 gy37 rfl
                  exact ok_some ⟨ty37, fy37⟩
                · have dc10 := tl_ne is23_1 tn_0 c10
                  refine ok_ltI (av_sub is23_1 tn_1 (by omega) (by omega)) (fun x32 ix32 => ?_)
                  refine ok_ltI (av_mul tn_64 ix32 (by omega) (by omega)) (fun x33 ix33 => ?_)
                  refine ok_ltI (av_add ix18 ix33 (by omega) (by omega)) (fun x34 ix34 => ?_)
                  refine ok_ltI (av_div i3 tn_2 (by omega) (by omega)) (fun x35 ix35 => ?_)
                  refine ok_bnd (s_blend ty28 ix34 tn_8 ix35 (by omega) (by omega) (by omega) (by omega)) ?_
                  intro y36 hyy36
                  obtain ⟨ty36, gy36⟩ := hyy36
                  have fy36 := fr_tr fy28 gy36 rfl
                  exact ok_some ⟨ty36, fy36⟩
              · intro y29 hyy29
                obtain ⟨ty29, fy29⟩ := hyy29
                refine ok_ltI (av_add is23_1 tn_1 (by omega) (by omega)) (fun x30 ix30 => ?_)
                exact ok_some ⟨⟨(ti_bd ix30 (by omega) (by omega)), ty29, fy29⟩, (mu_up ix30 (by omega) (by omega))⟩
        · exact ⟨(ti_bd tn_0 (by omega) (by omega)), ty19_2, fy19_2⟩
        · exact mu_0 tn_0 (by omega)
        · intro y22 hyy22
          obtain ⟨ly22_1, ty22_2, fy22_2⟩ := hyy22
          have iy22_1 : TI y22.1 y22.1.toInt := rfl
          exact ok_some ⟨ty22_2, fy22_2⟩
    · refine ok_bnd (s_pieceX t i2 (by omega) (by omega)) ?_
      intro y1 hyy1
      obtain ⟨ty1, gy1, iy1⟩ := hyy1
      have fy1 := fr_tr (fr_0 p [1] M) gy1 rfl
      refine ok_bnd (s_pieceY ty1 i2 (by omega) (by omega)) ?_
      intro y2 hyy2
      obtain ⟨ty2, gy2, iy2⟩ := hyy2
      have fy2 := fr_tr fy1 gy2 rfl
      refine ok_dr rfl (g_lt ty2 (by decide)) (g_k ty2 (by decide) rfl) ?_
      refine ok_dr (tt_pic ty2) (by have q := (tt_q0b ty2 (tt_p ty2)); omega) (gk_0 ty2 (tt_p ty2)) ?_
      refine ok_ltI (tw_q ty2 (tt_p ty2)) (fun x5 ix5 => ?_)
      refine ok_chk (nz ix5 (by omega)) ?_
      refine ok_ltI (av_mod i1 ix5 (by omega) (by omega)) (fun x6 ix6 => ?_)
      refine ok_ltI (av_mul tn_16 ix6 (by omega) (by omega)) (fun x7 ix7 => ?_)
      refine ok_ltI (av_add ix7 iy1 (by omega) (by omega)) (fun x8 ix8 => ?_)
      refine ok_ltI (tw_q ty2 (tt_p ty2)) (fun x9 ix9 => ?_)
      refine ok_chk (nz ix9 (by omega)) ?_
      refine ok_ltI (av_div i1 ix9 (by omega) (by omega)) (fun x10 ix10 => ?_)
      refine ok_ltI (av_mul tn_16 ix10 (by omega) (by omega)) (fun x11 ix11 => ?_)
      refine ok_ltI (av_add ix11 iy2 (by omega) (by omega)) (fun x12 ix12 => ?_)
      refine ok_ltI (av_mul tn_16 iy2 (by omega) (by omega)) (fun x13 ix13 => ?_)
      refine ok_ltI (av_add ix13 iy1 (by omega) (by omega)) (fun x14 ix14 => ?_)
      refine ok_ltI (av_mul tn_4 iy2 (by omega) (by omega)) (fun x15 ix15 => ?_)
      refine ok_ltI (av_add tn_256 ix15 (by omega) (by omega)) (fun x16 ix16 => ?_)
      refine ok_ltI (av_div iy1 tn_2 (by omega) (by omega)) (fun x17 ix17 => ?_)
      refine ok_ltI (av_add ix16 ix17 (by omega) (by omega)) (fun x18 ix18 => ?_)
      refine ok_bnd (Q := fun (z : Int32 × DD) => (0 ≤ z.1.toInt ∧ z.1.toInt ≤ 2) ∧ TT G z.2 p 2 L ∧ Fr p [1] M z.2) (ok_itr (fun (z : Int32 × DD) => (0 ≤ z.1.toInt ∧ z.1.toInt ≤ 2) ∧ TT G z.2 p 2 L ∧ Fr p [1] M z.2) (fun z => (2 - z.1.toInt).toNat) ?_ _ _ ?_ ?_) ?_
      · intro s20 hys20
        obtain ⟨ls20_1, ts20_2, fs20_2⟩ := hys20
        have is20_1 : TI s20.1 s20.1.toInt := rfl
        refine ok_if (fun c1 => ?_) (fun c1 => ?_)
        · have dc1 := tl_le tn_2 is20_1 c1
          exact ok_some ⟨(ti_bd is20_1 (by omega) (by omega)), ts20_2, fs20_2⟩
        · have dc1 := tl_nle tn_2 is20_1 c1
          refine ok_ltI (av_mul tn_3 is20_1 (by omega) (by omega)) (fun x41 ix41 => ?_)
          refine ok_dr (f_r (b := 144) ts20_2 rfl (by decide)) (g_lt ts20_2 (by decide)) (g_k ts20_2 (by decide) rfl) ?_
          refine ok_chk (nxg (g_n (i := 144) (n := 6) ts20_2 (by decide) rfl) ix41 (by omega) (by omega)) ?_
          refine ok_ltB (ib_144 ts20_2 ix41 (by omega)) (fun x43 lx43 => ?_)
          have ix43 : TI x43 x43.toInt := rfl
          refine ok_bnd (Q := fun (z : Option Nat) => (z = none ∨ ∃ q, q ∈ L ∧ z = some q)) ?_ ?_
          · refine ok_if (fun c2 => ?_) (fun c2 => ?_)
            · have dc2 := tl_lt ix43 tn_0 c2
              exact ok_some (Or.inl rfl)
            · have dc2 := tl_nlt ix43 tn_0 c2
              refine ok_bnd (Q := fun (z : Option Nat) => (z = none ∨ ∃ q, q ∈ L ∧ z = some q)) ?_ ?_
              · refine ok_if (fun c3 => ?_) (fun c3 => ?_)
                · have dc3 := tl_le ix43 tn_8 c3
                  refine ok_ltI (av_mul tn_9 is20_1 (by omega) (by omega)) (fun x70 ix70 => ?_)
                  refine ok_ltI (av_add ix70 ix43 (by omega) (by omega)) (fun x71 ix71 => ?_)
                  refine ok_dr (f_r (b := 126) ts20_2 rfl (by decide)) (g_lt ts20_2 (by decide)) (g_k ts20_2 (by decide) rfl) ?_
                  refine ok_chk (nxg (g_n (i := 126) (n := 18) ts20_2 (by decide) rfl) ix71 (by omega) (by omega)) ?_
                  exact ok_some (tt_l7 ts20_2 _)
                · have dc3 := tl_nle ix43 tn_8 c3
                  exfalso
                  omega
              · intro y68 hyy68
                have oy68 := hyy68
                exact ok_some oy68
          · intro y44 hyy44
            have oy44 := hyy44
            refine ok_bnd (Q := fun (z : DD) => TT G z p 2 L ∧ Fr p [1] M z) ?_ ?_
            · refine ok_if (fun c4 => ?_) (fun c4 => ?_)
              · exact ok_some ⟨ts20_2, fs20_2⟩
              · obtain ⟨qc4, hqc4, eqc4⟩ := oj_ne oy44 c4
                refine ok_ltI (av_mul tn_4 ix8 (by omega) (by omega)) (fun x48 ix48 => ?_)
                refine ok_ltI (av_mul tn_3 is20_1 (by omega) (by omega)) (fun x49 ix49 => ?_)
                refine ok_ltI (av_add ix49 tn_1 (by omega) (by omega)) (fun x50 ix50 => ?_)
                refine ok_chk (nxg (g_n (i := 144) (n := 6) ts20_2 (by decide) rfl) ix50 (by omega) (by omega)) ?_
                refine ok_ltA (fun x51 => ?_)
                refine ok_ltA (fun x52 => ?_)
                refine ok_ltI (av_mul tn_4 ix12 (by omega) (by omega)) (fun x53 ix53 => ?_)
                refine ok_ltI (av_mul tn_3 is20_1 (by omega) (by omega)) (fun x54 ix54 => ?_)
                refine ok_ltI (av_add ix54 tn_2 (by omega) (by omega)) (fun x55 ix55 => ?_)
                refine ok_chk (nxg (g_n (i := 144) (n := 6) ts20_2 (by decide) rfl) ix55 (by omega) (by omega)) ?_
                refine ok_ltA (fun x56 => ?_)
                refine ok_ltA (fun x57 => ?_)
                refine ok_bnd (Q := fun (z : Option Nat) => (∃ c, (c == 140 || c == 141) = true ∧ z = some c)) ?_ ?_
                · refine ok_if (fun c5 => ?_) (fun c5 => ?_)
                  · have dc5 := tl_eq is20_1 tn_0 c5
                    exact ok_some ⟨140, rfl, f_r (b := 140) ts20_2 rfl (by decide)⟩
                  · have dc5 := tl_ne is20_1 tn_0 c5
                    exact ok_some ⟨141, rfl, f_r (b := 141) ts20_2 rfl (by decide)⟩
                · intro y58 hyy58
                  obtain ⟨cy58, hcy58, ecy58⟩ := hyy58
                  refine ok_bnd (s_predictLuma ts20_2 eqc4 hqc4 (rfl : TI x52 x52.toInt) (rfl : TI x57 x57.toInt) i3 ecy58 hcy58 ix14 (by omega) (by omega) (by omega)) ?_
                  intro y59 hyy59
                  obtain ⟨ty59, gy59⟩ := hyy59
                  have fy59 := fr_tr fs20_2 gy59 rfl
                  refine ok_bnd (Q := fun (z : DD) => TT G z p 2 L ∧ Fr p [1] M z) ?_ ?_
                  · refine ok_if (fun c6 => ?_) (fun c6 => ?_)
                    · have dc6 := tl_eq (rfl : TI p4 p4.toInt) tn_0 c6
                      exact ok_some ⟨ty59, fy59⟩
                    · have dc6 := tl_ne (rfl : TI p4 p4.toInt) tn_0 c6
                      refine ok_ltI (av_div i3 tn_2 (by omega) (by omega)) (fun x62 ix62 => ?_)
                      refine ok_bnd (Q := fun (z : Option Nat) => (∃ c, (c == 140 || c == 141) = true ∧ z = some c)) ?_ ?_
                      · refine ok_if (fun c7 => ?_) (fun c7 => ?_)
                        · have dc7 := tl_eq is20_1 tn_0 c7
                          exact ok_some ⟨140, rfl, f_r (b := 140) ty59 rfl (by decide)⟩
                        · have dc7 := tl_ne is20_1 tn_0 c7
                          exact ok_some ⟨141, rfl, f_r (b := 141) ty59 rfl (by decide)⟩
                      · intro y63 hyy63
                        obtain ⟨cy63, hcy63, ecy63⟩ := hyy63
                        refine ok_bnd (s_predictColours ty59 eqc4 hqc4 (rfl : TI x52 x52.toInt) (rfl : TI x57 x57.toInt) ix62 ecy63 hcy63 ix18 (by omega) (by omega) (by omega)) ?_
                        intro y64 hyy64
                        obtain ⟨ty64, gy64⟩ := hyy64
                        have fy64 := fr_tr fy59 gy64 rfl
                        exact ok_some ⟨ty64, fy64⟩
                  · intro y60 hyy60
                    obtain ⟨ty60, fy60⟩ := hyy60
                    exact ok_some ⟨ty60, fy60⟩
            · intro y45 hyy45
              obtain ⟨ty45, fy45⟩ := hyy45
              refine ok_ltI (av_add is20_1 tn_1 (by omega) (by omega)) (fun x46 ix46 => ?_)
              exact ok_some ⟨⟨(ti_bd ix46 (by omega) (by omega)), ty45, fy45⟩, (mu_up ix46 (by omega) (by omega))⟩
      · exact ⟨(ti_bd tn_0 (by omega) (by omega)), ty2, fy2⟩
      · exact mu_0 tn_0 (by omega)
      · intro y19 hyy19
        obtain ⟨ly19_1, ty19_2, fy19_2⟩ := hyy19
        have iy19_1 : TI y19.1 y19.1.toInt := rfl
        refine ok_bnd (Q := fun (z : Int32 × DD) => (0 ≤ z.1.toInt ∧ z.1.toInt ≤ 3) ∧ TT G z.2 p 2 L ∧ Fr p [1] M z.2) (ok_itr (fun (z : Int32 × DD) => (0 ≤ z.1.toInt ∧ z.1.toInt ≤ 3) ∧ TT G z.2 p 2 L ∧ Fr p [1] M z.2) (fun z => (3 - z.1.toInt).toNat) ?_ _ _ ?_ ?_) ?_
        · intro s23 hys23
          obtain ⟨ls23_1, ts23_2, fs23_2⟩ := hys23
          have is23_1 : TI s23.1 s23.1.toInt := rfl
          refine ok_bnd (Q := fun (z : Int32) => (1 ≤ z.toInt ∧ z.toInt ≤ 3)) ?_ ?_
          · refine ok_if (fun c8 => ?_) (fun c8 => ?_)
            · have dc8 := tl_eq (rfl : TI p4 p4.toInt) tn_0 c8
              exact ok_some (ti_bd tn_1 (by omega) (by omega))
            · have dc8 := tl_ne (rfl : TI p4 p4.toInt) tn_0 c8
              exact ok_some (ti_bd tn_3 (by omega) (by omega))
          · intro y26 hyy26
            have ly26 := hyy26
            have iy26 : TI y26 y26.toInt := rfl
            refine ok_if (fun c9 => ?_) (fun c9 => ?_)
            · have dc9 := tl_le iy26 is23_1 c9
              exact ok_some ⟨(ti_bd is23_1 (by omega) (by omega)), ts23_2, fs23_2⟩
            · have dc9 := tl_nle iy26 is23_1 c9
              refine ok_bnd (s_chooseWeights ts23_2 rfl is23_1 (by omega) (by omega)) ?_
              intro y28 hyy28
              obtain ⟨ty28, gy28, _⟩ := hyy28
              have fy28 := fr_tr fs23_2 gy28 rfl
              refine ok_bnd (Q := fun (z : DD) => TT G z p 2 L ∧ Fr p [1] M z) ?_ ?_
              · refine ok_if (fun c10 => ?_) (fun c10 => ?_)
                · have dc10 := tl_eq is23_1 tn_0 c10
                  refine ok_bnd (s_blend ty28 ix14 tn_16 i3 (by omega) (by omega) (by omega) (by omega)) ?_
                  intro y37 hyy37
                  obtain ⟨ty37, gy37⟩ := hyy37
                  have fy37 := fr_tr fy28 gy37 rfl
                  exact ok_some ⟨ty37, fy37⟩
                · have dc10 := tl_ne is23_1 tn_0 c10
                  refine ok_ltI (av_sub is23_1 tn_1 (by omega) (by omega)) (fun x32 ix32 => ?_)
                  refine ok_ltI (av_mul tn_64 ix32 (by omega) (by omega)) (fun x33 ix33 => ?_)
                  refine ok_ltI (av_add ix18 ix33 (by omega) (by omega)) (fun x34 ix34 => ?_)
                  refine ok_ltI (av_div i3 tn_2 (by omega) (by omega)) (fun x35 ix35 => ?_)
                  refine ok_bnd (s_blend ty28 ix34 tn_8 ix35 (by omega) (by omega) (by omega) (by omega)) ?_
                  intro y36 hyy36
                  obtain ⟨ty36, gy36⟩ := hyy36
                  have fy36 := fr_tr fy28 gy36 rfl
                  exact ok_some ⟨ty36, fy36⟩
              · intro y29 hyy29
                obtain ⟨ty29, fy29⟩ := hyy29
                refine ok_ltI (av_add is23_1 tn_1 (by omega) (by omega)) (fun x30 ix30 => ?_)
                exact ok_some ⟨⟨(ti_bd ix30 (by omega) (by omega)), ty29, fy29⟩, (mu_up ix30 (by omega) (by omega))⟩
        · exact ⟨(ti_bd tn_0 (by omega) (by omega)), ty19_2, fy19_2⟩
        · exact mu_0 tn_0 (by omega)
        · intro y22 hyy22
          obtain ⟨ly22_1, ty22_2, fy22_2⟩ := hyy22
          have iy22_1 : TI y22.1 y22.1.toInt := rfl
          exact ok_some ⟨ty22_2, fy22_2⟩
theorem s_predictByLists {G : GG} {M : DD} {p : Nat} {w : Int} {L : List Nat} (t : TT G M p w L) {p0 : Option Nat} (e0 : p0 = some 125) {p1 : Int32} {a1 : Int} (i1 : TI p1 a1) (h0 : 0 ≤ a1) (h1 : a1 < 2 * w) : OK (FX6_predictByLists G M 138 p0 p1) (fun y => TT G y p w L ∧ Fr p [1] M y) := by
  unfold FX6_predictByLists
  subst e0
  have hw12 : 1 ≤ w ∧ w ≤ 2 := by rcases tt_w t with h | h <;> omega
  refine ok_bnd (Q := fun (z : Int32 × Int32 × DD) => True ∧ (1 ≤ z.2.1.toInt ∧ z.2.1.toInt ≤ 16) ∧ TT G z.2.2 p w L ∧ Fr p [1] M z.2.2) (ok_itr (fun (z : Int32 × Int32 × DD) => True ∧ (1 ≤ z.2.1.toInt ∧ z.2.1.toInt ≤ 16) ∧ TT G z.2.2 p w L ∧ Fr p [1] M z.2.2) (fun z => (16 - z.2.1.toInt).toNat) ?_ _ _ ?_ ?_) ?_
  · intro s2 hys2
    obtain ⟨_, ls2_2_1, ts2_2_2, fs2_2_2⟩ := hys2
    have is2_2_1 : TI s2.2.1 s2.2.1.toInt := rfl
    refine ok_if (fun c1 => ?_) (fun c1 => ?_)
    · have dc1 := tl_le tn_16 is2_2_1 c1
      exact ok_some ⟨trivial, (ti_bd is2_2_1 (by omega) (by omega)), ts2_2_2, fs2_2_2⟩
    · have dc1 := tl_nle tn_16 is2_2_1 c1
      refine ok_if (fun c2 => ?_) (fun c2 => ?_)
      · have dc2 := tl_eq (rfl : TI s2.1 s2.1.toInt) tn_0 c2
        exact ok_some ⟨trivial, (ti_bd is2_2_1 (by omega) (by omega)), ts2_2_2, fs2_2_2⟩
      · have dc2 := tl_ne (rfl : TI s2.1 s2.1.toInt) tn_0 c2
        refine ok_dr rfl (g_lt ts2_2_2 (by decide)) (g_k ts2_2_2 (by decide) rfl) ?_
        refine ok_ltI (av_mul tn_16 i1 (by omega) (by omega)) (fun x53 ix53 => ?_)
        refine ok_ltI (av_mul tn_16 i1 (by omega) (by omega)) (fun x54 ix54 => ?_)
        refine ok_ltI (av_add ix54 is2_2_1 (by omega) (by omega)) (fun x55 ix55 => ?_)
        refine ok_dr (tt_pic ts2_2_2) (by have q := (tt_q0b ts2_2_2 (tt_p ts2_2_2)); omega) (gk_0 ts2_2_2 (tt_p ts2_2_2)) ?_
        refine ok_bnd (s_movesAlike ts2_2_2 (tt_p ts2_2_2) ix53 ix55 (by omega) (by omega) (by omega) (by omega)) ?_
        intro y57 hyy57
        obtain ⟨ty57, gy57, _⟩ := hyy57
        have fy57 := fr_tr fs2_2_2 gy57 rfl
        refine ok_ltI (av_add is2_2_1 tn_1 (by omega) (by omega)) (fun x58 ix58 => ?_)
        exact ok_some ⟨⟨trivial, (ti_bd ix58 (by omega) (by omega)), ty57, fy57⟩, (mu_up ix58 (by omega) (by omega))⟩
  · exact ⟨trivial, (ti_bd tn_1 (by omega) (by omega)), t, (fr_0 p [1] M)⟩
  · exact mu_0 tn_1 (by omega)
  · intro y1 hyy1
    obtain ⟨_, ly1_2_1, ty1_2_2, fy1_2_2⟩ := hyy1
    have iy1_2_1 : TI y1.2.1 y1.2.1.toInt := rfl
    refine ok_if (fun c3 => ?_) (fun c3 => ?_)
    · have dc3 := tl_eq (rfl : TI y1.1 y1.1.toInt) tn_0 c3
      refine ok_bnd (Q := fun (z : Int32 × DD) => (0 ≤ z.1.toInt ∧ z.1.toInt ≤ 4) ∧ TT G z.2 p w L ∧ Fr p [1] M z.2) (ok_itr (fun (z : Int32 × DD) => (0 ≤ z.1.toInt ∧ z.1.toInt ≤ 4) ∧ TT G z.2 p w L ∧ Fr p [1] M z.2) (fun z => (4 - z.1.toInt).toNat) ?_ _ _ ?_ ?_) ?_
      · intro s6 hys6
        obtain ⟨ls6_1, ts6_2, fs6_2⟩ := hys6
        have is6_1 : TI s6.1 s6.1.toInt := rfl
        refine ok_if (fun c4 => ?_) (fun c4 => ?_)
        · have dc4 := tl_le tn_4 is6_1 c4
          exact ok_some ⟨(ti_bd is6_1 (by omega) (by omega)), ts6_2, fs6_2⟩
        · have dc4 := tl_nle tn_4 is6_1 c4
          refine ok_ltI (av_mul tn_16 i1 (by omega) (by omega)) (fun x10 ix10 => ?_)
          refine ok_ltI (av_mul tn_4 is6_1 (by omega) (by omega)) (fun x11 ix11 => ?_)
          refine ok_ltI (av_add ix10 ix11 (by omega) (by omega)) (fun x12 ix12 => ?_)
          refine ok_dr rfl (g_lt ts6_2 (by decide)) (g_k ts6_2 (by decide) rfl) ?_
          refine ok_ltI (av_add ix12 tn_1 (by omega) (by omega)) (fun x14 ix14 => ?_)
          refine ok_dr (tt_pic ts6_2) (by have q := (tt_q0b ts6_2 (tt_p ts6_2)); omega) (gk_0 ts6_2 (tt_p ts6_2)) ?_
          refine ok_bnd (s_movesAlike ts6_2 (tt_p ts6_2) ix12 ix14 (by omega) (by omega) (by omega) (by omega)) ?_
          intro y16 hyy16
          obtain ⟨ty16, gy16, _⟩ := hyy16
          have fy16 := fr_tr fs6_2 gy16 rfl
          refine ok_bnd (Q := fun (z : Int32 × DD) => (0 ≤ z.1.toInt ∧ z.1.toInt ≤ 1) ∧ TT G z.2 p w L ∧ Fr p [1] M z.2) ?_ ?_
          · refine ok_if (fun c5 => ?_) (fun c5 => ?_)
            · have dc5 := tl_eq (rfl : TI y16.2 y16.2.toInt) tn_0 c5
              exact ok_some ⟨(ti_bd tn_0 (by omega) (by omega)), ty16, fy16⟩
            · have dc5 := tl_ne (rfl : TI y16.2 y16.2.toInt) tn_0 c5
              refine ok_ltI (av_add ix12 tn_2 (by omega) (by omega)) (fun x35 ix35 => ?_)
              refine ok_dr (tt_pic ty16) (by have q := (tt_q0b ty16 (tt_p ty16)); omega) (gk_0 ty16 (tt_p ty16)) ?_
              refine ok_bnd (s_movesAlike ty16 (tt_p ty16) ix12 ix35 (by omega) (by omega) (by omega) (by omega)) ?_
              intro y37 hyy37
              obtain ⟨ty37, gy37, _⟩ := hyy37
              have fy37 := fr_tr fy16 gy37 rfl
              refine ok_bnd (Q := fun (z : Int32 × DD) => (0 ≤ z.1.toInt ∧ z.1.toInt ≤ 1) ∧ TT G z.2 p w L ∧ Fr p [1] M z.2) ?_ ?_
              · refine ok_if (fun c6 => ?_) (fun c6 => ?_)
                · have dc6 := tl_eq (rfl : TI y37.2 y37.2.toInt) tn_0 c6
                  exact ok_some ⟨(ti_bd tn_0 (by omega) (by omega)), ty37, fy37⟩
                · have dc6 := tl_ne (rfl : TI y37.2 y37.2.toInt) tn_0 c6
                  refine ok_ltI (av_add ix12 tn_3 (by omega) (by omega)) (fun x40 ix40 => ?_)
                  refine ok_dr (tt_pic ty37) (by have q := (tt_q0b ty37 (tt_p ty37)); omega) (gk_0 ty37 (tt_p ty37)) ?_
                  refine ok_bnd (s_movesAlike ty37 (tt_p ty37) ix12 ix40 (by omega) (by omega) (by omega) (by omega)) ?_
                  intro y42 hyy42
                  obtain ⟨ty42, gy42, _⟩ := hyy42
                  have fy42 := fr_tr fy37 gy42 rfl
                  refine ok_bnd (Q := fun (z : Int32) => (0 ≤ z.toInt ∧ z.toInt ≤ 1)) ?_ ?_
                  · refine ok_if (fun c7 => ?_) (fun c7 => ?_)
                    · have dc7 := tl_eq (rfl : TI y42.2 y42.2.toInt) tn_0 c7
                      exact ok_some (ti_bd tn_0 (by omega) (by omega))
                    · have dc7 := tl_ne (rfl : TI y42.2 y42.2.toInt) tn_0 c7
                      exact ok_some (ti_bd tn_1 (by omega) (by omega))
                  · intro y43 hyy43
                    have ly43 := hyy43
                    have iy43 : TI y43 y43.toInt := rfl
                    exact ok_some ⟨(ti_bd iy43 (by omega) (by omega)), ty42, fy42⟩
              · intro y38 hyy38
                obtain ⟨ly38_1, ty38_2, fy38_2⟩ := hyy38
                have iy38_1 : TI y38.1 y38.1.toInt := rfl
                exact ok_some ⟨(ti_bd iy38_1 (by omega) (by omega)), ty38_2, fy38_2⟩
          · intro y17 hyy17
            obtain ⟨ly17_1, ty17_2, fy17_2⟩ := hyy17
            have iy17_1 : TI y17.1 y17.1.toInt := rfl
            refine ok_bnd (Q := fun (z : Int32 × DD) => (0 ≤ z.1.toInt ∧ z.1.toInt ≤ 4) ∧ TT G z.2 p w L ∧ Fr p [1] M z.2) (ok_itr (fun (z : Int32 × DD) => (0 ≤ z.1.toInt ∧ z.1.toInt ≤ 4) ∧ TT G z.2 p w L ∧ Fr p [1] M z.2) (fun z => (4 - z.1.toInt).toNat) ?_ _ _ ?_ ?_) ?_
            · intro s19 hys19
              obtain ⟨ls19_1, ts19_2, fs19_2⟩ := hys19
              have is19_1 : TI s19.1 s19.1.toInt := rfl
              refine ok_bnd (Q := fun (z : Int32) => (1 ≤ z.toInt ∧ z.toInt ≤ 4) ∧ ((y17.1.toInt = 0 → z.toInt = 4) ∧ (y17.1.toInt ≠ 0 → z.toInt = 1))) ?_ ?_
              · refine ok_if (fun c8 => ?_) (fun c8 => ?_)
                · have dc8 := tl_eq iy17_1 tn_0 c8
                  exact ok_some ⟨(ti_bd tn_4 (by omega) (by omega)), (by have q : _ = _ := tn_4; (try dsimp only); omega)⟩
                · have dc8 := tl_ne iy17_1 tn_0 c8
                  exact ok_some ⟨(ti_bd tn_1 (by omega) (by omega)), (by have q : _ = _ := tn_1; (try dsimp only); omega)⟩
              · intro y23 hyy23
                obtain ⟨ly23, jy23⟩ := hyy23
                have iy23 : TI y23 y23.toInt := rfl
                refine ok_if (fun c9 => ?_) (fun c9 => ?_)
                · have dc9 := tl_le iy23 is19_1 c9
                  exact ok_some ⟨(ti_bd is19_1 (by omega) (by omega)), ts19_2, fs19_2⟩
                · have dc9 := tl_nle iy23 is19_1 c9
                  refine ok_ltI (av_add ix12 is19_1 (by omega) (by omega)) (fun x25 ix25 => ?_)
                  refine ok_bnd (s_takeMotion ts19_2 (tt_pic ts19_2) (tt_p ts19_2) ix25 (by omega) (by omega)) ?_
                  intro y26 hyy26
                  obtain ⟨ty26, gy26⟩ := hyy26
                  have fy26 := fr_tr fs19_2 gy26 rfl
                  refine ok_ltI (av_mul tn_4 is6_1 (by omega) (by omega)) (fun x27 ix27 => ?_)
                  refine ok_ltI (av_add ix27 is19_1 (by omega) (by omega)) (fun x28 ix28 => ?_)
                  refine ok_bnd (Q := fun (z : Int32) => (4 ≤ z.toInt ∧ z.toInt ≤ 8) ∧ ((y17.1.toInt = 0 → z.toInt = 4) ∧ (y17.1.toInt ≠ 0 → z.toInt = 8))) ?_ ?_
                  · refine ok_if (fun c10 => ?_) (fun c10 => ?_)
                    · have dc10 := tl_eq iy17_1 tn_0 c10
                      exact ok_some ⟨(ti_bd tn_4 (by omega) (by omega)), (by have q : _ = _ := tn_4; (try dsimp only); omega)⟩
                    · have dc10 := tl_ne iy17_1 tn_0 c10
                      exact ok_some ⟨(ti_bd tn_8 (by omega) (by omega)), (by have q : _ = _ := tn_8; (try dsimp only); omega)⟩
                  · intro y29 hyy29
                    obtain ⟨ly29, jy29⟩ := hyy29
                    have iy29 : TI y29 y29.toInt := rfl
                    refine ok_bnd (s_predictRegion ty26 rfl i1 ix28 iy29 (by omega) (by omega) (by omega) (by omega) (by omega)) ?_
                    intro y30 hyy30
                    obtain ⟨ty30, gy30⟩ := hyy30
                    have fy30 := fr_tr fy26 gy30 rfl
                    refine ok_ltI (av_add is19_1 tn_1 (by omega) (by omega)) (fun x31 ix31 => ?_)
                    exact ok_some ⟨⟨(ti_bd ix31 (by omega) (by omega)), ty30, fy30⟩, (mu_up ix31 (by omega) (by omega))⟩
            · exact ⟨(ti_bd tn_0 (by omega) (by omega)), ty17_2, fy17_2⟩
            · exact mu_0 tn_0 (by omega)
            · intro y18 hyy18
              obtain ⟨ly18_1, ty18_2, fy18_2⟩ := hyy18
              have iy18_1 : TI y18.1 y18.1.toInt := rfl
              refine ok_ltI (av_add is6_1 tn_1 (by omega) (by omega)) (fun x21 ix21 => ?_)
              exact ok_some ⟨⟨(ti_bd ix21 (by omega) (by omega)), ty18_2, fy18_2⟩, (mu_up ix21 (by omega) (by omega))⟩
      · exact ⟨(ti_bd tn_0 (by omega) (by omega)), ty1_2_2, fy1_2_2⟩
      · exact mu_0 tn_0 (by omega)
      · intro y5 hyy5
        obtain ⟨ly5_1, ty5_2, fy5_2⟩ := hyy5
        have iy5_1 : TI y5.1 y5.1.toInt := rfl
        exact ok_some ⟨ty5_2, fy5_2⟩
    · have dc3 := tl_ne (rfl : TI y1.1 y1.1.toInt) tn_0 c3
      refine ok_dr rfl (g_lt ty1_2_2 (by decide)) (g_k ty1_2_2 (by decide) rfl) ?_
      refine ok_ltI (av_mul tn_16 i1 (by omega) (by omega)) (fun x46 ix46 => ?_)
      refine ok_bnd (s_takeMotion ty1_2_2 (tt_pic ty1_2_2) (tt_p ty1_2_2) ix46 (by omega) (by omega)) ?_
      intro y47 hyy47
      obtain ⟨ty47, gy47⟩ := hyy47
      have fy47 := fr_tr fy1_2_2 gy47 rfl
      refine ok_bnd (s_predictRegion ty47 rfl i1 tn_0 tn_16 (by omega) (by omega) (by omega) (by omega) (by omega)) ?_
      intro y48 hyy48
      obtain ⟨ty48, gy48⟩ := hyy48
      have fy48 := fr_tr fy47 gy48 rfl
      exact ok_some ⟨ty48, fy48⟩
