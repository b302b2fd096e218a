/-! two runs in lockstep, printed out of the functions' trees -/
/-- how samples are blended, told by which references there are -/
def WAYP (w m0 m3 : Int) : Prop := ((w = 0 ∨ w = 3) → 0 ≤ m0 ∧ m3 < 0) ∧ ((w = 1 ∨ w = 4) → m0 < 0) ∧ ((w = 2 ∨ w = 5) → 0 ≤ m0 ∧ 0 ≤ m3)
theorem cw_f {m0 m3 r s y w : Int} (e0 : m0 = r) (e3 : m3 = s) (j : (y = 2 → 0 ≤ r ∧ 0 ≤ s) ∧ (y = 1 → r < 0) ∧ (y = 0 → 0 ≤ r ∧ s < 0) ∧ (y = 0 ∨ y = 1 ∨ y = 2)) (hw : w = y + 3 ∨ w = y) : (0 ≤ w ∧ w ≤ 5) ∧ WAYP w m0 m3 := by
  subst e0 e3
  unfold WAYP
  obtain ⟨j1, j2, j3, j4 | j4 | j4⟩ := j <;> rcases hw with hw | hw <;> refine ⟨by omega, fun h => ?_, fun h => ?_, fun h => ?_⟩ <;> first | exact j1 j4 | exact j2 j4 | exact j3 j4 | (exfalso; omega)
theorem cw_a {w m0 m3 n0 : Int} (p : WAYP w m0 m3) (e : m0 = n0) (hn : n0 < 0) : ¬ (w = 0 ∨ w = 2 ∨ w = 3 ∨ w = 5) := by
  subst e
  obtain ⟨p1, p2, p3⟩ := p
  intro h
  rcases h with h | h | h | h
  · have := (p1 (Or.inl h)).1; omega
  · have := (p3 (Or.inl h)).1; omega
  · have := (p1 (Or.inr h)).1; omega
  · have := (p3 (Or.inr h)).1; omega
theorem cw_b {w m0 m3 n0 n3 : Int} (p : WAYP w m0 m3) (e : m0 = n0) (e3 : m3 = n3) (h0 : 0 ≤ n0) (hn : n3 < 0) : ¬ (w = 1 ∨ w = 2 ∨ w = 4 ∨ w = 5) := by
  subst e e3
  obtain ⟨p1, p2, p3⟩ := p
  intro h
  rcases h with h | h | h | h
  · have := p2 (Or.inl h); omega
  · have := (p3 (Or.inl h)).2; omega
  · have := p2 (Or.inr h); omega
  · have := (p3 (Or.inr h)).2; omega
theorem cw_c {w m0 m3 n0 n3 : Int} (p : WAYP w m0 m3) (e : m0 = n0) (e3 : m3 = n3) (h0 : 0 ≤ n0) (hn : n3 < 0) : ¬ (w = 4 ∨ w = 5) := fun h => cw_b p e e3 h0 hn (Or.inr (Or.inr h))
theorem cw_9 {r s y w : Int} (j : (y = 2 → 0 ≤ r ∧ 0 ≤ s) ∧ (y = 1 → r < 0) ∧ (y = 0 → 0 ≤ r ∧ s < 0) ∧ (y = 0 ∨ y = 1 ∨ y = 2)) (hw : w = y + 3 ∨ w = y + 3) (h : w = 3 ∨ w = 5) : 0 ≤ r := by
  obtain ⟨j1, j2, j3, j4 | j4 | j4⟩ := j
  · exact (j3 j4).1
  · exfalso; omega
  · exact (j1 j4).1
theorem cw_n {r s y : Int} (j : (y = 2 → 0 ≤ r ∧ 0 ≤ s) ∧ (y = 1 → r < 0) ∧ (y = 0 → 0 ≤ r ∧ s < 0) ∧ (y = 0 ∨ y = 1 ∨ y = 2)) (a b : Int) (h : 3 ≤ a ∧ 3 ≤ b) : ¬ (y = a ∨ y = b) := by
  obtain ⟨j1, j2, j3, j4⟩ := j
  clear j1 j2 j3
  omega
theorem cw_m {r s y : Int} (j : (y = 2 → 0 ≤ r ∧ 0 ≤ s) ∧ (y = 1 → r < 0) ∧ (y = 0 → 0 ≤ r ∧ s < 0) ∧ (y = 0 ∨ y = 1 ∨ y = 2)) : ¬ 3 ≤ y := by
  obtain ⟨j1, j2, j3, j4⟩ := j
  clear j1 j2 j3
  omega
theorem r_chooseWeights {mu : Nat → Nat} {G H : GG} {M N : DD} {p : Nat} {L : List Nat} (t : CX mu G H M N p L) {p0 p0r : Option Nat} (e0 : p0 = some 125 ∧ p0r = some (mu 125)) {p1 : Int32} {a1 : Int} (i1 : TI p1 a1) (h0 : 0 ≤ a1) (h1 : a1 ≤ 2) (hm : WG mu M N 144 0 6 (fun j => j)) : LKS (FX6_chooseWeights G M 138 p0 p1) (FX6_chooseWeights H N (mu 138) p0r p1) (fun y z => Up mu 144 M N y.1 z.1 ∧ y.2 = z.2 ∧ ((0 ≤ y.2.toInt ∧ y.2.toInt ≤ 5) ∧ WAYP y.2.toInt (M.1 144 0).toInt (M.1 144 3).toInt) ∧ ((y.2.toInt = 3 ∨ y.2.toInt = 5) → Ag mu y.1 z.1 138 9) ∧ ((y.2.toInt = 3 ∨ y.2.toInt = 5) → Ag mu y.1 z.1 138 11) ∧ (((y.2.toInt = 4 ∨ y.2.toInt = 5) ∧ 0 ≤ (M.1 144 3).toInt) → Ag mu y.1 z.1 138 10) ∧ (((y.2.toInt = 4 ∨ y.2.toInt = 5) ∧ 0 ≤ (M.1 144 3).toInt) → Ag mu y.1 z.1 138 12) ∧ (3 ≤ y.2.toInt → Ag mu y.1 z.1 138 13)) := by
  unfold FX6_chooseWeights
  obtain ⟨rfl, rfl⟩ := e0
  refine rl_dr (cx_U t) ⟨rfl, rfl⟩ (fun gb2 => ?_)
  refine rl_dr (cx_U t) (rx_c (a := 138) (k := 5) (b := 144) t (Or.inr (Or.inl rfl)) rfl (by decide)) (fun gb3 => ?_)
  refine rl_chk (chkl (cx_U t) gb3) (fun k1 => ?_)
  refine rl_rdE (wg_at hm (0) (by omega) (by omega) rfl) (fun x4 ex4 => ?_)
  have mx4 : (M.1 144 0).toInt = x4.toInt := by rw [ex4]; rfl
  refine rl_chk (chkl (cx_U t) gb3) (fun k2 => ?_)
  refine rl_rdE (wg_at hm (3) (by omega) (by omega) rfl) (fun x5 ex5 => ?_)
  have mx5 : (M.1 144 3).toInt = x5.toInt := by rw [ex5]; rfl
  refine rl_bnd (Q := fun (y z : Int32) => y = z ∧ (0 ≤ y.toInt ∧ y.toInt ≤ 1) ∧ ((y.toInt = 0 ∨ y.toInt = 1) ∧ (y.toInt = 1 → 0 ≤ x4.toInt ∧ 0 ≤ x5.toInt) ∧ (y.toInt = 0 → x4.toInt < 0 ∨ x5.toInt < 0))) ?_ ?_
  · refine rl_if (fun c3 => ?_) (fun c3 => ?_)
    · have dc3 := tl_lt (rfl : TI x4 x4.toInt) tn_0 c3
      exact rl_some ⟨rfl, (ti_bd tn_0 (by omega) (by omega)), (by have q : _ = _ := tn_0; (try dsimp only) <;> omega)⟩
    · have dc3 := tl_nlt (rfl : TI x4 x4.toInt) tn_0 c3
      refine rl_bnd (Q := fun (y z : Int32) => y = z ∧ (0 ≤ y.toInt ∧ y.toInt ≤ 1) ∧ ((y.toInt = 0 ∨ y.toInt = 1) ∧ (y.toInt = 1 → 0 ≤ x4.toInt ∧ 0 ≤ x5.toInt) ∧ (y.toInt = 0 → x4.toInt < 0 ∨ x5.toInt < 0))) ?_ ?_
      · refine rl_if (fun c4 => ?_) (fun c4 => ?_)
        · have dc4 := tl_lt (rfl : TI x5 x5.toInt) tn_0 c4
          exact rl_some ⟨rfl, (ti_bd tn_0 (by omega) (by omega)), (by have q : _ = _ := tn_0; (try dsimp only) <;> omega)⟩
        · have dc4 := tl_nlt (rfl : TI x5 x5.toInt) tn_0 c4
          exact rl_some ⟨rfl, (ti_bd tn_1 (by omega) (by omega)), (by have q : _ = _ := tn_1; (try dsimp only) <;> omega)⟩
      · rintro y242 y242r ⟨ey242, ly242, jy242⟩
        obtain rfl : y242 = y242r := ey242
        have ly242 : 0 ≤ y242.toInt ∧ y242.toInt ≤ 1 := ly242
        have iy242 : TI y242 y242.toInt := rfl
        have jy242 : (y242.toInt = 0 ∨ y242.toInt = 1) ∧ (y242.toInt = 1 → 0 ≤ x4.toInt ∧ 0 ≤ x5.toInt) ∧ (y242.toInt = 0 → x4.toInt < 0 ∨ x5.toInt < 0) := jy242
        exact rl_some ⟨rfl, (ti_bd iy242 (by omega) (by omega)), (by have q : _ = _ := iy242; (try dsimp only) <;> omega)⟩
  · rintro y6 y6r ⟨ey6, ly6, jy6⟩
    obtain rfl : y6 = y6r := ey6
    have ly6 : 0 ≤ y6.toInt ∧ y6.toInt ≤ 1 := ly6
    have iy6 : TI y6 y6.toInt := rfl
    have jy6 : (y6.toInt = 0 ∨ y6.toInt = 1) ∧ (y6.toInt = 1 → 0 ≤ x4.toInt ∧ 0 ≤ x5.toInt) ∧ (y6.toInt = 0 → x4.toInt < 0 ∨ x5.toInt < 0) := jy6
    refine rl_dr (cx_U t) (rx_c (a := 125) (k := 1) (b := 215) t (Or.inl rfl) rfl (by decide)) (fun gb7 => ?_)
    refine rl_dr (cx_U t) (rx_c (a := 215) (k := 0) (b := 216) t (Or.inr (Or.inr (Or.inr rfl))) rfl (by decide)) (fun gb8 => ?_)
    refine rl_chk (chkl (cx_U t) gb8) (fun k5 => ?_)
    refine rl_rdE (cx_k (c := 216) (k := 1) t rfl) (fun x9 ex9 => ?_)
    refine rl_bnd (Q := fun (y z : Int32) => y = z ∧ (0 ≤ y.toInt ∧ y.toInt ≤ 1) ∧ ((x9.toInt = 1 → y.toInt = 1) ∧ (x9.toInt ≠ 1 → y.toInt = 0))) ?_ ?_
    · refine rl_if (fun c6 => ?_) (fun c6 => ?_)
      · have dc6 := tl_eq (rfl : TI x9 x9.toInt) tn_1 c6
        exact rl_some ⟨rfl, (ti_bd tn_1 (by omega) (by omega)), (by have q : _ = _ := tn_1; (try dsimp only) <;> omega)⟩
      · have dc6 := tl_ne (rfl : TI x9 x9.toInt) tn_1 c6
        exact rl_some ⟨rfl, (ti_bd tn_0 (by omega) (by omega)), (by have q : _ = _ := tn_0; (try dsimp only) <;> omega)⟩
    · rintro y10 y10r ⟨ey10, ly10, jy10⟩
      obtain rfl : y10 = y10r := ey10
      have ly10 : 0 ≤ y10.toInt ∧ y10.toInt ≤ 1 := ly10
      have iy10 : TI y10 y10.toInt := rfl
      have jy10 : (x9.toInt = 1 → y10.toInt = 1) ∧ (x9.toInt ≠ 1 → y10.toInt = 0) := jy10
      refine rl_bnd (Q := fun (y z : Int32) => y = z ∧ (0 ≤ y.toInt ∧ y.toInt ≤ 2) ∧ ((y.toInt = 2 → 0 ≤ x4.toInt ∧ 0 ≤ x5.toInt) ∧ (y.toInt = 1 → x4.toInt < 0) ∧ (y.toInt = 0 → 0 ≤ x4.toInt ∧ x5.toInt < 0) ∧ (y.toInt = 0 ∨ y.toInt = 1 ∨ y.toInt = 2))) ?_ ?_
      · refine rl_if (fun c7 => ?_) (fun c7 => ?_)
        · have dc7 := tl_eq iy6 tn_0 c7
          refine rl_bnd (Q := fun (y z : Int32) => y = z ∧ (0 ≤ y.toInt ∧ y.toInt ≤ 1) ∧ ((y.toInt = 2 → 0 ≤ x4.toInt ∧ 0 ≤ x5.toInt) ∧ (y.toInt = 1 → x4.toInt < 0) ∧ (y.toInt = 0 → 0 ≤ x4.toInt ∧ x5.toInt < 0) ∧ (y.toInt = 0 ∨ y.toInt = 1))) ?_ ?_
          · refine rl_if (fun c8 => ?_) (fun c8 => ?_)
            · have dc8 := tl_lt (rfl : TI x4 x4.toInt) tn_0 c8
              exact rl_some ⟨rfl, (ti_bd tn_1 (by omega) (by omega)), (by have q : _ = _ := tn_1; (try dsimp only) <;> omega)⟩
            · have dc8 := tl_nlt (rfl : TI x4 x4.toInt) tn_0 c8
              exact rl_some ⟨rfl, (ti_bd tn_0 (by omega) (by omega)), (by have q : _ = _ := tn_0; (try dsimp only) <;> omega)⟩
          · rintro y238 y238r ⟨ey238, ly238, jy238⟩
            obtain rfl : y238 = y238r := ey238
            have ly238 : 0 ≤ y238.toInt ∧ y238.toInt ≤ 1 := ly238
            have iy238 : TI y238 y238.toInt := rfl
            have jy238 : (y238.toInt = 2 → 0 ≤ x4.toInt ∧ 0 ≤ x5.toInt) ∧ (y238.toInt = 1 → x4.toInt < 0) ∧ (y238.toInt = 0 → 0 ≤ x4.toInt ∧ x5.toInt < 0) ∧ (y238.toInt = 0 ∨ y238.toInt = 1) := jy238
            exact rl_some ⟨rfl, (ti_bd iy238 (by omega) (by omega)), (by have q : _ = _ := iy238; (try dsimp only) <;> omega)⟩
        · have dc7 := tl_ne iy6 tn_0 c7
          exact rl_some ⟨rfl, (ti_bd tn_2 (by omega) (by omega)), (by have q : _ = _ := tn_2; (try dsimp only) <;> omega)⟩
      · rintro y11 y11r ⟨ey11, ly11, jy11⟩
        obtain rfl : y11 = y11r := ey11
        have ly11 : 0 ≤ y11.toInt ∧ y11.toInt ≤ 2 := ly11
        have iy11 : TI y11 y11.toInt := rfl
        have jy11 : (y11.toInt = 2 → 0 ≤ x4.toInt ∧ 0 ≤ x5.toInt) ∧ (y11.toInt = 1 → x4.toInt < 0) ∧ (y11.toInt = 0 → 0 ≤ x4.toInt ∧ x5.toInt < 0) ∧ (y11.toInt = 0 ∨ y11.toInt = 1 ∨ y11.toInt = 2) := jy11
        refine rl_if (fun c9 => ?_) (fun c9 => ?_)
        · have dc9 := tl_eq iy10 tn_0 c9
          refine rl_if (fun c10 => ?_) (fun c10 => ?_)
          · have dc10 := tl_eq iy10 tn_0 c10
            refine rl_dr (cx_U t) (rx_c (a := 125) (k := 2) (b := 220) t (Or.inl rfl) rfl (by decide)) (fun gb14 => ?_)
            refine rl_chk (chkl (cx_U t) gb14) (fun k11 => ?_)
            refine rl_rdE (cx_k (c := 220) (k := 5) t rfl) (fun x15 ex15 => ?_)
            refine rl_if (fun c12 => ?_) (fun c12 => ?_)
            · have dc12 := tl_eq (rfl : TI x15 x15.toInt) tn_0 c12
              exact rl_some ⟨(up_0 mu (κ := 144) _ _), rfl, (cw_f mx4 mx5 jy11 (Or.inr rfl)), (fun h => absurd h (cw_n jy11 3 5 (by omega))), (fun h => absurd h (cw_n jy11 3 5 (by omega))), (fun h => absurd h.1 (cw_n jy11 4 5 (by omega))), (fun h => absurd h.1 (cw_n jy11 4 5 (by omega))), (fun h => absurd h (cw_m jy11))⟩
            · have dc12 := tl_ne (rfl : TI x15 x15.toInt) tn_0 c12
              have hw1 : (M.1 216 1).toInt ≠ 1 := by have q : x9.toInt = (M.1 216 1).toInt := (by rw [ex9]; rfl); omega
              have hw2 : (M.1 220 5).toInt ≠ 0 := by have q : x15.toInt = (M.1 220 5).toInt := (by rw [ex15]; rfl); omega
              refine rl_bnd (Q := fun (y z : Int32) => y = z ∧ (22 ≤ y.toInt ∧ y.toInt ≤ 23)) ?_ ?_
              · refine rl_if (fun c13 => ?_) (fun c13 => ?_)
                · have dc13 := tl_eq i1 tn_0 c13
                  exact rl_some ⟨rfl, (ti_bd tn_22 (by omega) (by omega))⟩
                · have dc13 := tl_ne i1 tn_0 c13
                  exact rl_some ⟨rfl, (ti_bd tn_23 (by omega) (by omega))⟩
              · rintro y17 y17r ⟨ey17, ly17⟩
                obtain rfl : y17 = y17r := ey17
                have ly17 : 22 ≤ y17.toInt ∧ y17.toInt ≤ 23 := ly17
                have iy17 : TI y17 y17.toInt := rfl
                refine rl_chk (chkl (cx_U t) gb8) (fun k14 => ?_)
                refine rl_rd (cx_s t iy17 (by omega)) (fun x18 => ?_)
                refine rl_w (κ := 144) (cx_U t) (by decide) (fun M19 M19r uM19 AM19 nM19 => ?_)
                have tM19 := cx_up t uM19
                have wm_M19 := wg_up uM19 hm
                refine rl_bnd (Q := fun (y z : DD) => Up mu 144 M19 M19r y z ∧ ((0 ≤ x4.toInt) → Ag mu y z 138 9) ∧ ((0 ≤ x4.toInt) → Ag mu y z 138 11)) ?_ ?_
                · refine rl_if (fun c15 => ?_) (fun c15 => ?_)
                  · have dc15 := tl_lt (rfl : TI x4 x4.toInt) tn_0 c15
                    exact rl_some ⟨(up_0 mu (κ := 144) _ _), (fun h => by exfalso; omega), (fun h => by exfalso; omega)⟩
                  · have dc15 := tl_nlt (rfl : TI x4 x4.toInt) tn_0 c15
                    refine rl_bnd (r_weightAt tM19) ?_
                    rintro ⟨y34_1, y34_2⟩ ⟨y34_1r, y34_2r⟩ ⟨uy34_1', ey34_2⟩
                    have uy34_1 : Up mu 144 M19 M19r y34_1 y34_1r := uy34_1'
                    have ty34_1 := cx_up tM19 uy34_1
                    have wm_y34_1 := wg_up uy34_1 wm_M19
                    have wP138_13_y34_1 := ag_up uy34_1 AM19
                    obtain rfl : y34_2 = y34_2r := ey34_2
                    refine rl_dr (cx_U ty34_1) (rx_c (a := 215) (k := 3) (b := 219) tM19 (Or.inr (Or.inr (Or.inr rfl))) rfl (by decide)) (fun gb35 => ?_)
                    refine rl_chk (chkl (cx_U ty34_1) gb35) (fun k16 => ?_)
                    refine rl_rd (ag_up (up_tr uM19 uy34_1) (cx_w t hw1 hw2 _)) (fun x36 => ?_)
                    refine rl_w (κ := 144) (cx_U ty34_1) (by decide) (fun M37 M37r uM37 AM37 nM37 => ?_)
                    have tM37 := cx_up ty34_1 uM37
                    have wm_M37 := wg_up uM37 wm_y34_1
                    have wP138_13_M37 := ag_up uM37 wP138_13_y34_1
                    refine rl_bnd (r_weightAt tM37) ?_
                    rintro ⟨y38_1, y38_2⟩ ⟨y38_1r, y38_2r⟩ ⟨uy38_1', ey38_2⟩
                    have uy38_1 : Up mu 144 M37 M37r y38_1 y38_1r := uy38_1'
                    have ty38_1 := cx_up tM37 uy38_1
                    have wm_y38_1 := wg_up uy38_1 wm_M37
                    have wP138_13_y38_1 := ag_up uy38_1 wP138_13_M37
                    have wP138_9_y38_1 := ag_up uy38_1 AM37
                    obtain rfl : y38_2 = y38_2r := ey38_2
                    refine rl_ltA (fun x39 => ?_)
                    refine rl_dr (cx_U ty38_1) (rx_c (a := 215) (k := 3) (b := 219) tM37 (Or.inr (Or.inr (Or.inr rfl))) rfl (by decide)) (fun gb40 => ?_)
                    refine rl_chk (chkl (cx_U ty38_1) gb40) (fun k17 => ?_)
                    refine rl_rd (ag_up (up_tr (up_tr (up_tr uM19 uy34_1) uM37) uy38_1) (cx_w t hw1 hw2 _)) (fun x41 => ?_)
                    refine rl_w (κ := 144) (cx_U ty38_1) (by decide) (fun M42 M42r uM42 AM42 nM42 => ?_)
                    have tM42 := cx_up ty38_1 uM42
                    have wm_M42 := wg_up uM42 wm_y38_1
                    have wP138_13_M42 := ag_up uM42 wP138_13_y38_1
                    have wP138_9_M42 := ag_up uM42 wP138_9_y38_1
                    exact rl_some ⟨(up_tr (up_tr (up_tr uy34_1 uM37) uy38_1) uM42), (fun _ => wP138_9_M42), (fun _ => AM42)⟩
                · rintro y20 y20r ⟨uy20, wd9_y20', wd11_y20'⟩
                  have uy20 : Up mu 144 M19 M19r y20 y20r := uy20
                  have ty20 := cx_up tM19 uy20
                  have wm_y20 := wg_up uy20 wm_M19
                  have wP138_13_y20 := ag_up uy20 AM19
                  have wd9_y20 : (0 ≤ x4.toInt) → Ag mu y20 y20r 138 9 := wd9_y20'
                  have wd11_y20 : (0 ≤ x4.toInt) → Ag mu y20 y20r 138 11 := wd11_y20'
                  refine rl_bnd (Q := fun (y z : DD) => Up mu 144 y20 y20r y z ∧ ((0 ≤ x5.toInt) → Ag mu y z 138 10) ∧ ((0 ≤ x5.toInt) → Ag mu y z 138 12)) ?_ ?_
                  · refine rl_if (fun c18 => ?_) (fun c18 => ?_)
                    · have dc18 := tl_lt (rfl : TI x5 x5.toInt) tn_0 c18
                      exact rl_some ⟨(up_0 mu (κ := 144) _ _), (fun h => by exfalso; omega), (fun h => by exfalso; omega)⟩
                    · have dc18 := tl_nlt (rfl : TI x5 x5.toInt) tn_0 c18
                      refine rl_bnd (r_weightAt ty20) ?_
                      rintro ⟨y24_1, y24_2⟩ ⟨y24_1r, y24_2r⟩ ⟨uy24_1', ey24_2⟩
                      have uy24_1 : Up mu 144 y20 y20r y24_1 y24_1r := uy24_1'
                      have ty24_1 := cx_up ty20 uy24_1
                      have wm_y24_1 := wg_up uy24_1 wm_y20
                      have wP138_13_y24_1 := ag_up uy24_1 wP138_13_y20
                      have wd9_y24_1 := fun h => ag_up uy24_1 (wd9_y20 h)
                      have wd11_y24_1 := fun h => ag_up uy24_1 (wd11_y20 h)
                      obtain rfl : y24_2 = y24_2r := ey24_2
                      refine rl_dr (cx_U ty24_1) (rx_c (a := 215) (k := 3) (b := 219) ty20 (Or.inr (Or.inr (Or.inr rfl))) rfl (by decide)) (fun gb25 => ?_)
                      refine rl_chk (chkl (cx_U ty24_1) gb25) (fun k19 => ?_)
                      refine rl_rd (ag_up (up_tr (up_tr uM19 uy20) uy24_1) (cx_w t hw1 hw2 _)) (fun x26 => ?_)
                      refine rl_w (κ := 144) (cx_U ty24_1) (by decide) (fun M27 M27r uM27 AM27 nM27 => ?_)
                      have tM27 := cx_up ty24_1 uM27
                      have wm_M27 := wg_up uM27 wm_y24_1
                      have wP138_13_M27 := ag_up uM27 wP138_13_y24_1
                      have wd9_M27 := fun h => ag_up uM27 (wd9_y24_1 h)
                      have wd11_M27 := fun h => ag_up uM27 (wd11_y24_1 h)
                      refine rl_bnd (r_weightAt tM27) ?_
                      rintro ⟨y28_1, y28_2⟩ ⟨y28_1r, y28_2r⟩ ⟨uy28_1', ey28_2⟩
                      have uy28_1 : Up mu 144 M27 M27r y28_1 y28_1r := uy28_1'
                      have ty28_1 := cx_up tM27 uy28_1
                      have wm_y28_1 := wg_up uy28_1 wm_M27
                      have wP138_13_y28_1 := ag_up uy28_1 wP138_13_M27
                      have wd9_y28_1 := fun h => ag_up uy28_1 (wd9_M27 h)
                      have wd11_y28_1 := fun h => ag_up uy28_1 (wd11_M27 h)
                      have wP138_10_y28_1 := ag_up uy28_1 AM27
                      obtain rfl : y28_2 = y28_2r := ey28_2
                      refine rl_ltA (fun x29 => ?_)
                      refine rl_dr (cx_U ty28_1) (rx_c (a := 215) (k := 3) (b := 219) tM27 (Or.inr (Or.inr (Or.inr rfl))) rfl (by decide)) (fun gb30 => ?_)
                      refine rl_chk (chkl (cx_U ty28_1) gb30) (fun k20 => ?_)
                      refine rl_rd (ag_up (up_tr (up_tr (up_tr (up_tr uM19 uy20) uy24_1) uM27) uy28_1) (cx_w t hw1 hw2 _)) (fun x31 => ?_)
                      refine rl_w (κ := 144) (cx_U ty28_1) (by decide) (fun M32 M32r uM32 AM32 nM32 => ?_)
                      have tM32 := cx_up ty28_1 uM32
                      have wm_M32 := wg_up uM32 wm_y28_1
                      have wP138_13_M32 := ag_up uM32 wP138_13_y28_1
                      have wd9_M32 := fun h => ag_up uM32 (wd9_y28_1 h)
                      have wd11_M32 := fun h => ag_up uM32 (wd11_y28_1 h)
                      have wP138_10_M32 := ag_up uM32 wP138_10_y28_1
                      exact rl_some ⟨(up_tr (up_tr (up_tr uy24_1 uM27) uy28_1) uM32), (fun _ => wP138_10_M32), (fun _ => AM32)⟩
                  · rintro y21 y21r ⟨uy21, wd10_y21', wd12_y21'⟩
                    have uy21 : Up mu 144 y20 y20r y21 y21r := uy21
                    have ty21 := cx_up ty20 uy21
                    have wm_y21 := wg_up uy21 wm_y20
                    have wP138_13_y21 := ag_up uy21 wP138_13_y20
                    have wd9_y21 := fun h => ag_up uy21 (wd9_y20 h)
                    have wd11_y21 := fun h => ag_up uy21 (wd11_y20 h)
                    have wd10_y21 : (0 ≤ x5.toInt) → Ag mu y21 y21r 138 10 := wd10_y21'
                    have wd12_y21 : (0 ≤ x5.toInt) → Ag mu y21 y21r 138 12 := wd12_y21'
                    refine rl_ltI (av_add iy11 tn_3 (by omega) (by omega)) (fun x22 ix22 => ?_)
                    have kx22 : x22.toInt = _ := ix22
                    exact rl_some ⟨(up_tr (up_tr uM19 uy20) uy21), rfl, (cw_f mx4 mx5 jy11 (Or.inl ix22)), (fun h => wd9_y21 (cw_9 jy11 (Or.inl ix22) h)), (fun h => wd11_y21 (cw_9 jy11 (Or.inl ix22) h)), (fun h => wd10_y21 (by have q := h.2; rw [mx5] at q; exact q)), (fun h => wd12_y21 (by have q := h.2; rw [mx5] at q; exact q)), (fun _ => wP138_13_y21)⟩
          · have dc10 := tl_ne iy10 tn_0 c10
            exfalso
            omega
        · have dc9 := tl_ne iy10 tn_0 c9
          refine rl_dr (cx_U t) (rx_c (a := 125) (k := 2) (b := 220) t (Or.inl rfl) rfl (by decide)) (fun gb74 => ?_)
          refine rl_chk (chkl (cx_U t) gb74) (fun k21 => ?_)
          refine rl_rdB (cx_k (c := 220) (k := 6) t rfl) (cx_b t) (fun x75 lx75 => ?_)
          have ix75 : TI x75 x75.toInt := rfl
          refine rl_if (fun c22 => ?_) (fun c22 => ?_)
          · have dc22 := tl_eq ix75 tn_2 c22
            exfalso
            omega
          · have dc22 := tl_ne ix75 tn_2 c22
            refine rl_if (fun c23 => ?_) (fun c23 => ?_)
            · have dc23 := tl_eq iy10 tn_0 c23
              exfalso
              omega
            · have dc23 := tl_ne iy10 tn_0 c23
              refine rl_chk (chkl (cx_U t) gb74) (fun k24 => ?_)
              refine rl_rdB (cx_k (c := 220) (k := 6) t rfl) (cx_b t) (fun x107 lx107 => ?_)
              have ix107 : TI x107 x107.toInt := rfl
              refine rl_if (fun c25 => ?_) (fun c25 => ?_)
              · have dc25 := tl_eq ix107 tn_1 c25
                exfalso
                omega
              · have dc25 := tl_ne ix107 tn_1 c25
                exact rl_some ⟨(up_0 mu (κ := 144) _ _), rfl, (cw_f mx4 mx5 jy11 (Or.inr rfl)), (fun h => absurd h (cw_n jy11 3 5 (by omega))), (fun h => absurd h (cw_n jy11 3 5 (by omega))), (fun h => absurd h.1 (cw_n jy11 4 5 (by omega))), (fun h => absurd h.1 (cw_n jy11 4 5 (by omega))), (fun h => absurd h (cw_m jy11))⟩
