/-! a BLOCK by lists, predicted on both sides: the whole of it -/
theorem r_ma {mu : Nat → Nat} {G H : GG} {M N : DD} {p : Nat} {w : Int} {L : List Nat} (t : CX mu G H M N p L) (tt : TT G M p w L) {x y : Int32} {a b : Int} (i : TI x a) (j : TI y b) (h : (0 ≤ a ∧ a ≤ 511) ∧ 0 ≤ b ∧ b ≤ 511) : LKS (FX4_movesAlike G M p x y) (FX4_movesAlike H N (mu p) x y) (fun y z => (M = y.1 ∧ y.2 = z.2) ∧ Up mu 216 M N y.1 z.1) := by
  refine LKS.mono (rl_ok (s_movesAlike tt (tt_p tt) i j h.1.1 h.1.2 h.2.1 h.2.2) (r_movesAlike t (cx_p t))) ?_
  rintro y z ⟨⟨a1, a2, _⟩, b1, b2⟩
  exact ⟨⟨(fr_eq a2).symm, b2⟩, up_wk b1⟩
theorem r_predictByLists {mu : Nat → Nat} {G H : GG} {M N : DD} {p : Nat} {w : Int} {L : List Nat} (t : CX mu G H M N p L) (tt : TT G M p w L) {p0 p0r : Option Nat} (e0 : p0 = some 125 ∧ p0r = some (mu 125)) {p1 : Int32} {mb : Int} (i1 : TI p1 mb) (h0 : 0 ≤ mb ∧ mb < 2 * w) (hv : MVV M p mb) : LKS (FX6_predictByLists G M 138 p0 p1) (FX6_predictByLists H N (mu 138) p0r p1) (fun y z => Up mu 216 M N y z ∧ WG mu y z 139 0 384 (fun j => j)) := by
  have hw : w = 1 ∨ w = 2 := tt_w tt
  obtain ⟨rfl, rfl⟩ := e0
  unfold FX6_predictByLists
  refine rl_bnd (Q := fun (y z : Int32 × Int32 × DD) => y.1 = z.1 ∧ M = y.2.2 ∧ Up mu 216 M N y.2.2 z.2.2) (rl_itr (fun (s u : Int32 × Int32 × DD) => s.1 = u.1 ∧ s.2.1 = u.2.1 ∧ (0 ≤ s.2.1.toInt ∧ s.2.1.toInt ≤ 16) ∧ M = s.2.2 ∧ Up mu 216 M N s.2.2 u.2.2) _ ?_ _ _ _ ⟨rfl, rfl, (by decide : 0 ≤ (1 : Int32).toInt ∧ (1 : Int32).toInt ≤ 16), rfl, up_0 mu _ _⟩) ?_
  · rintro ⟨s1, s2, s3⟩ ⟨u1, u2, u3⟩ ⟨e1, e2, l2, e3, u⟩
    obtain rfl : s1 = u1 := e1
    obtain rfl : s2 = u2 := e2
    obtain rfl : M = s3 := e3
    have u : Up mu 216 M N M u3 := u
    have l2 : 0 ≤ s2.toInt ∧ s2.toInt ≤ 16 := l2
    have tu := cx_up t u
    refine rl_if (fun c => rl_inr ⟨rfl, rfl, u⟩) (fun c => ?_)
    have dc := tl_nle tn_16 (rfl : TI s2 s2.toInt) c
    refine rl_if (fun c2 => rl_inr ⟨rfl, rfl, u⟩) (fun c2 => ?_)
    refine rl_dr (cx_U tu) ⟨rfl, rfl⟩ (fun g52 => ?_)
    refine rl_ltI (av_mul tn_16 i1 (by omega) (by omega)) (fun x53 i53 => ?_)
    refine rl_ltI (av_mul tn_16 i1 (by omega) (by omega)) (fun x54 i54 => ?_)
    refine rl_ltI (av_add i54 (rfl : TI s2 s2.toInt) (by omega) (by omega)) (fun x55 i55 => ?_)
    refine rl_dr (cx_U tu) (rx_p tu) (fun g56 => ?_)
    refine rl_bnd (r_ma tu tt i53 i55 (by omega)) ?_
    rintro ⟨y1, y2⟩ ⟨z1, z2⟩ ⟨⟨e4, e5⟩, uy⟩
    obtain rfl : M = y1 := e4
    obtain rfl : y2 = z2 := e5
    refine rl_ltI (av_add (rfl : TI s2 s2.toInt) tn_1 (by omega) (by omega)) (fun x58 i58 => ?_)
    have q : x58.toInt = _ := i58
    exact rl_inl ⟨rfl, rfl, ⟨by dsimp only; omega, by dsimp only; omega⟩, rfl, up_tr u uy⟩
  · rintro ⟨y1, y2, y3⟩ ⟨z1, z2, z3⟩ ⟨e1, e3, u⟩
    obtain rfl : y1 = z1 := e1
    obtain rfl : M = y3 := e3
    have u : Up mu 216 M N M z3 := u
    have tu := cx_up t u
    refine rl_if (fun c => ?_) (fun c => ?_)
    · refine rl_bnd (Q := fun (y z : Int32 × DD) => Up mu 216 M N y.2 z.2 ∧ PA mu y.2 z.2 16) (rl_itr (fun (s v : Int32 × DD) => s.1 = v.1 ∧ (0 ≤ s.1.toInt ∧ s.1.toInt ≤ 4) ∧ TT G s.2 p w L ∧ Fr p [1] M s.2 ∧ Up mu 216 M N s.2 v.2 ∧ PA mu s.2 v.2 (4 * s.1.toInt)) _ ?_ _ _ _ ⟨rfl, (by decide : 0 ≤ (0 : Int32).toInt ∧ (0 : Int32).toInt ≤ 4), tt, fr_0 p _ M, u, fun b h1 h2 => absurd h2 (by have : (0 : Int32).toInt = 0 := rfl; dsimp only; omega)⟩) ?_
      · rintro ⟨q, K⟩ ⟨qr, Kr⟩ ⟨e1, lq, tK, fK, uK, wK⟩
        obtain rfl : q = qr := e1
        have lq : 0 ≤ q.toInt ∧ q.toInt ≤ 4 := lq
        have tK : TT G K p w L := tK
        have fK : Fr p [1] M K := fK
        have uK : Up mu 216 M N K Kr := uK
        have wK : PA mu K Kr (4 * q.toInt) := wK
        have xK := cx_up t uK
        refine rl_if (fun c3 => ?_) (fun c3 => ?_)
        · have d := tl_le tn_4 (rfl : TI q q.toInt) c3
          refine rl_inr ⟨uK, ?_⟩
          have e : 4 * q.toInt = 16 := by omega
          rw [← e]
          exact wK
        · have d := tl_nle tn_4 (rfl : TI q q.toInt) c3
          refine rl_ltI (av_mul tn_16 i1 (by omega) (by omega)) (fun x10 i10 => ?_)
          refine rl_ltI (av_mul tn_4 (rfl : TI q q.toInt) (by omega) (by omega)) (fun x11 i11 => ?_)
          refine rl_ltI (av_add i10 i11 (by omega) (by omega)) (fun x12 i12 => ?_)
          refine rl_dr (cx_U xK) ⟨rfl, rfl⟩ (fun g13 => ?_)
          refine rl_ltI (av_add i12 tn_1 (by omega) (by omega)) (fun x14 i14 => ?_)
          refine rl_dr (cx_U xK) (rx_p xK) (fun g15 => ?_)
          refine rl_bnd (r_ma xK tK i12 i14 (by omega)) ?_
          rintro ⟨y16, v16⟩ ⟨z16, w16⟩ ⟨⟨e4, e5⟩, uy⟩
          obtain rfl : K = y16 := e4
          obtain rfl : v16 = w16 := e5
          have uy : Up mu 216 K Kr K z16 := uy
          have x16 := cx_up xK uy
          refine rl_bnd (Q := fun (y z : Int32 × DD) => y.1 = z.1 ∧ K = y.2 ∧ Up mu 216 K Kr K z.2) ?_ ?_
          · refine rl_if (fun c4 => rl_some ⟨rfl, rfl, uy⟩) (fun c4 => ?_)
            refine rl_ltI (av_add i12 tn_2 (by omega) (by omega)) (fun x35 i35 => ?_)
            refine rl_dr (cx_U x16) (rx_p x16) (fun g36 => ?_)
            refine rl_bnd (r_ma x16 tK i12 i35 (by omega)) ?_
            rintro ⟨y37, v37⟩ ⟨z37, w37⟩ ⟨⟨e4, e5⟩, uy2⟩
            obtain rfl : K = y37 := e4
            obtain rfl : v37 = w37 := e5
            have uy2 : Up mu 216 K z16 K z37 := uy2
            have x37 := cx_up x16 uy2
            refine rl_bnd (Q := fun (y z : Int32 × DD) => y.1 = z.1 ∧ K = y.2 ∧ Up mu 216 K Kr K z.2) ?_ ?_
            · refine rl_if (fun c5 => rl_some ⟨rfl, rfl, up_tr uy uy2⟩) (fun c5 => ?_)
              refine rl_ltI (av_add i12 tn_3 (by omega) (by omega)) (fun x40 i40 => ?_)
              refine rl_dr (cx_U x37) (rx_p x37) (fun g41 => ?_)
              refine rl_bnd (r_ma x37 tK i12 i40 (by omega)) ?_
              rintro ⟨y42, v42⟩ ⟨z42, w42⟩ ⟨⟨e4, e5⟩, uy3⟩
              obtain rfl : K = y42 := e4
              obtain rfl : v42 = w42 := e5
              have uy3 : Up mu 216 K z37 K z42 := uy3
              refine rl_bnd (Q := fun (y z : Int32) => y = z) (rl_if (fun _ => rl_some rfl) (fun _ => rl_some rfl)) ?_
              rintro y43 z43 e6
              exact rl_some ⟨e6, rfl, up_tr (up_tr uy uy2) uy3⟩
            · rintro ⟨y38, v38⟩ ⟨z38, w38⟩ h
              exact rl_some h
          · rintro ⟨y17, v17⟩ ⟨z17, w17⟩ ⟨e6, e7, u17⟩
            obtain rfl : y17 = z17 := e6
            obtain rfl : K = v17 := e7
            have u17 : Up mu 216 K Kr K w17 := u17
            have x17 := cx_up xK u17
            have w0 := pa_up u17 wK
            have z0 : (0 : Int32).toInt = 0 := rfl
            have w00 : PA mu K w17 (4 * q.toInt + (0 : Int32).toInt) := by
              rw [z0, show 4 * q.toInt + 0 = 4 * q.toInt by omega]; exact w0
            have w01 : PA mu K w17 (4 * q.toInt + 4 * (0 : Int32).toInt) := by
              rw [z0, show 4 * q.toInt + 4 * 0 = 4 * q.toInt by omega]; exact w0
            by_cases hq : y17 = 0
            · -- four pieces
              refine rl_bnd (Q := fun (y z : Int32 × DD) => TT G y.2 p w L ∧ Fr p [1] M y.2 ∧ Up mu 216 M N y.2 z.2 ∧ PA mu y.2 z.2 (4 * q.toInt + 4)) (rl_itr (fun (s v : Int32 × DD) => s.1 = v.1 ∧ (0 ≤ s.1.toInt ∧ s.1.toInt ≤ 4) ∧ TT G s.2 p w L ∧ Fr p [1] M s.2 ∧ Up mu 216 M N s.2 v.2 ∧ PA mu s.2 v.2 (4 * q.toInt + s.1.toInt)) _ ?_ _ _ _ ⟨rfl, (by decide : 0 ≤ (0 : Int32).toInt ∧ (0 : Int32).toInt ≤ 4), tK, fK, up_tr uK u17, w00⟩) ?_
              · rintro ⟨i, A⟩ ⟨ir, Ar⟩ ⟨e1, li, tA, fA, uA, wA⟩
                obtain rfl : i = ir := e1
                have li : 0 ≤ i.toInt ∧ i.toInt ≤ 4 := li
                have tA : TT G A p w L := tA
                have fA : Fr p [1] M A := fA
                have uA : Up mu 216 M N A Ar := uA
                have wA : PA mu A Ar (4 * q.toInt + i.toInt) := wA
                have xA := cx_up t uA
                refine rl_bnd (Q := fun (y z : Int32) => y = z ∧ TI y 4) (rl_if (fun _ => rl_some ⟨rfl, tn_4⟩) (fun n => absurd hq n)) ?_
                rintro y23 z23 ⟨e8, i23⟩
                obtain rfl : y23 = z23 := e8
                refine rl_if (fun c6 => ?_) (fun c6 => ?_)
                · have d6 := tl_le i23 (rfl : TI i i.toInt) c6
                  refine rl_inr ⟨tA, fA, uA, ?_⟩
                  have e : 4 * q.toInt + i.toInt = 4 * q.toInt + 4 := by omega
                  rw [← e]
                  exact wA
                · have d6 := tl_nle i23 (rfl : TI i i.toInt) c6
                  refine rl_ltI (av_add i12 (rfl : TI i i.toInt) (by omega) (by omega)) (fun x25 i25 => ?_)
                  have i25' : TI x25 (16 * mb + (4 * q.toInt + i.toInt)) := by
                    rw [show 16 * mb + (4 * q.toInt + i.toInt) = 16 * mb + 4 * q.toInt + i.toInt by omega]
                    exact i25
                  have hvA : MVV A p mb := by
                    intro b k hb hk
                    have hp := tt_p0 tt
                    have k1 : A.1 (p + 6) k = M.1 (p + 6) k := fA.2 _ _ (by rw [pc_6 hp]; rfl)
                    have k2 : A.1 (p + 6) (512 + k) = M.1 (p + 6) (512 + k) := fA.2 _ _ (by rw [pc_6 hp]; rfl)
                    rw [k1, k2]
                    exact mv3_e fA.1 (hv b k hb hk)
                  refine rl_bnd (r_tm xA tA (rx_p xA) i25' (by omega) hvA) ?_
                  rintro B Br ⟨tB, fB, uB, mB, vB⟩
                  have xB := cx_up xA uB
                  refine rl_ltI (av_mul tn_4 (rfl : TI q q.toInt) (by omega) (by omega)) (fun x27 i27 => ?_)
                  refine rl_ltI (av_add i27 (rfl : TI i i.toInt) (by omega) (by omega)) (fun x28 i28 => ?_)
                  refine rl_bnd (Q := fun (y z : Int32) => y = z ∧ TI y 4) (rl_if (fun _ => rl_some ⟨rfl, tn_4⟩) (fun n => absurd hq n)) ?_
                  rintro y29 z29 ⟨e9, i29⟩
                  obtain rfl : y29 = z29 := e9
                  refine rl_bnd (r_pr xB tB ⟨rfl, rfl⟩ i1 i28 i29 tn_1 h0 (by omega) (Or.inl rfl) mB vB) ?_
                  rintro C Cr ⟨tC, fC, uC, pC⟩
                  refine rl_ltI (av_add (rfl : TI i i.toInt) tn_1 (by omega) (by omega)) (fun x31 i31 => ?_)
                  have q31 : x31.toInt = _ := i31
                  exact rl_inl ⟨rfl, ⟨by dsimp only; omega, by dsimp only; omega⟩, tC, fr_tr (fr_tr fA fB rfl) fC rfl, up_tr (up_tr uA uB) uC, pa_ext (k := 1) (pa_up (up_tr uB uC) wA) (fun j j0 j1 => pC j j0 (by omega)) (by dsimp only; omega)⟩
              · rintro ⟨y18, A⟩ ⟨z18, Ar⟩ ⟨tA, fA, uA, wA⟩
                refine rl_ltI (av_add (rfl : TI q q.toInt) tn_1 (by omega) (by omega)) (fun x21 i21 => ?_)
                have q21 : x21.toInt = _ := i21
                refine rl_inl ⟨rfl, ⟨by dsimp only; omega, by dsimp only; omega⟩, tA, fA, uA, ?_⟩
                have e : 4 * x21.toInt = 4 * q.toInt + 4 := by omega
                dsimp only
                rw [e]
                exact wA
            · -- the quarter as a whole
              refine rl_bnd (Q := fun (y z : Int32 × DD) => TT G y.2 p w L ∧ Fr p [1] M y.2 ∧ Up mu 216 M N y.2 z.2 ∧ PA mu y.2 z.2 (4 * q.toInt + 4)) (rl_itr (fun (s v : Int32 × DD) => s.1 = v.1 ∧ (0 ≤ s.1.toInt ∧ s.1.toInt ≤ 1) ∧ TT G s.2 p w L ∧ Fr p [1] M s.2 ∧ Up mu 216 M N s.2 v.2 ∧ PA mu s.2 v.2 (4 * q.toInt + 4 * s.1.toInt)) _ ?_ _ _ _ ⟨rfl, (by decide : 0 ≤ (0 : Int32).toInt ∧ (0 : Int32).toInt ≤ 1), tK, fK, up_tr uK u17, w01⟩) ?_
              · rintro ⟨i, A⟩ ⟨ir, Ar⟩ ⟨e1, li, tA, fA, uA, wA⟩
                obtain rfl : i = ir := e1
                have li : 0 ≤ i.toInt ∧ i.toInt ≤ 1 := li
                have tA : TT G A p w L := tA
                have fA : Fr p [1] M A := fA
                have uA : Up mu 216 M N A Ar := uA
                have wA : PA mu A Ar (4 * q.toInt + 4 * i.toInt) := wA
                have xA := cx_up t uA
                refine rl_bnd (Q := fun (y z : Int32) => y = z ∧ TI y 1) (rl_if (fun n => absurd n hq) (fun _ => rl_some ⟨rfl, tn_1⟩)) ?_
                rintro y23 z23 ⟨e8, i23⟩
                obtain rfl : y23 = z23 := e8
                refine rl_if (fun c6 => ?_) (fun c6 => ?_)
                · have d6 := tl_le i23 (rfl : TI i i.toInt) c6
                  refine rl_inr ⟨tA, fA, uA, ?_⟩
                  have e : 4 * q.toInt + 4 * i.toInt = 4 * q.toInt + 4 := by omega
                  rw [← e]
                  exact wA
                · have d6 := tl_nle i23 (rfl : TI i i.toInt) c6
                  refine rl_ltI (av_add i12 (rfl : TI i i.toInt) (by omega) (by omega)) (fun x25 i25 => ?_)
                  have i25' : TI x25 (16 * mb + 4 * q.toInt) := by
                    rw [show 16 * mb + 4 * q.toInt = 16 * mb + 4 * q.toInt + i.toInt by omega]
                    exact i25
                  have hvA : MVV A p mb := by
                    intro b k hb hk
                    have hp := tt_p0 tt
                    have k1 : A.1 (p + 6) k = M.1 (p + 6) k := fA.2 _ _ (by rw [pc_6 hp]; rfl)
                    have k2 : A.1 (p + 6) (512 + k) = M.1 (p + 6) (512 + k) := fA.2 _ _ (by rw [pc_6 hp]; rfl)
                    rw [k1, k2]
                    exact mv3_e fA.1 (hv b k hb hk)
                  refine rl_bnd (r_tm xA tA (rx_p xA) i25' (by omega) hvA) ?_
                  rintro B Br ⟨tB, fB, uB, mB, vB⟩
                  have xB := cx_up xA uB
                  refine rl_ltI (av_mul tn_4 (rfl : TI q q.toInt) (by omega) (by omega)) (fun x27 i27 => ?_)
                  refine rl_ltI (av_add i27 (rfl : TI i i.toInt) (by omega) (by omega)) (fun x28 i28 => ?_)
                  refine rl_bnd (Q := fun (y z : Int32) => y = z ∧ TI y 8) (rl_if (fun n => absurd n hq) (fun _ => rl_some ⟨rfl, tn_8⟩)) ?_
                  rintro y29 z29 ⟨e9, i29⟩
                  obtain rfl : y29 = z29 := e9
                  refine rl_bnd (r_pr xB tB ⟨rfl, rfl⟩ i1 i28 i29 tn_1 h0 (by omega) (Or.inr (Or.inl ⟨rfl, by omega⟩)) mB vB) ?_
                  rintro C Cr ⟨tC, fC, uC, pC⟩
                  refine rl_ltI (av_add (rfl : TI i i.toInt) tn_1 (by omega) (by omega)) (fun x31 i31 => ?_)
                  have q31 : x31.toInt = _ := i31
                  refine rl_inl ⟨rfl, ⟨by dsimp only; omega, by dsimp only; omega⟩, tC, fr_tr (fr_tr fA fB rfl) fC rfl, up_tr (up_tr uA uB) uC, pa_ext (k := 4) (pa_up (up_tr uB uC) wA) (fun j j0 j1 => ?_) (by dsimp only; omega)⟩
                  have g := pC j j0 (by omega)
                  rw [show 4 * q.toInt + 4 * i.toInt + j = 4 * q.toInt + i.toInt + j by omega]
                  exact g
              · rintro ⟨y18, A⟩ ⟨z18, Ar⟩ ⟨tA, fA, uA, wA⟩
                refine rl_ltI (av_add (rfl : TI q q.toInt) tn_1 (by omega) (by omega)) (fun x21 i21 => ?_)
                have q21 : x21.toInt = _ := i21
                refine rl_inl ⟨rfl, ⟨by dsimp only; omega, by dsimp only; omega⟩, tA, fA, uA, ?_⟩
                have e : 4 * x21.toInt = 4 * q.toInt + 4 := by omega
                dsimp only
                rw [e]
                exact wA
      · rintro ⟨y5, A⟩ ⟨z5, Ar⟩ ⟨uA, wA⟩
        exact rl_some ⟨uA, pa_all wA⟩
    · refine rl_dr (cx_U tu) ⟨rfl, rfl⟩ (fun g45 => ?_)
      refine rl_ltI (av_mul tn_16 i1 (by omega) (by omega)) (fun x46 i46 => ?_)
      have i46' : TI x46 (16 * mb + 0) := by
        rw [show 16 * mb + 0 = 16 * mb by omega]
        exact i46
      refine rl_bnd (r_tm tu tt (rx_p tu) i46' (by omega) hv) ?_
      rintro B Br ⟨tB, fB, uB, mB, vB⟩
      have xB := cx_up tu uB
      refine rl_bnd (r_pr xB tB ⟨rfl, rfl⟩ i1 tn_0 tn_16 tn_1 h0 (by omega) (Or.inr (Or.inr ⟨rfl, rfl⟩)) mB vB) ?_
      rintro C Cr ⟨tC, fC, uC, pC⟩
      refine rl_some ⟨up_tr (up_tr u uB) uC, pa_all (fun b b0 b1 => ?_)⟩
      have g := pC b b0 (by omega)
      rw [show 0 + b = b by omega] at g
      exact g
theorem rl_wE {mu : Nat → Nat} {κ : Nat} {G H : GG} {M N : DD} {α β : Type} {b k : Nat} {v : Int32} {k1 : DD → Option α} {k2 : DD → Option β} {P : α → β → Prop} (U : MU mu G H) (hb : b ≠ 216 ∧ b ≠ 220 ∧ b ≠ κ) (h : ∀ M' N', M' = uI M b k v → N' = uI N (mu b) k v → Up mu κ M N M' N' → Ag mu M' N' b k → LKS (k1 M') (k2 N') P) : LKS (ltt (uI M b k v) k1) (ltt (uI N (mu b) k v) k2) P := by
  have g : LKS (ltt (uI M b k v) (fun M' => some M')) (ltt (uI N (mu b) k v) (fun N' => some N')) (fun y z => Up mu κ M N y z ∧ Ag mu y z b k) := rl_w (κ := κ) U hb (fun M' N' u A _ => rl_some ⟨u, A⟩)
  obtain ⟨z, h1, h2, h3⟩ := g _ rfl
  injection h1 with h1
  have h4 : z = uI N (mu b) k v := h1.symm
  rw [h4] at h2 h3
  exact h _ _ rfl rfl h2 h3
/-- the edges of a PICTURE -/
theorem r_filter {mu : Nat → Nat} {G H : GG} {M N : DD} {p : Nat} {w : Int} {L : List Nat} (t : CX mu G H M N p L) (tt : TT G M p w L) {p0 p0r : Option Nat} (e0 : p0 = some 125 ∧ p0r = some (mu 125)) : LKS (FX2_filter G M 148 p0) (FX2_filter H N (mu 148) p0r) (fun y z => Up mu 216 M N y z) := by
  have hw12 : 1 ≤ w ∧ w ≤ 2 := by rcases tt_w tt with h | h <;> omega
  obtain ⟨rfl, rfl⟩ := e0
  unfold FX2_filter
  refine rl_dr (cx_U t) ⟨rfl, rfl⟩ (fun g2 => ?_)
  refine rl_dr (cx_U t) (rx_p t) (fun g3 => ?_)
  refine rl_bnd (rl_ok (s_blocks tt (tt_p tt)) (r_blocks t (cx_p t))) ?_
  rintro ⟨y4, v4⟩ ⟨z4, w4⟩ ⟨⟨t4, f4, i4⟩, u4, e4⟩
  obtain rfl : v4 = w4 := e4
  have u4 : Up mu 216 M N y4 z4 := up_wk u4
  have f4 : Fr p [] M y4 := f4
  have i4 : TI v4 (w * 2) := i4
  obtain rfl : M = y4 := (fr_eq f4).symm
  have x4 := cx_up t u4
  refine rl_wE (κ := 216) (cx_U x4) (by decide) (fun M5 N5 e5 e6 u5 A5 => ?_)
  have tM5 : TT G M5 p w L := by rw [e5]; exact tt_w0 tt rfl
  have w5 : (M5.1 148 1).toInt = w * 2 := by rw [e5, uI_s]; exact i4
  have u5 : Up mu 216 M N M5 N5 := up_tr u4 u5
  clear e5 e6
  refine rl_bnd (Q := fun (y z : Int32 × DD) => Up mu 216 M N y.2 z.2) (rl_itr (fun (s v : Int32 × DD) => s.1 = v.1 ∧ (0 ≤ s.1.toInt ∧ s.1.toInt ≤ w * 2) ∧ TT G s.2 p w L ∧ (s.2.1 148 1).toInt = w * 2 ∧ Ag mu s.2 v.2 148 1 ∧ Up mu 216 M N s.2 v.2) _ ?_ _ _ _ ⟨rfl, ⟨by show (0 : Int) ≤ (0 : Int32).toInt; decide, by show (0 : Int32).toInt ≤ w * 2; have : (0 : Int32).toInt = 0 := rfl; omega⟩, tM5, w5, A5, u5⟩) (fun y z h => rl_some h)
  rintro ⟨mb, K⟩ ⟨mbr, Kr⟩ ⟨e1, l1, tK, wK, AK, uK⟩
  obtain rfl : mb = mbr := e1
  have l1 : 0 ≤ mb.toInt ∧ mb.toInt ≤ w * 2 := l1
  have tK : TT G K p w L := tK
  have wK : (K.1 148 1).toInt = w * 2 := wK
  have AK : Ag mu K Kr 148 1 := AK
  have uK : Up mu 216 M N K Kr := uK
  have xK := cx_up t uK
  have i1 : TI mb mb.toInt := rfl
  refine rl_rdE AK (fun x10 e10 => ?_)
  have i10 : TI x10 (w * 2) := by rw [e10]; exact wK
  refine rl_if (fun c => rl_inr uK) (fun c => ?_)
  have d1 := tl_nle i10 i1 c
  refine rl_bnd (rl_ok (s2_measure tK rfl i1 (by omega) (by omega)) (r2_measure xK ⟨rfl, rfl⟩ i1 (by omega) (by omega))) ?_
  rintro y12 z12 ⟨⟨t12, f12⟩, u12, S12⟩
  have w12 : (y12.1 148 1).toInt = w * 2 := by rw [f12.2 148 1 rfl]; exact wK
  have A12 := ag_up u12 AK
  have u12 : Up mu 216 M N y12 z12 := up_tr uK (up_wk u12)
  refine rl_bnd (Q := fun (y z : Int32 × DD) => TT G y.2 p w L ∧ (y.2.1 148 1).toInt = w * 2 ∧ Ag mu y.2 z.2 148 1 ∧ Up mu 216 M N y.2 z.2) (rl_itr (fun (s v : Int32 × DD) => s.1 = v.1 ∧ (0 ≤ s.1.toInt ∧ s.1.toInt ≤ 3) ∧ TT G s.2 p w L ∧ (s.2.1 148 1).toInt = w * 2 ∧ Ag mu s.2 v.2 148 1 ∧ Up mu 216 M N s.2 v.2 ∧ WG mu s.2 v.2 149 (32 * mb.toInt) (32 * mb.toInt + 32) (fun j => j)) _ ?_ _ _ _ ⟨rfl, (by decide : 0 ≤ (0 : Int32).toInt ∧ (0 : Int32).toInt ≤ 3), t12, w12, A12, u12, S12⟩) ?_
  · rintro ⟨pl, A⟩ ⟨plr, Ar⟩ ⟨e2, l2, tA, wA, aA, uA, SA⟩
    obtain rfl : pl = plr := e2
    have l2 : 0 ≤ pl.toInt ∧ pl.toInt ≤ 3 := l2
    have i2 : TI pl pl.toInt := rfl
    refine rl_if (fun c => rl_inr ⟨tA, wA, aA, uA⟩) (fun c => ?_)
    have d2 := tl_nle tn_3 i2 c
    refine rl_bnd (Q := fun (y z : Int32 × DD) => TT G y.2 p w L ∧ (y.2.1 148 1).toInt = w * 2 ∧ Ag mu y.2 z.2 148 1 ∧ Up mu 216 M N y.2 z.2 ∧ WG mu y.2 z.2 149 (32 * mb.toInt) (32 * mb.toInt + 32) (fun j => j)) (rl_itr (fun (s v : Int32 × DD) => s.1 = v.1 ∧ (0 ≤ s.1.toInt ∧ s.1.toInt ≤ 2) ∧ TT G s.2 p w L ∧ (s.2.1 148 1).toInt = w * 2 ∧ Ag mu s.2 v.2 148 1 ∧ Up mu 216 M N s.2 v.2 ∧ WG mu s.2 v.2 149 (32 * mb.toInt) (32 * mb.toInt + 32) (fun j => j)) _ ?_ _ _ _ ⟨rfl, (by decide : 0 ≤ (0 : Int32).toInt ∧ (0 : Int32).toInt ≤ 2), tA, wA, aA, uA, SA⟩) ?_
    · rintro ⟨way, B⟩ ⟨wayr, Br⟩ ⟨e3, l3, tB, wB, aB, uB, SB⟩
      obtain rfl : way = wayr := e3
      have l3 : 0 ≤ way.toInt ∧ way.toInt ≤ 2 := l3
      have i3 : TI way way.toInt := rfl
      refine rl_if (fun c => rl_inr ⟨tB, wB, aB, uB, SB⟩) (fun c => ?_)
      have d3 := tl_nle tn_2 i3 c
      refine rl_bnd (Q := fun (y z : Int32 × DD) => TT G y.2 p w L ∧ (y.2.1 148 1).toInt = w * 2 ∧ Ag mu y.2 z.2 148 1 ∧ Up mu 216 M N y.2 z.2 ∧ WG mu y.2 z.2 149 (32 * mb.toInt) (32 * mb.toInt + 32) (fun j => j)) (rl_itr (fun (s v : Int32 × DD) => s.1 = v.1 ∧ (0 ≤ s.1.toInt ∧ s.1.toInt ≤ 4) ∧ TT G s.2 p w L ∧ (s.2.1 148 1).toInt = w * 2 ∧ Ag mu s.2 v.2 148 1 ∧ Up mu 216 M N s.2 v.2 ∧ WG mu s.2 v.2 149 (32 * mb.toInt) (32 * mb.toInt + 32) (fun j => j)) _ ?_ _ _ _ ⟨rfl, (by decide : 0 ≤ (0 : Int32).toInt ∧ (0 : Int32).toInt ≤ 4), tB, wB, aB, uB, SB⟩) ?_
      · rintro ⟨ed, C⟩ ⟨edr, Cr⟩ ⟨e4, l4, tC, wC, aC, uC, SC⟩
        obtain rfl : ed = edr := e4
        have l4 : 0 ≤ ed.toInt ∧ ed.toInt ≤ 4 := l4
        have i4 : TI ed ed.toInt := rfl
        have tC : TT G C p w L := tC
        have uC : Up mu 216 M N C Cr := uC
        have xC := cx_up t uC
        refine rl_bnd (Q := fun (y z : Int32) => y = z ∧ (pl.toInt = 0 → y.toInt = 4) ∧ (pl.toInt ≠ 0 → y.toInt = 2)) ?_ ?_
        · refine rl_if (fun c => ?_) (fun c => ?_)
          · have d := tl_eq i2 tn_0 c
            exact rl_some ⟨rfl, fun _ => rfl, fun h => absurd d h⟩
          · have d := tl_ne i2 tn_0 c
            exact rl_some ⟨rfl, fun h => absurd h d, fun _ => rfl⟩
        · rintro y30 z30 ⟨e30, j1, j2⟩
          obtain rfl : y30 = z30 := e30
          refine rl_if (fun c => rl_inr ⟨tC, wC, aC, uC, SC⟩) (fun c => ?_)
          have d4 := tl_nle (rfl : TI y30 y30.toInt) i4 c
          have q : (pl.toInt = 0 ∧ y30.toInt = 4) ∨ (pl.toInt ≠ 0 ∧ y30.toInt = 2) := by
            by_cases h : pl.toInt = 0
            · exact Or.inl ⟨h, j1 h⟩
            · exact Or.inr ⟨h, j2 h⟩
          clear j1 j2
          refine rl_bnd (rl_ok (s_filterEdge tC rfl i1 i2 i3 i4 (by omega) (by omega) (by omega) (by omega) (by omega) (by omega) (by omega)) (r_filterEdge xC ⟨rfl, rfl⟩ i1 i2 i3 i4 (by omega) (by omega) (by omega) (by omega) (by omega) (by omega) (by omega) SC)) ?_
          rintro y32 z32 ⟨⟨t32, f32⟩, u32⟩
          refine rl_ltI (av_add i4 tn_1 (by omega) (by omega)) (fun x33 i33 => ?_)
          have q33 : x33.toInt = _ := i33
          refine rl_inl ⟨rfl, ⟨by dsimp only; omega, by dsimp only; omega⟩, t32, ?_, ag_up u32 aC, up_tr uC (up_wk u32), wg_up u32 SC⟩
          show (y32.1 148 1).toInt = w * 2
          rw [f32.2 148 1 rfl]
          exact wC
      · rintro ⟨y25, C⟩ ⟨z25, Cr⟩ ⟨tC, wC, aC, uC, SC⟩
        refine rl_ltI (av_add i3 tn_1 (by omega) (by omega)) (fun x28 i28 => ?_)
        have q28 : x28.toInt = _ := i28
        exact rl_inl ⟨rfl, ⟨by dsimp only; omega, by dsimp only; omega⟩, tC, wC, aC, uC, SC⟩
    · rintro ⟨y19, C⟩ ⟨z19, Cr⟩ ⟨tC, wC, aC, uC, SC⟩
      refine rl_ltI (av_add i2 tn_1 (by omega) (by omega)) (fun x22 i22 => ?_)
      have q22 : x22.toInt = _ := i22
      exact rl_inl ⟨rfl, ⟨by dsimp only; omega, by dsimp only; omega⟩, tC, wC, aC, uC, SC⟩
  · rintro ⟨y13, C⟩ ⟨z13, Cr⟩ ⟨tC, wC, aC, uC⟩
    refine rl_ltI (av_add i1 tn_1 (by omega) (by omega)) (fun x16 i16 => ?_)
    have q16 : x16.toInt = _ := i16
    exact rl_inl ⟨rfl, ⟨by dsimp only; omega, by dsimp only; omega⟩, tC, wC, aC, uC⟩
