/-! a BLOCK by lists, behind its plan -/
theorem s_dgl {G : GG} {M N : DD} {p : Nat} {w : Int} {L : List Nat} (t : TT G N p w L) (f : Fr p [12, 17, 19] M N) {p0 l x27 : Int32} {a0 lI : Int} (i0 : TI p0 a0) (h0 : 0 ≤ a0) (h1 : a0 < 2 * w) (il : TI l lI) (hl : lI = 0 ∨ lI = 1) (i27 : 0 ≤ x27.toInt ∧ x27.toInt ≤ 2) {np ng : Nat} (hp : PGS N np ng) (hc : 1 ≤ lI → GRl N p a0 0 0 ng) : OK (itr (fun (s29 : Int32 × DD) => ((dr G 9 ((s29.2.2 116 3)) fun b33 =>
  ltt (s29.2.1 b33 16) fun x34 =>
  if x34 ≤ s29.1 then (some (.inr (s29.1, s29.2))) else
  (ltt ((((4 : Int32)) * s29.1)) fun x36 =>
  ltt ((x36 + ((3 : Int32)))) fun x37 =>
  dr G 13 ((s29.2.2 b33 15)) fun b38 =>
  chk (¬ (x37 < 0 ∨ G.2.2 b38 ≤ x37.toNatClampNeg)) <|
  ltt (s29.2.1 b38 x37.toNatClampNeg) fun x39 =>
  ltt ((x39 >>> (l &&& 31))) fun x40 =>
  ltt ((x40 &&& ((1 : Int32)))) fun x41 =>
  bnd (if x41 = ((1 : Int32)) then (bnd (if x27 ≤ ((1 : Int32)) then (some ((0 : Int32), s29.2)) else
  (bnd (FX0_draw G s29.2 116 x27) fun y48 =>
  some (y48.2, y48.1))) fun (y45 : Int32 × DD) =>
  bnd (FX9_setReference G y45.2 b33 p0 l s29.1 y45.1) fun y46 =>
  some (y46)) else
  (some (s29.2))) fun (y42 : DD) =>
  ltt (s29.1 + (1 : Int32)) fun x43 =>
  some (.inl (x43, y42)))) : Option ((Int32 × DD) ⊕ (Int32 × DD)))) 1000000 ((0 : Int32), N)) (fun y => (TT G y.2 p w L ∧ Fr p [12, 17, 19] M y.2) ∧ PGS y.2 np ng ∧ GRl y.2 p a0 lI l ng ∧ (1 ≤ lI → GRl y.2 p a0 0 0 ng)) := by
  have hw12 := tt_w t
  have hp0 := tt_p0 t
  refine ok_itr (fun (s : Int32 × DD) => (0 ≤ s.1.toInt ∧ s.1.toInt ≤ ng) ∧ (TT G s.2 p w L ∧ Fr p [12, 17, 19] M s.2) ∧ PGS s.2 np ng ∧ GRl s.2 p a0 lI l s.1.toInt.toNat ∧ (1 ≤ lI → GRl s.2 p a0 0 0 ng)) (fun s => (ng - s.1.toInt).toNat) ?_ _ _ ?_ ?_
  · rintro s ⟨ls, ⟨ts, fs⟩, ps, gs, cs⟩
    have hng := ps.2.2.2.1
    refine ok_dr (f_r (b := 125) ts rfl (by decide)) (g_lt ts (by decide)) (g_k ts (by decide) rfl) ?_
    refine ok_ltt (fun x34 e34 => ?_)
    have i34 : TI x34 ng := by rw [e34]; exact ps.2.1
    refine ok_if (fun c => ok_some ?_) (fun c => ?_)
    · have d := tl_le i34 (rfl : TI s.1 s.1.toInt) c
      have e : s.1.toInt.toNat = ng := by omega
      rw [e] at gs
      exact ⟨⟨ts, fs⟩, ps, gs, cs⟩
    have d := tl_nle i34 (rfl : TI s.1 s.1.toInt) c
    obtain ⟨g, hg⟩ : ∃ g : Nat, g = s.1.toInt.toNat := ⟨_, rfl⟩
    have eg : s.1.toInt = g := by omega
    rw [← hg] at gs
    refine ok_ltt (fun x36 e36 => ok_ltt (fun x37 e37 => ?_))
    have i36 : TI x36 (4 * g) := by rw [e36]; exact av_mul tn_4 (show TI s.1 g from eg) (by omega) (by omega)
    have i37 : TI x37 (4 * g + 3) := by rw [e37]; exact av_add i36 tn_3 (by omega) (by omega)
    have n37 : x37.toNatClampNeg = 4 * g + 3 := sh_nat i37 (by omega)
    refine ok_dr (f_r (b := 136) ts rfl (by decide)) (g_lt ts (by decide)) (g_k ts (by decide) rfl) ?_
    refine ok_chk (nxg (g_n (i := 136) (n := 16) ts (by decide) rfl) i37 (by omega) (by omega)) ?_
    refine ok_ltt (fun x39 e39 => ok_ltt (fun x40 e40 => ok_ltt (fun x41 e41 => ?_)))
    have b41 : x41 = ((s.2.1 136 (4 * g + 3)) >>> (l &&& 31)) &&& (1 : Int32) := by rw [e41, e40, e39, n37]
    refine ok_bnd (Q := fun y => (TT G y p w L ∧ Fr p [12, 17, 19] M y) ∧ PGS y np ng ∧ GRl y p a0 lI l (g + 1) ∧ (1 ≤ lI → GRl y p a0 0 0 ng)) ?_ ?_
    · refine ok_if (fun c1 => ?_) (fun c1 => ok_some ⟨⟨ts, fs⟩, ps, ?_, cs⟩)
      · refine ok_bnd (Q := fun (y : Int32 × DD) => (0 ≤ y.1.toInt ∧ y.1.toInt ≤ 2) ∧ (TT G y.2 p w L ∧ Fr p [12, 17, 19] M y.2) ∧ PGS y.2 np ng ∧ GRl y.2 p a0 lI l g ∧ (1 ≤ lI → GRl y.2 p a0 0 0 ng)) ?_ ?_
        · refine ok_if (fun c2 => ok_some ⟨(by show (0 : Int) ≤ (0 : Int32).toInt ∧ (0 : Int32).toInt ≤ 2; decide), ⟨ts, fs⟩, ps, gs, cs⟩) (fun c2 => ?_)
          have d2 := tl_nle (rfl : TI x27 x27.toInt) tn_1 c2
          refine ok_bnd (s_draw ts (rfl : TI x27 x27.toInt)) ?_
          rintro y ⟨ty, gy, ly⟩
          exact ok_some ⟨by have := ly.1 (by omega); dsimp only; omega, ⟨ty, fr_tr fs gy rfl⟩, fr_pgs ps gy ⟨rfl, rfl⟩, fr_gr gs hp0 gy ⟨rfl, rfl⟩, fun h => fr_gr (cs h) hp0 gy ⟨rfl, rfl⟩⟩
        · rintro y45 ⟨ly, ⟨ty, fy⟩, py, gy, cy⟩
          have hsr := pc_setReference ty i0 il (show TI s.1 g from eg) (by omega) (by omega) (by omega) (p3 := y45.1)
          have hso := s_setReference ty i0 il (show TI s.1 g from eg) (rfl : TI y45.1 y45.1.toInt) h0 h1 (by omega) (by omega) (by omega) (by omega) (by omega) (by omega)
          refine ok_bnd (ok_pc hso hsr) ?_
          rintro y ⟨⟨t2, f2⟩, sr⟩
          exact ok_some ⟨⟨t2, fr_tr fy f2 rfl⟩, pgs_keep py sr hp0, gr_next gy sr hp0 ly.1, fun h => gr_keep (cy h) sr hp0 ly.1⟩
      · intro g' hg' hb i hi j hj
        by_cases e : g' = g
        · subst e
          exfalso
          rcases and01 ((s.2.1 136 (4 * g' + 3)) >>> (l &&& 31)) with e | e
          · exact hb e
          · exact c1 (by rw [b41]; exact e)
        · exact gs g' (by omega) hb i hi j hj
    · rintro y42 ⟨⟨ty, fy⟩, py, gy, cy⟩
      refine ok_ltt (fun x43 e43 => ok_some ⟨⟨?_, ⟨ty, fy⟩, py, ?_, cy⟩, ?_⟩)
      · have i43 : x43.toInt = g + 1 := by rw [e43]; exact av_add (show TI s.1 g from eg) tn_1 (by omega) (by omega)
        dsimp only
        omega
      · have i43 : x43.toInt = g + 1 := by rw [e43]; exact av_add (show TI s.1 g from eg) tn_1 (by omega) (by omega)
        have e : x43.toInt.toNat = g + 1 := by omega
        dsimp only
        rw [e]
        exact gy
      · have i43 : x43.toInt = g + 1 := by rw [e43]; exact av_add (show TI s.1 g from eg) tn_1 (by omega) (by omega)
        dsimp only
        omega
  · refine ⟨(by show (0 : Int) ≤ (0 : Int32).toInt ∧ (0 : Int32).toInt ≤ (ng : Int); have : (0 : Int32).toInt = 0 := rfl; omega), ⟨t, f⟩, hp, ?_, hc⟩
    intro g hg
    have : (0 : Int32).toInt = 0 := rfl
    have h : g < (0 : Int32).toInt.toNat := hg
    omega
  · show ((ng : Int) - (0 : Int32).toInt).toNat < 1000000
    have : (0 : Int32).toInt = 0 := rfl
    have := hp.2.2.2.1
    omega
theorem s_dbl {G : GG} {M : DD} {p : Nat} {w : Int} {L : List Nat} (t : TT G M p w L) {p0 p1 r : Int32} {a0 a1 b : Int} (i0 : TI p0 a0) (i1 : TI p1 a1) (ir : TI r b) (h0 : 0 ≤ a0) (h1 : a0 < 2 * w) (h2 : 0 ≤ b) (h3 : b ≤ 22) : OK (bnd (FX9_plan G M 125 p1 r) fun y15 =>
  bnd (itr (fun (s17 : Int32 × DD) => ((if ((2 : Int32)) ≤ s17.1 then (some (.inr (s17.1, s17.2))) else
  (dr G 9 ((s17.2.2 116 3)) fun b23 =>
  dr G 3 ((s17.2.2 b23 1)) fun b24 =>
  ltt ((((9 : Int32)) + s17.1)) fun x25 =>
  dr G 13 ((s17.2.2 b24 0)) fun b26 =>
  chk (¬ (x25 < 0 ∨ G.2.2 b26 ≤ x25.toNatClampNeg)) <|
  ltt (s17.2.1 b26 x25.toNatClampNeg) fun x27 =>
  bnd (itr (fun (s29 : Int32 × DD) => ((dr G 9 ((s29.2.2 116 3)) fun b33 =>
  ltt (s29.2.1 b33 16) fun x34 =>
  if x34 ≤ s29.1 then (some (.inr (s29.1, s29.2))) else
  (ltt ((((4 : Int32)) * s29.1)) fun x36 =>
  ltt ((x36 + ((3 : Int32)))) fun x37 =>
  dr G 13 ((s29.2.2 b33 15)) fun b38 =>
  chk (¬ (x37 < 0 ∨ G.2.2 b38 ≤ x37.toNatClampNeg)) <|
  ltt (s29.2.1 b38 x37.toNatClampNeg) fun x39 =>
  ltt ((x39 >>> (s17.1 &&& 31))) fun x40 =>
  ltt ((x40 &&& ((1 : Int32)))) fun x41 =>
  bnd (if x41 = ((1 : Int32)) then (bnd (if x27 ≤ ((1 : Int32)) then (some ((0 : Int32), s29.2)) else
  (bnd (FX0_draw G s29.2 116 x27) fun y48 =>
  some (y48.2, y48.1))) fun (y45 : Int32 × DD) =>
  bnd (FX9_setReference G y45.2 b33 p0 s17.1 s29.1 y45.1) fun y46 =>
  some (y46)) else
  (some (s29.2))) fun (y42 : DD) =>
  ltt (s29.1 + (1 : Int32)) fun x43 =>
  some (.inl (x43, y42)))) : Option ((Int32 × DD) ⊕ (Int32 × DD)))) 1000000 ((0 : Int32), s17.2)) fun (y28 : Int32 × DD) =>
  ltt (s17.1 + (1 : Int32)) fun x31 =>
  some (.inl (x31, y28.2)))) : Option ((Int32 × DD) ⊕ (Int32 × DD)))) 1000000 ((0 : Int32), y15)) fun (y16 : Int32 × DD) =>
  bnd (FX0_drawVectors G y16.2 116 p0 ((0 : Int32))) fun y19 =>
  bnd (FX0_drawVectors G y19 116 p0 ((1 : Int32))) fun y20 =>
  some y20) (fun y => TT G y p w L ∧ Fr p [9, 10, 12, 17, 19, 20, 21, 22] M y) := by
  have hw12 := tt_w t
  have hp0 := tt_p0 t
  refine ok_bnd (ok_pc (s_plan t ir h2 h3) (pc_plan t.2.1 ⟨g_n (i := 136) (n := 16) t (by decide) rfl, g_n (i := 135) (n := 80) t (by decide) rfl⟩)) ?_
  rintro y15 ⟨⟨t15, f15⟩, hR, np, ng, hp⟩
  refine ok_bnd (Q := fun (y : Int32 × DD) => (TT G y.2 p w L ∧ Fr p [12, 17, 19] y15 y.2) ∧ PGS y.2 np ng ∧ GRl y.2 p a0 0 0 ng ∧ GRl y.2 p a0 1 1 ng) ?_ ?_
  · refine ok_itr (fun (s : Int32 × DD) => (0 ≤ s.1.toInt ∧ s.1.toInt ≤ 2) ∧ (TT G s.2 p w L ∧ Fr p [12, 17, 19] y15 s.2) ∧ PGS s.2 np ng ∧ (1 ≤ s.1.toInt → GRl s.2 p a0 0 0 ng) ∧ (2 ≤ s.1.toInt → GRl s.2 p a0 1 1 ng)) (fun s => (2 - s.1.toInt).toNat) ?_ _ _ ?_ ?_
    · rintro s ⟨ls, ⟨ts, fs⟩, ps, c0, c1⟩
      refine ok_if (fun c => ok_some ?_) (fun c => ?_)
      · have d := tl_le tn_2 (rfl : TI s.1 s.1.toInt) c
        exact ⟨⟨ts, fs⟩, ps, c0 (by omega), c1 (by omega)⟩
      have d := tl_nle tn_2 (rfl : TI s.1 s.1.toInt) c
      refine ok_dr (f_r (b := 125) ts rfl (by decide)) (g_lt ts (by decide)) (g_k ts (by decide) rfl) ?_
      refine ok_dr (f_r (b := 215) ts rfl (by decide)) (g_lt ts (by decide)) (g_k ts (by decide) rfl) ?_
      refine ok_ltI (av_add tn_9 (rfl : TI s.1 s.1.toInt) (by omega) (by omega)) (fun x25 i25 => ?_)
      refine ok_dr (f_r (b := 216) ts rfl (by decide)) (g_lt ts (by decide)) (g_k ts (by decide) rfl) ?_
      refine ok_chk (nxg (g_n (i := 216) (n := 27) ts (by decide) rfl) i25 (by omega) (by omega)) ?_
      refine ok_ltB (ib_216 ts i25 (by omega)) (fun x27 l27 => ?_)
      refine ok_bnd (s_dgl ts fs i0 h0 h1 (rfl : TI s.1 s.1.toInt) (by omega) l27 ps c0) ?_
      rintro y28 ⟨⟨ty, fy⟩, py, gy, cy⟩
      refine ok_ltI (av_add (rfl : TI s.1 s.1.toInt) tn_1 (by omega) (by omega)) (fun x31 i31 => ok_some ⟨⟨ti_bd i31 (by omega) (by omega), ⟨ty, fy⟩, py, fun h => ?_, fun h => ?_⟩, mu_up i31 (by omega) (by omega)⟩)
      · by_cases e : s.1.toInt = 0
        · have e1 : s.1 = 0 := ti_inj tn_0 e
          rw [e1] at gy
          exact gy
        · exact cy (by omega)
      · have q : x31.toInt = _ := i31
        have h' : 2 ≤ x31.toInt := h
        have e : s.1.toInt = 1 := by omega
        have e1 : s.1 = 1 := ti_inj tn_1 e
        rw [e1] at gy
        exact gy
    · exact ⟨(by show (0 : Int) ≤ (0 : Int32).toInt ∧ (0 : Int32).toInt ≤ 2; decide), ⟨t15, fr_0 _ _ _⟩, hp, fun h => absurd h (by show ¬ (1 : Int) ≤ (0 : Int32).toInt; decide), fun h => absurd h (by show ¬ (2 : Int) ≤ (0 : Int32).toInt; decide)⟩
    · exact mu_0 tn_0 (by omega)
  · rintro y16 ⟨⟨t16, f16⟩, p16, g0, g1⟩
    refine ok_bnd (s_drawVectors t16 i0 tn_0 h0 h1 (by omega) (by omega) (gr_hr p16 g0)) ?_
    rintro y19 ⟨t19, f19⟩
    refine ok_bnd (s_drawVectors t19 i0 tn_1 h0 h1 (by omega) (by omega) (hr_tr hp0 (gr_hr p16 g1) f19 ⟨rfl, rfl, rfl⟩)) ?_
    rintro y20 ⟨t20, f20⟩
    exact ok_some ⟨t20, fr_tr (fr_tr (fr_tr (fr_tr (fr_0 p [9, 10, 12, 17, 19, 20, 21, 22] M) f15 rfl) f16 rfl) f19 rfl) f20 rfl⟩
