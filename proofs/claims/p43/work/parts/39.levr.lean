/-! Reader: levels -/
def RZs (M : DD) (r t el sr : Nat) (N : DD) : Prop := N.2 = M.2 ∧ ∀ x k, x ≠ t → x ≠ el → x ≠ sr → ¬ (x = r ∧ (k = 2 ∨ k = 4 ∨ k = 5 ∨ k = 8 ∨ k = 9 ∨ k = 12)) → N.1 x k = M.1 x k
theorem tokv_tkn : ∀ t, t ≤ 16 → ∀ o, o ≤ 3 → o ≤ t → tokv (tkn t o) = 4 * t + o := by decide
theorem tkn_b4 : ∀ t, t ≤ 16 → ∀ o, o ≤ 3 → o ≤ t → tkn t o < 62 ∧ (t ≤ 4 → tkn t o < 14) := by decide
theorem TR.by {G : GG} {M N : DD} {r tr : Nat} (h : TR G M r tr) (h2 : N.2 = M.2) (h1 : ∀ j, N.1 tr j = M.1 tr j) : TR G N r tr := by
  obtain ⟨v1, v2, v3, v4, v5⟩ := h
  exact ⟨by rw [h2]; exact v1, v2, v3, v4, fun j hj => by rw [h1 j]; exact v5 j hj⟩
set_option maxHeartbeats 16000000 in
theorem levR_ok {G : GG} {M : DD} {r d t el tr sr row fr n tb : Nat} {f : Nat → Nat} {T : Nat} {S : SS} {D : List Tok} {l : LV} {p0 p1 p3 : Int32} (h : RD G M r d t f T S) (hE : RE G M r el t S) (hR : TR G M r tr) (hS : RS G M r d t el tr sr row) (hn : n = 4 ∨ n = 15 ∨ n = 16) (hln : bsum l + l.length ≤ n) (hlb : ∀ q, q ∈ l → -2000 ≤ q.1 ∧ q.1 ≤ 2000 ∧ q.1 ≠ 0) (htb : tb ≤ 4) (htb4 : tb = 4 → n = 4) (hp0 : p0.toInt = tb) (hp1 : p1.toInt = n) (hp3 : p3.toInt = fr) (hrow : (if n = 15 then fr + 1 else fr) + n ≤ G.2.2 row ∧ G.2.2 row ≤ 100000) (hz : ∀ k, k < n → (M.1 row ((if n = 15 then fr + 1 else fr) + k)).toInt = 0) (hv : VT f T (levT tb n l ++ D) S) :
    OK (FX5_levels G M r p0 p1 (some row) p3) (fun y => y.2.toInt = l.length ∧ RD G y.1 r d t f T (runs (levT tb n l) S) ∧ RE G y.1 r el t (runs (levT tb n l) S) ∧ VT f T D (runs (levT tb n l) S) ∧ RZ M r t el sr row y.1 ∧ (∀ k, k < n → (y.1.1 row ((if n = 15 then fr + 1 else fr) + k)).toInt = exl l k) ∧ (∀ j, ¬ ((if n = 15 then fr + 1 else fr) ≤ j ∧ j < (if n = 15 then fr + 1 else fr) + n) → y.1.1 row j = M.1 row j)) := by
  have e0 : (0 : Int32).toInt = 0 := rfl
  have e1 : (1 : Int32).toInt = 1 := rfl
  have e2 : (2 : Int32).toInt = 2 := rfl
  have e3 : (3 : Int32).toInt = 3 := rfl
  have e4 : (4 : Int32).toInt = 4 := rfl
  have e6 : (6 : Int32).toInt = 6 := rfl
  have e10 : (10 : Int32).toInt = 10 := rfl
  have e6n : (6 : Int32).toInt = ((6 : Nat) : Int) := rfl
  have e1n : (1 : Int32).toInt = ((1 : Nat) : Int) := rfl
  have e11n : (11 : Int32).toInt = ((11 : Nat) : Int) := rfl
  have e12n : (12 : Int32).toInt = ((12 : Nat) : Int) := rfl
  obtain ⟨cm0, cm1, cm2, cm3, -, -, -, -⟩ := cdM_facts
  have hT6 : T ≤ 600000 := h.1.2.2.2.2.2.2.2
  obtain ⟨sr1, sr2, sr3, sr4⟩ := hS.1
  obtain ⟨rw1, rw2⟩ := hS.2.1
  have hkr : G.2.1 r = 5 := h.1.2.1
  have hdk : G.2.1 d = 12 := h.1.2.2.2.2.1
  have hsrr : NE sr r := fun e => by rw [e] at sr3; omega
  have hrwr : NE row r := fun e => by rw [e] at rw2; omega
  have hsrd : NE sr d := fun e => by rw [e] at sr3; omega
  have htrr : NE tr r := fun e => by have := hR.2.2.1; rw [e] at this; omega
  obtain ⟨hon3, honl⟩ := oneC_b 3 l
  obtain ⟨-, oc2⟩ := oneC_at 3 l
  have hl16 : l.length ≤ 16 := by omega
  generalize hones : oneC 3 l = ones at hon3 honl oc2
  have honL : onesL l = ones := hones
  have hlv : levT tb n l = tokT tb l ++ (szT ones 0 (s0L l) l ++ (zrT n l ++ rnT (bsum l) l)) := by
    unfold levT
    rw [honL]
  rw [hlv] at hv ⊢
  rw [List.append_assoc] at hv
  have hrr : runs (tokT tb l ++ (szT ones 0 (s0L l) l ++ (zrT n l ++ rnT (bsum l) l))) S = runs (rnT (bsum l) l) (runs (zrT n l) (runs (szT ones 0 (s0L l) l) (runs (tokT tb l) S))) := by
    rw [runs_app, runs_app, runs_app]
  rw [hrr]
  unfold FX5_levels
  refine ok_bnd (Q := fun y : Int32 × DD => y.1.toInt = ((4 * l.length + ones : Nat) : Int) ∧ RD G y.2 r d t f T (runs (tokT tb l) S) ∧ RE G y.2 r el t (runs (tokT tb l) S) ∧ VT f T ((szT ones 0 (s0L l) l ++ (zrT n l ++ rnT (bsum l) l)) ++ D) (runs (tokT tb l) S) ∧ RY M r t el y.2) (ok_if (fun c => ?_) (fun c => ?_)) (fun y1 hy1 => ok_lt (ok_lt ?_))
  · have := pz_eq.mp c
    have htk : tokT tb l = toks 11 (if l.length = 0 then 3 else 4 * (l.length - 1) + ones) 6 := by
      unfold tokT
      rw [if_pos (by omega), honL]
    rw [htk] at hv ⊢
    have hV : (if l.length = 0 then 3 else 4 * (l.length - 1) + ones) < 2 ^ 6 := by
      have e64 : (2 : Nat) ^ 6 = 64 := rfl
      split <;> omega
    obtain ⟨-, hps⟩ := hv.skip
    refine ok_bnd (fixed_ok h hE hS.2.2.2.2.2.2.2.2.2.2.2 hv (by omega) e11n (by decide) e6n (by decide) (by decide) hV) (fun y49 hy49 => ?_)
    obtain ⟨ya, yb⟩ := y49
    obtain ⟨q1, q2, q3, q4, q5⟩ := hy49
    dsimp only at q1 q2 q3 q5 ⊢
    refine ok_bnd (Q := fun y : Int32 => y.toInt = ((4 * l.length + ones : Nat) : Int)) (ok_if (fun c2 => ok_some ?_) (fun c2 => ok_lt (ok_some ?_))) (fun y50 hy50 => ok_some ⟨hy50, q2, q3, q4, q5⟩)
    · have := pz_eq.mp c2
      by_cases q : l.length = 0
      · rw [e0]; omega
      · rw [if_neg q] at q1
        omega
    · have c3 : ¬ yb.toInt = (3 : Int32).toInt := fun q => c2 (pz_eq.mpr q)
      by_cases q : l.length = 0
      · rw [if_pos q] at q1
        omega
      · rw [if_neg q] at q1
        rw [ti_add (by omega) (by omega), q1, e4]
        omega
  · have c3 : ¬ p0.toInt = (3 : Int32).toInt := fun q => c (pz_eq.mpr q)
    have htk : tokT tb l = toks 11 (cdV (if tb = 4 then 3 else tb) (tkn l.length ones)) (cdN (if tb = 4 then 3 else tb) (tkn l.length ones)) := by
      unfold tokT
      rw [if_neg (by omega), honL]
    rw [htk] at hv ⊢
    have hTB : (if tb = 4 then 3 else tb) ≤ 3 ∧ tkn l.length ones < cdM (if tb = 4 then 3 else tb) := by
      obtain ⟨b1, b2⟩ := tkn_b4 l.length hl16 ones hon3 honl
      by_cases q : tb = 4
      · rw [if_pos q]
        have := htb4 q
        have := b2 (by omega)
        omega
      · rw [if_neg q]
        have : tb = 0 ∨ tb = 1 ∨ tb = 2 := by omega
        rcases this with w | w | w <;> rw [w] <;> omega
    refine ok_bnd (Q := fun y : Int32 => y.toInt = ((if tb = 4 then 3 else tb : Nat) : Int)) (ok_if (fun c2 => ok_some ?_) (fun c2 => ok_some ?_)) (fun y46 hy46 => ?_)
    · have := pz_eq.mp c2
      rw [if_pos (by omega)]; exact e3
    · have c4 : ¬ p0.toInt = (4 : Int32).toInt := fun q => c2 (pz_eq.mpr q)
      rw [if_neg (by omega)]; exact hp0
    obtain ⟨-, hps⟩ := hv.skip
    refine ok_bnd (codeR_ok h hE hS.2.2.2.2.2.2.2.2.2.2.2 hR hS.2.2.2.2.2.2.2.2.2.1 (by omega) hTB.2 hv (by omega) e11n (by decide) hy46) (fun y47 hy47 => ?_)
    obtain ⟨ya, yb⟩ := y47
    obtain ⟨q1, q2, q3, q4, q5⟩ := hy47
    dsimp only at q1 q2 q3 q5 ⊢
    rw [if_pos (by omega), tokv_tkn _ hl16 _ hon3 honl] at q1
    exact ok_some ⟨q1, q2, q3, q4, q5⟩
  obtain ⟨w1, M1⟩ := y1
  obtain ⟨u1, u2, u3, u4, u5⟩ := hy1
  dsimp only at u1 u2 u3 u5 ⊢
  have hx2 : (w1 >>> ((2 : Int32) &&& 31)).toInt = l.length := by
    rw [pz_sar w1 _ 2 (by decide), u1]
    have e22 : ((2 ^ 2 : Nat) : Int) = 4 := rfl
    rw [e22]
    omega
  have hx3 : (w1 &&& (3 : Int32)).toInt = ones := by
    rw [pz_and3, u1]
    omega
  generalize w1 >>> ((2 : Int32) &&& 31) = x2 at hx2
  generalize w1 &&& (3 : Int32) = x3 at hx3
  refine ok_bnd (Q := fun y : DD => y = M1) (ok_if (fun c => absurd (pz_lt.mp c) (by omega)) (fun _ => ok_some rfl)) (fun y4 hy4 => ?_)
  subst hy4
  refine ok_bnd (Q := fun y : DD => y = y4) (ok_if (fun _ => ok_some rfl) (fun c => absurd (pz_le.mpr (by omega)) c)) (fun y5 hy5 => ?_)
  subst hy5
  refine ok_bnd (Q := fun y : Int32 => y.toInt = s0L l) (ok_if (fun c => ok_some ?_) (fun c => ok_bi (ok_if (fun c2 => ok_some (ok_some ?_)) (fun c2 => ok_some (ok_some ?_))))) (fun y6 hy6 => ?_)
  · have := pz_le.mp c
    unfold s0L
    rw [if_neg (by omega)]; exact e0
  · have := pz_le.mp c2
    unfold s0L
    rw [honL, if_neg (by omega)]; exact e0
  · have c3 : ¬ x2.toInt ≤ (10 : Int32).toInt := fun q => c (pz_le.mpr q)
    have c4 : ¬ (3 : Int32).toInt ≤ x3.toInt := fun q => c2 (pz_le.mpr q)
    unfold s0L
    rw [honL, if_pos (by omega)]; exact e1
  have hs06 : s0L l ≤ 6 := by unfold s0L; split <;> omega
  generalize s0L l = s0 at *
  generalize hS1 : runs (tokT tb l) S = S1 at *
  rw [List.append_assoc, List.append_assoc] at u4
  refine ok_bnd (ok_itr (fun s : Int32 × Int32 × DD => ∃ (i sN : Nat) (Sc : SS), s.2.1.toInt = i ∧ i ≤ l.length ∧ s.1.toInt = sN ∧ sN ≤ 6 ∧ RD G s.2.2 r d t f T Sc ∧ RE G s.2.2 r el t Sc ∧ VT f T (szT ones i sN (l.drop i) ++ (zrT n l ++ (rnT (bsum l) l ++ D))) Sc ∧ runs (szT ones i sN (l.drop i)) Sc = runs (szT ones 0 s0 l) S1 ∧ RZs M r t el sr s.2.2 ∧ (∀ j q, j < i → l[j]? = some q → (s.2.2.1 sr j).toInt = q.1)) (fun s => ((l.length : Int) - s.2.1.toInt).toNat) (P := fun y : Int32 × Int32 × DD => RD G y.2.2 r d t f T (runs (szT ones 0 s0 l) S1) ∧ RE G y.2.2 r el t (runs (szT ones 0 s0 l) S1) ∧ VT f T (zrT n l ++ (rnT (bsum l) l ++ D)) (runs (szT ones 0 s0 l) S1) ∧ RZs M r t el sr y.2.2 ∧ (∀ j q, l[j]? = some q → (y.2.2.1 sr j).toInt = q.1)) ?_ 1000000 _ ?_ ?_) (fun y7 hy7 => ?_)
  · intro s hs
    obtain ⟨ss, ii, N⟩ := s
    obtain ⟨i, sN, Sc, i1, i2, i3, i4, i5, i6, i7, i8, i9, i10⟩ := hs
    dsimp only at i1 i3 i5 i6 i9 i10 ⊢
    refine ok_if (fun c => ok_some ?_) (fun c => ?_)
    · have := pz_le.mp c
      have ei : i = l.length := by omega
      subst ei
      rw [List.drop_length] at i7 i8
      have hr0 : szT ones l.length sN [] = [] := rfl
      rw [hr0] at i7 i8
      have i8 : Sc = runs (szT ones 0 s0 l) S1 := i8
      rw [← i8]
      refine ⟨i5, i6, i7, i9, fun j q hj => i10 j q ?_ hj⟩
      obtain ⟨hj1, -⟩ := List.getElem?_eq_some_iff.mp hj
      exact hj1
    · have c3 : ¬ x2.toInt ≤ ii.toInt := fun q => c (pz_le.mpr q)
      have hil : i < l.length := by omega
      have hin : ii.toNatClampNeg = i := by
        have := pz_nat (x := ii) (by omega)
        omega
      have hix : ¬ (ii < 0 ∨ G.2.2 sr ≤ ii.toNatClampNeg) := pz_ix (by omega) (by omega)
      obtain ⟨lb1, lb2, lb3⟩ := hlb l[i] (List.getElem_mem hil)
      have hsa := szT_at (ones := ones) (s := sN) hil
      have hii1 : (ii + (1 : Int32)).toInt = i + 1 := by rw [ti_add (by omega) (by omega), i1, e1]
      -- a size put
      have hput : ∀ (N2 : DD) (Sd : SS) (x : Int32), RD G N2 r d t f T Sd → RE G N2 r el t Sd → RY N r t el N2 → x.toInt = l[i].1 → RD G (uI N2 sr i x) r d t f T Sd ∧ RE G (uI N2 sr i x) r el t Sd ∧ RZs M r t el sr (uI N2 sr i x) ∧ (∀ j q, j < i + 1 → l[j]? = some q → ((uI N2 sr i x).1 sr j).toInt = q.1) := by
        intro N2 Sd x g1 g2 g3 g4
        have hu : ∀ y k, y ≠ sr → (uI N2 sr i x).1 y k = N2.1 y k := fun y k hy => if_neg (fun q => hy q.1)
        refine ⟨g1.by rfl (fun y k hy => hu y k (fun q => ?_)), g2.by rfl (hu r 12 (fun q => hsrr q.symm)) (hu r 7 (fun q => hsrr q.symm)) (Nat.le_refl _) (fun q => q), ⟨g3.1.trans i9.1, fun y k a1 a2 a3 a4 => ?_⟩, fun j q hj hq => ?_⟩
        · rcases hy with w | w | w
          · exact hsrr (q.symm.trans w.1)
          · exact hsrd (q.symm.trans w)
          · exact hS.2.2.1 (q.symm.trans w)
        · rw [hu y k a3, g3.2 y k a1 a2 a4]
          exact i9.2 y k a1 a2 a3 a4
        · by_cases hjk : j = i
          · rw [hjk, List.getElem?_eq_getElem hil] at hq
            have : l[i] = q := by simpa using hq
            rw [← this, hjk]
            show (if sr = sr ∧ i = i then x else N2.1 sr i).toInt = _
            rw [if_pos ⟨rfl, rfl⟩]
            exact g4
          · show (if sr = sr ∧ j = i then x else N2.1 sr j).toInt = _
            rw [if_neg (fun w => hjk w.2), g3.2 sr j hS.2.2.1 hS.2.2.2.1 (fun w => hsrr w.1)]
            exact i10 j q (by omega) hq
      refine ok_bnd (Q := fun y : Int32 × DD => ∃ (sM : Nat) (Sd : SS), y.1.toInt = sM ∧ sM ≤ 6 ∧ RD G y.2 r d t f T Sd ∧ RE G y.2 r el t Sd ∧ VT f T (szT ones (i + 1) sM (l.drop (i + 1)) ++ (zrT n l ++ (rnT (bsum l) l ++ D))) Sd ∧ runs (szT ones (i + 1) sM (l.drop (i + 1))) Sd = runs (szT ones 0 s0 l) S1 ∧ RZs M r t el sr y.2 ∧ (∀ j q, j < i + 1 → l[j]? = some q → (y.2.1 sr j).toInt = q.1)) (ok_if (fun c4 => ?_) (fun c4 => ?_)) (fun y13 hy13 => ok_lt (ok_some ?_))
      · have hio : ones ≤ i := by
          have := pz_le.mp c4
          omega
        rw [if_neg (by omega)] at hsa
        refine ok_bnd (Q := fun y : Int32 => y.toInt = mor ones i) ?_ (fun y16 h16 => ?_)
        · unfold mor
          refine ok_if (fun c5 => ok_bi (ok_if (fun c6 => ok_some (ok_some ?_)) (fun c6 => ok_some (ok_some ?_)))) (fun c5 => ok_some ?_)
          · have := pz_eq.mp c5
            have := pz_le.mp c6
            rw [if_pos (by omega), if_neg (by omega)]; exact e0
          · have := pz_eq.mp c5
            have c7 : ¬ (3 : Int32).toInt ≤ x3.toInt := fun q => c6 (pz_le.mpr q)
            rw [if_pos (by omega), if_pos (by omega)]; exact e1
          · have c7 : ¬ ii.toInt = x3.toInt := fun q => c5 (pz_eq.mpr q)
            rw [if_neg (by omega)]; exact e0
        have hm1 : mor ones i ≤ 1 := by unfold mor; split <;> (try split) <;> omega
        have hmo : mor ones i = 1 → ¬ (l[i].1 = 1 ∨ l[i].1 = -1) := fun q => by
          have hq : i = ones ∧ ones < 3 := by
            unfold mor at q
            split at q
            · split at q
              · exact ⟨by omega, by omega⟩
              · omega
            · omega
          exact oc2 l[i] hq.2 (by rw [← hq.1]; exact List.getElem?_eq_getElem hil)
        have hv0 : 0 ≤ lvV l[i].1 (mor ones i) := by
          unfold lvV
          by_cases hz : mor ones i = 0
          · rw [if_pos hz]; split <;> omega
          · have := hmo (by omega)
            rw [if_neg hz]; split <;> omega
        have hvv : ((lvV l[i].1 (mor ones i)).toNat : Int) = lvV l[i].1 (mor ones i) := by omega
        generalize hve : (lvV l[i].1 (mor ones i)).toNat = v0 at hsa hvv
        rw [hsa] at i7 i8
        rw [List.append_assoc] at i7
        rw [runs_app] at i8
        obtain ⟨-, hps⟩ := i7.skip
        have hps1 : pos (runs (toks 13 1 (lpf sN v0 + 1)) Sc) ≤ T := by
          have i77 := i7
          unfold oneT at i77
          rw [List.append_assoc] at i77
          exact i77.skip.2
        refine ok_bnd (oneLevel_ok i5 i6 hS.2.2.2.2.2.2.2.2.2.2.2 i4 lb1 lb2 lb3 hm1 hvv i7 (by omega) (by omega) i3 h16) (fun y17 h17 => ?_)
        obtain ⟨ya, yb⟩ := y17
        obtain ⟨q1, q2, q3, q4, q5⟩ := h17
        dsimp only at q1 q2 q3 q5 ⊢
        refine ok_dr (b := sr) (by rw [i9.1]; exact sr1) sr2 sr3 (ok_chk hix (ok_lt ?_))
        rw [hin]
        obtain ⟨z1, z2, z3, z4⟩ := hput ya _ yb q2 q3 q5 q1
        have hM2 : (uI ya sr i yb).2 r 14 = some sr := by rw [z3.1]; exact sr1
        have hcell : ((uI ya sr i yb).1 sr i).toInt = l[i].1 := z4 i l[i] (by omega) (List.getElem?_eq_getElem hil)
        generalize uI ya sr i yb = M19 at z1 z2 z3 z4 hM2 hcell
        refine ok_bnd (Q := fun y : Int32 => y.toInt = ((if sN = 0 then 1 else sN : Nat) : Int)) (ok_if (fun c5 => ok_some ?_) (fun c5 => ok_some ?_)) (fun y20 h20 => ?_)
        · have := pz_eq.mp c5
          rw [if_pos (by omega)]; exact e1
        · have c6 : ¬ ss.toInt = (0 : Int32).toInt := fun q => c5 (pz_eq.mpr q)
          rw [if_neg (by omega)]; exact i3
        obtain ⟨nx1, nx2⟩ := nxs_ok (α := Nat) (N := 0) i3 i4 hcell lb1 lb2 h20
        have hs1 : (if sN = 0 then 1 else sN) ≤ 6 := by split <;> omega
        refine ok_bnd (Q := fun y : Int32 × DD => y.1.toInt = nxs sN l[i].1 ∧ y.2 = M19) ?_ (fun y21 h21 => ok_some ?_)
        · refine ok_if (fun c5 => ok_some ?_) (fun c5 => ?_)
          · have := pz_le.mp c5
            exact ⟨by dsimp only; rw [nx1 (by omega)]; exact h20, rfl⟩
          · have c6 : ¬ (6 : Int32).toInt ≤ y20.toInt := fun q => c5 (pz_le.mpr q)
            obtain ⟨m1, m2⟩ := nx2 (by omega)
            rw [hin] at hix
            refine ok_dr (b := sr) hM2 sr2 sr3 (ok_chk hix (ok_lt (ok_lt (ok_lt (ok_lt ?_)))))
            refine ok_bnd (Q := fun y : Int32 => y.toInt = nxs sN l[i].1) ?_ (fun y28 h28 => ok_some ⟨h28, rfl⟩)
            have hnx : nxs sN l[i].1 = if l[i].1.natAbs ≤ 3 * 2 ^ ((if sN = 0 then 1 else sN) - 1) then (if sN = 0 then 1 else sN) else (if sN = 0 then 1 else sN) + 1 := by
              unfold nxs
              exact if_neg (by omega)
            rw [hnx]
            generalize (if sN = 0 then 1 else sN) = s1 at *
            refine ok_if (fun c7 => ok_some ?_) (fun c7 => ok_lt (ok_some ?_))
            · have := pz_le.mp c7
              have hq : (if l[i].1.natAbs ≤ 3 * 2 ^ (s1 - 1) then s1 else s1 + 1) = s1 := if_pos (by omega)
              rw [hq]; exact h20
            · have c8 : ¬ (if (0 : Int32) ≤ M19.1 sr i then M19.1 sr i else 0 - M19.1 sr i).toInt ≤ ((3 : Int32) <<< ((y20 - (1 : Int32)) &&& 31)).toInt := fun q => c7 (pz_le.mpr q)
              have hq : (if l[i].1.natAbs ≤ 3 * 2 ^ (s1 - 1) then s1 else s1 + 1) = s1 + 1 := if_neg (by omega)
              rw [hq, ti_add (by omega) (by omega), h20, e1]
              omega
        · obtain ⟨ya2, yb2⟩ := y21
          obtain ⟨g1, g2⟩ := h21
          dsimp only at g1 g2 ⊢
          subst g2
          exact ⟨nxs sN l[i].1, _, g1, (nxs_b _ i4).1, z1, z2, q4, i8, z3, z4⟩
      · have hio : i < ones := by
          have : ¬ x3.toInt ≤ ii.toInt := fun q => c4 (pz_le.mpr q)
          omega
        rw [if_pos hio] at hsa
        rw [hsa] at i7 i8
        rw [List.append_assoc] at i7
        rw [runs_app] at i8
        obtain ⟨-, hps⟩ := i7.skip
        have hpm : l[i].1 = 1 ∨ l[i].1 = -1 := (oneC_at 3 l).1 i l[i] (by rw [hones]; exact hio) (List.getElem?_eq_getElem hil)
        refine ok_bnd (fixed_ok i5 i6 hS.2.2.2.2.2.2.2.2.2.2.2 i7 (by omega) e12n (by decide) e1n (by decide) (by decide) (by split <;> decide)) (fun y35 h35 => ok_lt (ok_lt ?_))
        obtain ⟨ya, yb⟩ := y35
        obtain ⟨q1, q2, q3, q4, q5⟩ := h35
        dsimp only at q1 q2 q3 q5 ⊢
        have hx37 : ((1 : Int32) - (2 : Int32) * yb).toInt = l[i].1 := by
          have hyb : 0 ≤ yb.toInt ∧ yb.toInt ≤ 1 := by
            rw [q1]
            split <;> omega
          have h2m : ((2 : Int32) * yb).toInt = 2 * yb.toInt := pz_mulc e2 (by omega) (by omega)
          rw [ti_sub (by omega) (by omega), h2m, e1, q1]
          rcases hpm with w | w
          · rw [if_neg (by omega)]; omega
          · rw [if_pos (by omega)]; omega
        generalize (1 : Int32) - (2 : Int32) * yb = x37 at hx37
        refine ok_dr (b := sr) (by rw [i9.1]; exact sr1) sr2 sr3 (ok_chk hix (ok_lt (ok_some ?_)))
        rw [hin]
        obtain ⟨z1, z2, z3, z4⟩ := hput ya _ x37 q2 q3 q5 hx37
        exact ⟨sN, _, i3, i4, z1, z2, q4, i8, z3, z4⟩
      · obtain ⟨sz2, N2⟩ := y13
        obtain ⟨sM, Sd, g1, g2, g3, g4, g5, g6, g7, g8⟩ := hy13
        dsimp only at g1 g3 g4 g7 g8 ⊢
        exact ⟨⟨i + 1, sM, Sd, by rw [hii1]; omega, by omega, g1, g2, g3, g4, g5, g6, g7, g8⟩, by omega⟩
  · exact ⟨0, s0, S1, e0, Nat.zero_le _, hy6, hs06, u2, u3, u4, rfl, ⟨u5.1, fun x k a1 a2 _ a4 => u5.2 x k a1 a2 a4⟩, fun j q hj => by omega⟩
  · dsimp only
    omega
  · obtain ⟨s7, i7, M7⟩ := y7
    obtain ⟨g1, g2, g3, g4, g5⟩ := hy7
    dsimp only at g1 g2 g4 g5 ⊢
    have hrowN : ∀ j, M7.1 row j = M.1 row j := fun j => g4.2 row j hS.2.2.2.2.2.2.1 hS.2.2.2.2.2.2.2.1 (fun q => hS.2.2.2.2.2.1 q.symm) (fun q => hrwr q.1)
    have hRN : TR G M7 r tr := hR.by g4.1 (fun j => g4.2 tr j hS.2.2.2.2.2.2.2.2.2.1 hS.2.2.2.2.2.2.2.2.2.2.1 (fun q => hS.2.2.2.2.1 q.symm) (fun q => htrr q.1))
    refine ok_bnd (spread_ok (p0 := p1) (p1 := x2) (p3 := p3) g1 g2 hRN ⟨⟨by rw [g4.1]; exact sr1, sr2, sr3, sr4⟩, hS.2⟩ hn hln hp1 hx2 hp3 hrow (fun k hk => by rw [hrowN]; exact hz k hk) g5 g3) (fun y10 hy10 => ok_some ?_)
    obtain ⟨k1, k2, k3, k4, k5, k6, k7⟩ := hy10
    exact ⟨hx2, k1, k2, k3, ⟨k4.1.trans g4.1, fun x k a1 a2 a3 a4 a5 => (k4.2 x k a1 a2 a3 a4 a5).trans (g4.2 x k a1 a2 a3 a5)⟩, k6, fun j hj => (k7 j hj).trans (hrowN j)⟩
