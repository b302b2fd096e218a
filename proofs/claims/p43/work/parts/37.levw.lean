theorem WY.kp {G : GG} {M N O : DD} {a u t sz bf : Nat} {l : LV} (h : KP G M a u t sz bf l N) (h2 : O.2 = N.2) (h1 : O.1 = N.1) : KP G M a u t sz bf l O := by
  obtain ⟨k1, k2, k3, k4⟩ := h
  exact ⟨by rw [h2]; exact k1, by rw [h2]; exact k2, fun j q hj => by rw [h1]; exact k3 j q hj, fun x k hx hxu hxt hxs hxb hxk => by rw [h1, h2]; exact k4 x k hx hxu hxt hxs hxb hxk⟩
set_option maxHeartbeats 16000000 in
theorem levW_ok {G : GG} {M : DD} {a u t sz bf row fr tb n : Nat} {f : Nat → Nat} {n0 : Nat} {S : SS} {c : Nat → Int} {p0 p1 p3 : Int32} (h : CW G M a u t f n0 S) (hR : WR G M a sz bf) (hst : sz ≠ t ∧ bf ≠ t) (hrow : row < G.1 ∧ G.2.1 row = 13 ∧ (if n = 15 then fr + 1 else fr) + n ≤ G.2.2 row ∧ G.2.2 row ≤ 100000) (hrs : row ≠ sz ∧ row ≠ bf) (hn : n = 4 ∨ n = 15 ∨ n = 16) (htb : tb ≤ 4) (htn : tb = 4 ↔ n = 4) (hp0 : p0.toInt = tb) (hp1 : p1.toInt = n) (hp3 : p3.toInt = fr) (hc : ∀ k, k < n → (M.1 row ((if n = 15 then fr + 1 else fr) + k)).toInt = c k) (hcb : ∀ k, k < n → -2000 ≤ c k ∧ c k ≤ 2000) (hB : Bd S ≤ 600000) : OK (FX10_levels G M a p0 p1 (some row) p3) (fun y => ∃ l : LV, Row c n 0 l ∧ (∃ v g k, CN G a u t f n0 S (levT tb n l) (xt G y.1) y.2 v g k) ∧ WL G M a u t sz bf y.2) := by
  have e0 : (0 : Int32).toInt = 0 := rfl
  have e1 : (1 : Int32).toInt = 1 := rfl
  have e2 : (2 : Int32).toInt = 2 := rfl
  have e3 : (3 : Int32).toInt = 3 := rfl
  have e4 : (4 : Int32).toInt = 4 := rfl
  have e6 : (6 : Int32).toInt = 6 := rfl
  have e10 : (10 : Int32).toInt = 10 := rfl
  have e15 : (15 : Int32).toInt = 15 := rfl
  have e18 : (18 : Int32).toInt = 18 := rfl
  have e11 : (11 : Int32).toInt = ((11 : Nat) : Int) := rfl
  have e15n : (15 : Int32).toInt = ((15 : Nat) : Int) := rfl
  have l3 : (3 : Int64).toInt = 3 := rfl
  obtain ⟨cm0, cm1, cm2, cm3, cmz, cm4, -, -⟩ := cdM_facts
  obtain ⟨g1, g2, g3, g4, g5⟩ := h.lt
  obtain ⟨ra, rb, rsb⟩ := hR
  have hn16 : n ≤ 16 ∧ 1 ≤ n := by omega
  have hsza : sz ≠ a := fun e => by have := ra.2.2.1; rw [e] at this; omega
  have hbfa : bf ≠ a := fun e => by have := rb.2.2.1; rw [e] at this; omega
  have huk : G.2.1 u = 12 := h.wb.1.2.2.2.2
  have hszu : sz ≠ u := fun e => by have := ra.2.2.1; rw [e] at this; omega
  have hbfu : bf ≠ u := fun e => by have := rb.2.2.1; rw [e] at this; omega
  have hat : a ≠ t := fun e => g4 e.symm
  have hau : a ≠ u := fun e => g3 e.symm
  have hSZ : sz < G.1 ∧ sz ≠ u ∧ sz ≠ t ∧ sz ≠ a := ⟨ra.2.1, hszu, hst.1, hsza⟩
  have hBF : bf < G.1 ∧ bf ≠ u ∧ bf ≠ t ∧ bf ≠ a := ⟨rb.2.1, hbfu, hst.2, hbfa⟩
  generalize hfe : (if n = 15 then fr + 1 else fr) = fe at hrow hc
  have hfb : fe ≤ 100000 ∧ fr ≤ fe := by
    refine ⟨by omega, ?_⟩
    rw [← hfe]
    split <;> omega
  unfold FX10_levels
  refine ok_bnd (Q := fun y : Int32 => y.toInt = fe) (ok_if (fun cc => ok_lt (ok_some ?_)) (fun cc => ok_some ?_)) (fun y1 hy1 => ?_)
  · have := pz_eq.mp cc
    rw [ti_add (by omega) (by omega), ← hfe, if_pos (by omega)]
    omega
  · have c2 : ¬ p1.toInt = (15 : Int32).toInt := fun q => cc (pz_eq.mpr q)
    rw [← hfe, if_neg (by omega)]
    exact hp3
  have hx0 : ∀ {x}, x < G.1 → x < (xt G []).1 := fun hx => hx
  refine ok_bnd (collect_ok (G := xt G []) (c := c) (row := row) (sz := sz) (bf := bf) (n := n) (fr := fe) ⟨ra.1, ra.2.1, (xt_kk [] ra.2.1).trans ra.2.2.1, (xt_nn [] ra.2.1).trans ra.2.2.2⟩ ⟨rb.1, rb.2.1, (xt_kk [] rb.2.1).trans rb.2.2.1, (xt_nn [] rb.2.1).trans rb.2.2.2⟩ ⟨hrow.1, (xt_kk [] hrow.1).trans hrow.2.1, by rw [xt_nn [] hrow.1]; exact hrow.2.2.1, by rw [xt_nn [] hrow.1]; exact hrow.2.2.2⟩ ((xt_kk [] g1).trans g2) rsb hrs.1 hrs.2 hn16.1 hn16.2 hy1 hp1 hc) (fun y2 hy2 => ?_)
  obtain ⟨M2, x2⟩ := y2
  obtain ⟨l, hrw, hx2, hlh, hz16, hM2, hfr⟩ := hy2
  dsimp only at hx2 hlh hz16 hM2 hfr ⊢
  have hbs := bsum_b hrw
  have hlb := hrw.b hcb
  refine ok_bnd (countOnes_ok (G := xt G []) ⟨by rw [hM2]; exact ra.1, ra.2.1, (xt_kk [] ra.2.1).trans ra.2.2.1, (xt_nn [] ra.2.1).trans ra.2.2.2⟩ hlh (by omega) hx2) (fun y3 hy3 => ?_)
  obtain ⟨M3, x3⟩ := y3
  obtain ⟨h31, hx3⟩ := hy3
  dsimp only at h31 hx3 ⊢
  subst h31
  obtain ⟨on1, on2⟩ := oneC_b 3 l
  have on1 : onesL l ≤ 3 := on1
  have on2 : onesL l ≤ l.length := on2
  -- the writer stands as it stood
  have hCW2 : CW (xt G []) M3 a u t f n0 S := (h.xt0 [] h.2.2.1).by hM2 (fun x k hx => by
    rcases hx with ⟨w1, w2, w3⟩ | w | w
    · exact hfr x k (fun q => by omega) (fun q => hsza (q.symm.trans w1)) (fun q => hbfa (q.symm.trans w1))
    · exact hfr x k (fun q => g3 (w.symm.trans q.1)) (fun q => hszu (q.symm.trans w)) (fun q => hbfu (q.symm.trans w))
    · exact hfr x k (fun q => g4 (w.symm.trans q.1)) (fun q => hst.1 (q.symm.trans w)) (fun q => hst.2 (q.symm.trans w)))
  have hKP2 : KP G M a u t sz bf l M3 := by
    refine ⟨by rw [hM2]; exact ra.1, by rw [hM2]; exact rb.1, hlh, fun x k hx hxu hxt hxs hxb hxk => ⟨hfr x k (fun q => hxk ⟨q.1, Or.inr (by omega)⟩) hxs hxb, by rw [hM2]⟩⟩
  have hCN2 : CN G a u t f n0 S [] (xt G []) M3 u f n0 := ⟨Or.inl rfl, hCW2, fun _ _ => rfl, Nat.le_refl _, fun _ _ _ _ h => h⟩
  refine ok_bnd (Q := fun y : Int32 => y.toInt = ((if tb = 4 then 3 else tb : Nat) : Int)) (ok_if (fun cc => ok_some ?_) (fun cc => ok_some ?_)) (fun y4 hy4 => ?_)
  · have := pz_eq.mp cc
    rw [if_pos (by omega)]; exact e3
  · have c2 : ¬ p0.toInt = (4 : Int32).toInt := fun q => cc (pz_eq.mpr q)
    rw [if_neg (by omega)]; exact hp0
  refine ok_bnd (Q := fun y : Int32 => y.toInt = ((tkn l.length (onesL l) : Nat) : Int)) (ok_if (fun cc => ok_lt (ok_lt (ok_lt (ok_some ?_)))) (fun cc => ok_lt (ok_lt (ok_lt (ok_lt (ok_some ?_)))))) (fun y5 hy5 => ?_)
  · have := pz_le.mp cc
    have hm := pz_mulc (x := x2) e4 (by omega) (by omega)
    unfold tkn
    rw [if_pos (by omega), ti_add (by rw [ti_sub (by omega) (by omega)]; omega) (by rw [ti_sub (by omega) (by omega)]; omega), ti_sub (by omega) (by omega), hm, hx3]
    omega
  · have c2 : ¬ (3 : Int32).toInt ≤ x2.toInt := fun q => cc (pz_le.mpr q)
    unfold tkn
    rw [if_neg (by omega)]
    have hl3 : l.length = 0 ∨ l.length = 1 ∨ l.length = 2 := by omega
    rcases hl3 with q | q | q
    · have hx : x2 = 0 := pz_eq.mpr (by rw [hx2, q]; rfl)
      rw [hx, q]
      have : ((0 : Int32) * ((0 : Int32) + 1) / 2).toInt = 0 := by decide
      rw [ti_add (by omega) (by omega), this, hx3]
      omega
    · have hx : x2 = 1 := pz_eq.mpr (by rw [hx2, q]; rfl)
      rw [hx, q]
      have : ((1 : Int32) * ((1 : Int32) + 1) / 2).toInt = 1 := by decide
      rw [ti_add (by omega) (by omega), this, hx3]
      omega
    · have hx : x2 = 2 := pz_eq.mpr (by rw [hx2, q]; rfl)
      rw [hx, q]
      have : ((2 : Int32) * ((2 : Int32) + 1) / 2).toInt = 3 := by decide
      rw [ti_add (by omega) (by omega), this, hx3]
      omega
  obtain ⟨tk1, tk2⟩ := tkn_b (t := l.length) on1 on2
  have htk : tkn l.length (onesL l) < cdM (if tb = 4 then 3 else tb) ∨ tb = 3 := by
    by_cases q4 : tb = 4
    · left
      rw [if_pos q4, cm3]
      have : n = 4 := htn.mp q4
      exact tk2 (by omega)
    · rw [if_neg q4]
      have ht : tb = 0 ∨ tb = 1 ∨ tb = 2 ∨ tb = 3 := by omega
      rcases ht with q | q | q | q
      · left; rw [q, cm0]; exact tk1 (by omega)
      · left; rw [q, cm1]; exact tk1 (by omega)
      · left; rw [q, cm2]; exact tk1 (by omega)
      · exact Or.inr q
  have htb29 : (if tb = 4 then 3 else tb) < 29 := by split <;> omega
  -- TOKEN
  refine ok_bnd (Q := fun y : NN × DD => (∃ v g k, CN G a u t f n0 S (tokT tb l) (xt G y.1) y.2 v g k) ∧ KP G M a u t sz bf l y.2 ∧ (y.2.1 a 16).toInt = bsum l) (ok_if (fun cc => ?_) (fun cc => ?_)) (fun y6 hy6 => ok_app (ok_lt ?_))
  · have h3 : tb = 3 := by have := pz_eq.mp cc; omega
    refine ok_bnd (Q := fun y : Int64 => y.toInt = ((if l.length = 0 then 3 else 4 * (l.length - 1) + onesL l : Nat) : Int)) (ok_if (fun c2 => ok_some ?_) (fun c2 => ok_lt (ok_lt (ok_lt (ok_lt (ok_some ?_)))))) (fun y147 hy147 => ?_)
    · have := pz_eq.mp c2
      rw [if_pos (by omega)]; exact l3
    · have c4 : ¬ x2.toInt = (0 : Int32).toInt := fun q => c2 (pz_eq.mpr q)
      have hs : (x2 - (1 : Int32)).toInt = ((l.length - 1 : Nat) : Int) := by
        rw [ti_sub (by omega) (by omega)]; omega
      have hm := pz_mulc (x := x2 - (1 : Int32)) e4 (by omega) (by omega)
      rw [if_neg (by omega), Int32.toInt_toInt64, ti_add (by omega) (by omega), hm, hs, hx3]
      omega
    refine ok_bnd (lvcode_ok hCN2 hKP2 g1 hau hat hSZ hBF e11 (by decide) hy147 (m := 6) e6 (by decide) (by show Bd S + 8 * 6 ≤ 800000; omega)) (fun y148 hy148 => ok_app (ok_lt (ok_some ?_)))
    obtain ⟨⟨v, g, k, r1⟩, r2, r3⟩ := hy148
    dsimp only
    rw [List.append_nil]
    have ht : tokT tb l = toks 11 (if l.length = 0 then 3 else 4 * (l.length - 1) + onesL l) 6 := if_pos h3
    rw [ht]
    exact ⟨⟨v, g, k, r1⟩, r2, by rw [r3 16 (by decide)]; exact hz16⟩
  · have h3 : ¬ tb = 3 := fun q => cc (pz_eq.mpr (by omega))
    have htk2 := htk.resolve_right h3
    refine ok_bnd (valueOf_ok hy4 htb29 hy5 htk2) (fun y139 hy139 => ok_lt ?_)
    obtain ⟨ya, yb⟩ := y139
    obtain ⟨q1, q2⟩ := hy139
    dsimp only at q1 q2 ⊢
    subst q1
    refine ok_bnd (lengthOf_ok hy4 htb29 hy5 htk2) (fun y141 hy141 => ?_)
    obtain ⟨yc, yd⟩ := y141
    obtain ⟨q3, q4⟩ := hy141
    dsimp only at q3 q4 ⊢
    subst q3
    obtain ⟨tb1, tb2, -⟩ := tab_at htb29 htk2
    refine ok_bnd (lvcode_ok hCN2 hKP2 g1 hau hat hSZ hBF e11 (by decide) (V := cdV (if tb = 4 then 3 else tb) (tkn l.length (onesL l))) (by rw [Int32.toInt_toInt64]; exact q2) q4 (by omega) (by
      have : Bd (runs [] S) = Bd S := rfl
      omega)) (fun y142 hy142 => ok_app (ok_lt (ok_some ?_)))
    obtain ⟨⟨v, g, k, r1⟩, r2, r3⟩ := hy142
    dsimp only
    rw [List.append_nil]
    have ht : tokT tb l = toks 11 (cdV (if tb = 4 then 3 else tb) (tkn l.length (onesL l))) (cdN (if tb = 4 then 3 else tb) (tkn l.length (onesL l))) := if_neg h3
    rw [ht]
    exact ⟨⟨v, g, k, r1⟩, r2, by rw [r3 16 (by decide)]; exact hz16⟩
  obtain ⟨L6, M6⟩ := y6
  obtain ⟨⟨v6, g6, k6, c6⟩, kp6, z6⟩ := hy6
  dsimp only at c6 kp6 z6 ⊢
  have hsok : SOk S := h.sok
  have hl16 : l.length ≤ 16 := by omega
  obtain ⟨lt1, lt2⟩ := levT_len tb n l hl16
  have hpre : ∀ D E : List Tok, D ++ E = levT tb n l → all0 D ∧ D.length ≤ 2400 := fun D E hDE => by
    rw [← hDE] at lt1 lt2
    rw [List.length_append] at lt1
    exact ⟨fun T hT => lt2 T (List.mem_append.mpr (Or.inl hT)), by omega⟩
  refine ok_bnd (Q := fun y : Int32 => y.toInt = ((s0L l : Nat) : Int)) (ok_if (fun cc => ok_some ?_) (fun cc => ok_bi (ok_if (fun c2 => ok_some (ok_some ?_)) (fun c2 => ok_some (ok_some ?_))))) (fun y10 hy10 => ?_)
  · have := pz_le.mp cc
    unfold s0L
    rw [if_neg (by omega)]; exact e0
  · have := pz_le.mp c2
    unfold s0L
    rw [if_neg (by omega)]; exact e0
  · have c3 : ¬ x2.toInt ≤ (10 : Int32).toInt := fun q => cc (pz_le.mpr q)
    have c4 : ¬ (3 : Int32).toInt ≤ x3.toInt := fun q => c2 (pz_le.mpr q)
    unfold s0L
    rw [if_pos (by omega)]; exact e1
  have hs06 : s0L l ≤ 6 := by unfold s0L; split <;> omega
  have hT0 := hpre (tokT tb l) _ rfl
  have hB0 := (Bd_runs (tokT tb l) S hT0.1 hsok).1
  rw [List.nil_append]
  refine ok_bnd (lvloop_ok (N16 := M6.1 a 16) c6 kp6 g1 hau hat hSZ hBF ⟨ra.2.2.1, ra.2.2.2⟩ hl16 hlb hx2 hx3 rfl hy10 hs06 (by omega) rfl) (fun y11 hy11 => ok_app (ok_lt ?_))
  obtain ⟨L11, xa, xb, M11⟩ := y11
  obtain ⟨⟨v11, g11, k11, c11⟩, kp11, z11⟩ := hy11
  dsimp only at c11 kp11 z11 ⊢
  have hT1 := hpre (tokT tb l ++ szT (onesL l) 0 (s0L l) l) (zrT n l ++ rnT (bsum l) l) (by unfold levT; rw [List.append_assoc])
  have hB1 := (Bd_runs _ S hT1.1 hsok).1
  have hz11 : (M11.1 a 16).toInt = bsum l := by rw [z11]; exact z6
  -- zeros
  refine ok_bnd (Q := fun y : NN × DD => (∃ v g k, CN G a u t f n0 S (tokT tb l ++ szT (onesL l) 0 (s0L l) l ++ zrT n l) (xt G (L6 ++ L11 ++ y.1)) y.2 v g k) ∧ KP G M a u t sz bf l y.2 ∧ (y.2.1 a 16).toInt = bsum l) (ok_if (fun cc => ok_some ?_) (fun cc => ok_bi (ok_if (fun c2 => ok_some (ok_app (ok_lt (ok_some ?_)))) (fun c2 => ?_)))) (fun y16 hy16 => ok_app (ok_lt ?_))
  · have := pz_le.mp cc
    have hzr : zrT n l = [] := if_neg (by omega)
    dsimp only
    rw [hzr, List.append_nil, List.append_nil]
    exact ⟨⟨v11, g11, k11, c11⟩, kp11, hz11⟩
  · have := pz_le.mp c2
    have hzr : zrT n l = [] := if_neg (by omega)
    dsimp only
    rw [hzr, List.append_nil, List.append_nil, List.append_nil]
    exact ⟨⟨v11, g11, k11, c11⟩, kp11, hz11⟩
  · have c3 : ¬ x2.toInt ≤ (0 : Int32).toInt := fun q => cc (pz_le.mpr q)
    have c4 : ¬ p1.toInt ≤ x2.toInt := fun q => c2 (pz_le.mpr q)
    have hzr : zrT n l = toks 15 (cdV ((if n = 4 then 18 else 3) + l.length) (bsum l)) (cdN ((if n = 4 then 18 else 3) + l.length) (bsum l)) := if_pos (by omega)
    refine ok_bnd (Q := fun y : Int32 => y.toInt = ((if n = 4 then 18 else 3 : Nat) : Int)) (ok_if (fun c5 => ok_some ?_) (fun c5 => ok_some ?_)) (fun y65 hy65 => ok_lt (ok_lt ?_))
    · have := pz_eq.mp c5
      rw [if_pos (by omega)]; exact e18
    · have c6 : ¬ p1.toInt = (4 : Int32).toInt := fun q => c5 (pz_eq.mpr q)
      rw [if_neg (by omega)]; exact e3
    have hx66 : (y65 + x2).toInt = (((if n = 4 then 18 else 3) + l.length : Nat) : Int) := by
      have : (if n = 4 then 18 else 3) ≤ 18 := by split <;> omega
      rw [ti_add (by omega) (by omega), hy65, hx2]
      omega
    generalize y65 + x2 = x66 at hx66
    have hzt : bsum l < cdM ((if n = 4 then 18 else 3) + l.length) ∧ (if n = 4 then 18 else 3) + l.length < 29 := by
      by_cases q : n = 4
      · rw [if_pos q]
        have := cm4 l.length (by omega) (by omega)
        omega
      · rw [if_neg q]
        have := cmz l.length (by omega) (by omega)
        omega
    refine ok_bnd (valueOf_ok hx66 hzt.2 hz11 hzt.1) (fun y68 hy68 => ok_lt (ok_lt ?_))
    obtain ⟨ya, yb⟩ := y68
    obtain ⟨q1, q2⟩ := hy68
    dsimp only at q1 q2 ⊢
    subst q1
    refine ok_bnd (lengthOf_ok hx66 hzt.2 hz11 hzt.1) (fun y71 hy71 => ?_)
    obtain ⟨yc, yd⟩ := y71
    obtain ⟨q3, q4⟩ := hy71
    dsimp only at q3 q4 ⊢
    subst q3
    obtain ⟨tb1, tb2, -⟩ := tab_at hzt.2 hzt.1
    refine ok_bnd (lvcode_ok c11 kp11 g1 hau hat hSZ hBF e15n (by decide) (V := cdV ((if n = 4 then 18 else 3) + l.length) (bsum l)) (by rw [Int32.toInt_toInt64]; exact q2) q4 (by omega) (by omega)) (fun y72 hy72 => ok_app (ok_lt (ok_some (ok_app (ok_lt (ok_some ?_))))))
    obtain ⟨⟨v, g, k, r1⟩, r2, r3⟩ := hy72
    dsimp only
    rw [List.append_nil, List.append_nil, hzr]
    exact ⟨⟨v, g, k, r1⟩, r2, by rw [r3 16 (by decide)]; exact hz11⟩
  obtain ⟨L16, M16⟩ := y16
  obtain ⟨⟨v16, g16, k16, c16⟩, kp16, z16⟩ := hy16
  dsimp only at c16 kp16 z16 ⊢
  have hT2 := hpre (tokT tb l ++ szT (onesL l) 0 (s0L l) l ++ zrT n l) (rnT (bsum l) l) (by unfold levT; rw [List.append_assoc, List.append_assoc])
  have hB2 := (Bd_runs _ S hT2.1 hsok).1
  refine ok_bnd (rnloop_ok (l := l) c16 kp16 g1 hau hat hSZ hBF ⟨rb.2.2.1, rb.2.2.2⟩ hl16 (by omega) hx2 (by omega) z16) (fun y20 hy20 => ok_app (ok_lt (ok_some ?_)))
  obtain ⟨⟨v, g, k, r1⟩, r2⟩ := hy20
  dsimp only
  rw [List.append_nil]
  refine ⟨l, hrw, ⟨v, g, k, ?_⟩, r2.2.2.2⟩
  have hfin : levT tb n l = tokT tb l ++ szT (onesL l) 0 (s0L l) l ++ zrT n l ++ rnT (bsum l) l := by
    unfold levT
    rw [List.append_assoc, List.append_assoc]
  rw [hfin]
  rw [← List.append_assoc, ← List.append_assoc]
  exact r1
