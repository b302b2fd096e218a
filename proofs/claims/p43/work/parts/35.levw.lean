set_option maxHeartbeats 8000000 in
/-- LEVELS one by one -/
theorem lvloop_ok {G : GG} {M N0 : DD} {a u0 t u sz bf : Nat} {f0 f : Nat → Nat} {n0 n : Nat} {S : SS} {T0 : List Tok} {l : LV} {L0 : NN} {ones s0 : Nat} {x2 x3 y10 : Int32} (h : CN G a u0 t f0 n0 S T0 (xt G L0) N0 u f n) (hk : KP G M a u0 t sz bf l N0) (ha : a < G.1) (hau : a ≠ u0) (hat : a ≠ t) (hsz : sz < G.1 ∧ sz ≠ u0 ∧ sz ≠ t ∧ sz ≠ a) (hbf : bf < G.1 ∧ bf ≠ u0 ∧ bf ≠ t ∧ bf ≠ a) (hsk : G.2.1 sz = 13 ∧ G.2.2 sz = 16)
    (hl16 : l.length ≤ 16) (hlb : ∀ q, q ∈ l → -2000 ≤ q.1 ∧ q.1 ≤ 2000 ∧ q.1 ≠ 0) (hx2 : x2.toInt = l.length) (hx3 : x3.toInt = ones) (hon : ones = onesL l) (hy10 : y10.toInt = s0) (hs06 : s0 ≤ 6) (hB : Bd (runs T0 S) + 8 * 500 ≤ 700000) {N16 : Int32} (h16 : N0.1 a 16 = N16) :
    OK (itrA (fun (s12 : NN × Int32 × Int32 × DD) => ((if x2 ≤ s12.2.2.1 then (some ([], .inr ((s12.2.1, s12.2.2.1, s12.2.2.2)))) else
  (bnd (if x3 ≤ s12.2.2.1 then (dr (xt G s12.1) 13 ((s12.2.2.2.2 a 14)) fun b91 =>
  chk (¬ (s12.2.2.1 < 0 ∨ (xt G s12.1).2.2 b91 ≤ s12.2.2.1.toNatClampNeg)) <|
  ltt (s12.2.2.2.1 b91 s12.2.2.1.toNatClampNeg) fun x92 =>
  bnd (if s12.2.2.1 = x3 then (bnd (if ((3 : Int32)) ≤ x3 then (some ((0 : Int32))) else
  (some ((1 : Int32)))) fun (y123 : Int32) =>
  some (y123)) else
  (some ((0 : Int32)))) fun (y93 : Int32) =>
  bnd (FX10_cut (xt G s12.1) s12.2.2.2 a s12.2.1 x92 y93) fun y94 =>
  ltt (y94.1 a 17) fun x95 =>
  ltt ((x95 + ((1 : Int32)))) fun x96 =>
  bnd (FX10_code (xt G s12.1) y94 a ((13 : Int32)) ((1 : Int64)) x96) fun y97 =>
  app y97.1 <|
  ltt (s12.1 ++ y97.1) fun L99 =>
  ltt (y97.2.1 a 18) fun x102 =>
  ltt (x102.toInt64) fun x103 =>
  ltt (y97.2.1 a 19) fun x104 =>
  bnd (FX10_code (xt G L99) y97.2 a ((14 : Int32)) x103 x104) fun y105 =>
  app y105.1 <|
  ltt (L99 ++ y105.1) fun L107 =>
  bnd (if s12.2.1 = ((0 : Int32)) then (some ((1 : Int32))) else
  (some (s12.2.1))) fun (y110 : Int32) =>
  bnd (if ((6 : Int32)) ≤ y110 then (some (y110, y105.2)) else
  (dr (xt G L107) 13 ((y105.2.2 a 14)) fun b113 =>
  chk (¬ (s12.2.2.1 < 0 ∨ (xt G L107).2.2 b113 ≤ s12.2.2.1.toNatClampNeg)) <|
  ltt (y105.2.1 b113 s12.2.2.1.toNatClampNeg) fun x114 =>
  ltt (if (0 : Int32) ≤ x114 then x114 else 0 - x114) fun x115 =>
  ltt ((y110 - ((1 : Int32)))) fun x116 =>
  ltt ((((3 : Int32)) <<< (x116 &&& 31))) fun x117 =>
  bnd (if x115 ≤ x117 then (some (y110)) else
  (ltt ((y110 + ((1 : Int32)))) fun x120 =>
  some (x120))) fun (y118 : Int32) =>
  some (y118, y105.2))) fun (y111 : Int32 × DD) =>
  some ([], (y111.1, y111.2))) else
  (dr (xt G s12.1) 13 ((s12.2.2.2.2 a 14)) fun b125 =>
  chk (¬ (s12.2.2.1 < 0 ∨ (xt G s12.1).2.2 b125 ≤ s12.2.2.1.toNatClampNeg)) <|
  ltt (s12.2.2.2.1 b125 s12.2.2.1.toNatClampNeg) fun x126 =>
  bnd (if ((0 : Int32)) ≤ x126 then (some ((0 : Int64))) else
  (some ((1 : Int64)))) fun (y127 : Int64) =>
  bnd (FX10_code (xt G s12.1) s12.2.2.2 a ((12 : Int32)) y127 ((1 : Int32))) fun y128 =>
  app y128.1 <|
  ltt (s12.1 ++ y128.1) fun L130 =>
  some ([], (s12.2.1, y128.2)))) fun (y84 : NN × Int32 × DD) =>
  app y84.1 <|
  ltt (s12.1 ++ y84.1) fun L86 =>
  ltt (s12.2.2.1 + (1 : Int32)) fun x88 =>
  some ([], .inl (L86, (y84.2.1, x88, y84.2.2))))) : Option (NN × ((NN × Int32 × Int32 × DD) ⊕ (Int32 × Int32 × DD))))) 1000000 (L0, (y10, (0 : Int32), N0)))
    (fun y => (∃ v g k, CN G a u0 t f0 n0 S (T0 ++ szT ones 0 s0 l) (xt G (L0 ++ y.1)) y.2.2.2 v g k) ∧ KP G M a u0 t sz bf l y.2.2.2 ∧ y.2.2.2.1 a 16 = N16) := by
  have e0 : (0 : Int32).toInt = 0 := rfl
  have e1 : (1 : Int32).toInt = 1 := rfl
  have e3 : (3 : Int32).toInt = 3 := rfl
  have e6 : (6 : Int32).toInt = 6 := rfl
  have e12 : (12 : Int32).toInt = ((12 : Nat) : Int) := rfl
  have e13 : (13 : Int32).toInt = ((13 : Nat) : Int) := rfl
  have e14 : (14 : Int32).toInt = ((14 : Nat) : Int) := rfl
  have l0 : (0 : Int64).toInt = ((0 : Nat) : Int) := rfl
  have l1 : (1 : Int64).toInt = ((1 : Nat) : Int) := rfl
  have hsok : SOk (runs T0 S) := h.2.1.sok
  obtain ⟨tl1, tl2⟩ := szT_len l ones 0 s0 hs06
  obtain ⟨oc1, oc2⟩ := oneC_at 3 l
  have hon3 : ones ≤ 3 ∧ ones ≤ l.length := by rw [hon]; exact oneC_b 3 l
  refine ok_itrB (fun (L : NN) (s : Int32 × Int32 × DD) => ∃ (i sN : Nat) (D : List Tok), s.2.1.toInt = i ∧ i ≤ l.length ∧ s.1.toInt = sN ∧ sN ≤ 6 ∧ D ++ szT ones i sN (l.drop i) = szT ones 0 s0 l ∧ (∃ v g k, CN G a u0 t f0 n0 S (T0 ++ D) (xt G L) s.2.2 v g k) ∧ KP G M a u0 t sz bf l s.2.2 ∧ s.2.2.1 a 16 = N16) (fun (s : Int32 × Int32 × DD) => ((l.length : Int) - s.2.1.toInt).toNat) (fun (L : NN) (y : Int32 × Int32 × DD) => (∃ v g k, CN G a u0 t f0 n0 S (T0 ++ szT ones 0 s0 l) (xt G L) y.2.2 v g k) ∧ KP G M a u0 t sz bf l y.2.2 ∧ y.2.2.1 a 16 = N16) ?_ 1000000 L0 (y10, (0 : Int32), N0) ?_ ?_
  · intro L s hI
    obtain ⟨ss, ii, N⟩ := s
    obtain ⟨i, sN, D, i1, i2, i3, i4, i5, ⟨v, g, k, i6⟩, i7, i8⟩ := hI
    dsimp only at i1 i3 i6 i7 i8 ⊢
    refine ok_if (fun c => ok_some ?_) (fun c => ?_)
    · have := pz_le.mp c
      have ei : i = l.length := by omega
      subst ei
      rw [List.drop_length] at i5
      have i5 : D ++ [] = szT ones 0 s0 l := i5
      rw [List.append_nil] at i5
      dsimp only
      rw [List.append_nil, ← i5]
      exact ⟨⟨v, g, k, i6⟩, i7, i8⟩
    · have c3 : ¬ x2.toInt ≤ ii.toInt := fun q => c (pz_le.mpr q)
      have hil : i < l.length := by omega
      have hin : ii.toNatClampNeg = i := by
        have := pz_nat (x := ii) (by omega)
        omega
      have hix : ¬ (ii < 0 ∨ (xt G L).2.2 sz ≤ ii.toNatClampNeg) := by
        rw [xt_nn L hsz.1]
        exact pz_ix (by omega) (by omega)
      obtain ⟨kp1, kp2, kp3, kp4⟩ := i7
      have hki : KP G M a u0 t sz bf l N := ⟨kp1, kp2, kp3, kp4⟩
      obtain ⟨si1, si2⟩ := kp3 i l[i] (List.getElem?_eq_getElem hil)
      obtain ⟨lb1, lb2, lb3⟩ := hlb l[i] (List.getElem_mem hil)
      have hsa := szT_at (ones := ones) (s := sN) hil
      have hDl : D.length + 40 ≤ 28 * l.length + 40 ∧ all0 D := by
        have h1 : D.length ≤ (szT ones 0 s0 l).length := by rw [← i5, List.length_append]; omega
        refine ⟨by omega, fun T hT => tl2 T ?_⟩
        rw [← i5]
        exact List.mem_append.mpr (Or.inl hT)
      have hBd : ∀ E : List Tok, all0 E → E.length ≤ 28 → Bd (runs (T0 ++ (D ++ E)) S) + 8 * 28 ≤ 800000 := fun E hE hE2 => by
        rw [runs_app]
        have := (Bd_runs (D ++ E) (runs T0 S) (all0_app hDl.2 hE) hsok).1
        rw [List.length_append] at this
        omega
      have hii1 : (ii + 1).toInt = i + 1 := by rw [ti_add (by omega) (by omega), i1, e1]
      refine ok_bnd (Q := fun y : NN × Int32 × DD => ∃ (sM : Nat) (E : List Tok), y.2.1.toInt = sM ∧ sM ≤ 6 ∧ (D ++ E) ++ szT ones (i + 1) sM (l.drop (i + 1)) = szT ones 0 s0 l ∧ (∃ v g k, CN G a u0 t f0 n0 S (T0 ++ (D ++ E)) (xt G (L ++ y.1)) y.2.2 v g k) ∧ KP G M a u0 t sz bf l y.2.2 ∧ y.2.2.1 a 16 = N16) ?_ (fun y84 h84 => ?_)
      · refine ok_if (fun c4 => ?_) (fun c4 => ?_)
        · have hio : ones ≤ i := by
            have := pz_le.mp c4
            omega
          rw [if_neg (by omega)] at hsa
          refine ok_dr (b := sz) kp1 (xt_lt L hsz.1) ((xt_kk L hsz.1).trans hsk.1) (ok_chk hix (ok_lt ?_))
          rw [hin]
          refine ok_bnd (Q := fun y : Int32 => y.toInt = mor ones i) ?_ (fun y93 h93 => ?_)
          · unfold mor
            refine ok_if (fun c5 => ok_bi (ok_if (fun c6 => ok_some (ok_some ?_)) (fun c6 => ok_some (ok_some ?_)))) (fun c5 => ok_some ?_)
            · have := pz_eq.mp c5
              have := pz_le.mp c6
              rw [if_pos (by omega), if_neg (by omega)]; exact e0
            · have := pz_eq.mp c5
              have c7 : ¬ (3 : Int32).toInt ≤ x3.toInt := fun q => c6 (pz_le.mpr q)
              rw [if_pos (by omega), if_pos (by omega)]; exact e1
            · have c7 : ¬ ii.toInt = x3.toInt := fun q => c5 (pz_eq.mpr q)
              rw [if_neg (by omega)]; exact e0
          have hm1 : mor ones i ≤ 1 := by unfold mor; split <;> (try split) <;> omega
          have hmo : mor ones i = 1 → ¬ (l[i].1 = 1 ∨ l[i].1 = -1) := fun q => by
            have hq : i = ones ∧ ones < 3 := by
              unfold mor at q
              split at q
              · split at q
                · exact ⟨by omega, by omega⟩
                · omega
              · omega
            have h3 := oc2 l[i] (by show onesL l < 3; omega)
            rw [show oneC 3 l = i by rw [hq.1, hon]; rfl] at h3
            exact h3 (List.getElem?_eq_getElem hil)
          have hv0 : 0 ≤ lvV l[i].1 (mor ones i) := by
            unfold lvV
            by_cases hz : mor ones i = 0
            · rw [if_pos hz]; split <;> omega
            · have := hmo (by omega)
              rw [if_neg hz]; split <;> omega
          have hvv : ((lvV l[i].1 (mor ones i)).toNat : Int) = lvV l[i].1 (mor ones i) := by omega
          generalize hve : (lvV l[i].1 (mor ones i)).toNat = v0 at hsa hvv
          have hvb : v0 < 4096 := by
            unfold lvV at hvv
            split at hvv <;> split at hvv <;> omega
          obtain ⟨pb1, pb2, pb3⟩ := lsf_b i4 hvb
          refine ok_bnd (cut_ok (s := sN) (v := v0) (more := mor ones i) i3 i4 (by omega) (by omega) h93 hm1 (by rw [si1]; exact hvv)) (fun y94 h94 => ?_)
          obtain ⟨z1, z2, z3, z4, z5⟩ := h94
          have hus : v = u0 ∨ G.1 ≤ v := i6.1
          have hva : v ≠ a := fun q => by
            rcases hus with w | w
            · exact hau (q.symm.trans w)
            · omega
          have hCN1 : CN G a u0 t f0 n0 S (T0 ++ D) (xt G L) y94 v g k := i6.by z1 (fun x j hx => z5 x j (fun q => by
            rcases hx with ⟨w1, w2, w3⟩ | w | w
            · omega
            · exact hva (w.symm.trans q.1)
            · exact hat (q.1.symm.trans w)))
          have hKP1 : KP G M a u0 t sz bf l y94 := by
            refine ⟨by rw [z1]; exact kp1, by rw [z1]; exact kp2, fun j q hj => ?_, fun x j hx hxu hxt hxs hxb hxk => ?_⟩
            · rw [z5 sz j (fun w => hsz.2.2.2 w.1), z5 bf j (fun w => hbf.2.2.2 w.1)]
              exact kp3 j q hj
            · rw [z5 x j (fun w => hxk ⟨w.1, Or.inr (by omega)⟩), z1]
              exact kp4 x j hx hxu hxt hxs hxb hxk
          have hx96 : (y94.1 a 17 + (1 : Int32)).toInt = ((lpf sN v0 + 1 : Nat) : Int) := by
            rw [ti_add (by omega) (by omega), z2, e1]
            omega
          refine ok_lt (ok_lt (ok_bnd (lvcode_ok hCN1 hKP1 ha hau hat hsz hbf e13 (by decide) l1 hx96 (by omega) (by
            have := hBd [] (fun T h => by cases h) (Nat.zero_le _)
            rw [List.append_nil] at this
            omega)) (fun y97 h97 => ok_app (ok_lt (ok_lt (ok_lt (ok_lt ?_)))))))
          obtain ⟨⟨v2, g2, k2, w1⟩, w2, w3⟩ := h97
          rw [List.append_assoc] at w1
          have hx103 : (y97.2.1 a 18).toInt64.toInt = ((lsf sN v0 : Nat) : Int) := by
            rw [Int32.toInt_toInt64, w3 18 (by decide), z3]
          have hx104 : (y97.2.1 a 19).toInt = ((lsb sN v0 : Nat) : Int) := by
            rw [w3 19 (by decide), z4]
          refine ok_bnd (lvcode_ok w1 w2 ha hau hat hsz hbf e14 (by decide) hx103 hx104 (by omega) (by
            have := hBd (toks 13 1 (lpf sN v0 + 1)) (all0_toks _ _ _) (by rw [toks_len]; omega)
            omega)) (fun y105 h105 => ok_app (ok_lt ?_))
          obtain ⟨⟨v3, g3, k3, r1⟩, r2, r3⟩ := h105
          rw [List.append_assoc, List.append_assoc] at r1
          refine ok_bnd (Q := fun y : Int32 => y.toInt = ((if sN = 0 then 1 else sN : Nat) : Int)) (ok_if (fun c5 => ok_some ?_) (fun c5 => ok_some ?_)) (fun y110 h110 => ?_)
          · have := pz_eq.mp c5
            rw [if_pos (by omega)]; exact e1
          · have c6 : ¬ ss.toInt = (0 : Int32).toInt := fun q => c5 (pz_eq.mpr q)
            rw [if_neg (by omega)]; exact i3
          obtain ⟨rk1, rk2, rk3, rk4⟩ := r2
          have hrk : KP G M a u0 t sz bf l y105.2 := ⟨rk1, rk2, rk3, rk4⟩
          obtain ⟨ri1, ri2⟩ := rk3 i l[i] (List.getElem?_eq_getElem hil)
          obtain ⟨nx1, nx2⟩ := nxs_ok (α := Nat) (N := 0) i3 i4 ri1 lb1 lb2 h110
          have hs1 : (if sN = 0 then 1 else sN) ≤ 6 := by split <;> omega
          refine ok_bnd (Q := fun y : Int32 × DD => y.1.toInt = nxs sN l[i].1 ∧ y.2 = y105.2) ?_ (fun y111 h111 => ok_some ?_)
          · refine ok_if (fun c5 => ok_some ?_) (fun c5 => ?_)
            · have := pz_le.mp c5
              exact ⟨by dsimp only; rw [nx1 (by omega)]; exact h110, rfl⟩
            · have c6 : ¬ (6 : Int32).toInt ≤ y110.toInt := fun q => c5 (pz_le.mpr q)
              obtain ⟨n1, n2⟩ := nx2 (by omega)
              have hix2 : ¬ (ii < 0 ∨ (xt G (L ++ y97.1 ++ y105.1)).2.2 sz ≤ ii.toNatClampNeg) := by
                rw [xt_nn _ hsz.1]
                exact pz_ix (by omega) (by omega)
              rw [hin] at hix2
              refine ok_dr (b := sz) rk1 (xt_lt _ hsz.1) ((xt_kk _ hsz.1).trans hsk.1) (ok_chk hix2 (ok_lt (ok_lt (ok_lt (ok_lt ?_)))))
              refine ok_bnd (Q := fun y : Int32 => y.toInt = nxs sN l[i].1) ?_ (fun y118 h118 => ok_some ⟨h118, rfl⟩)
              have hnx : nxs sN l[i].1 = if l[i].1.natAbs ≤ 3 * 2 ^ ((if sN = 0 then 1 else sN) - 1) then (if sN = 0 then 1 else sN) else (if sN = 0 then 1 else sN) + 1 := by
                unfold nxs
                exact if_neg (by omega)
              rw [hnx]
              generalize (if sN = 0 then 1 else sN) = s1 at *
              refine ok_if (fun c7 => ok_some ?_) (fun c7 => ok_lt (ok_some ?_))
              · have := pz_le.mp c7
                have hq : (if l[i].1.natAbs ≤ 3 * 2 ^ (s1 - 1) then s1 else s1 + 1) = s1 := if_pos (by omega)
                rw [hq]; exact h110
              · have c8 : ¬ (if (0 : Int32) ≤ y105.2.1 sz i then y105.2.1 sz i else 0 - y105.2.1 sz i).toInt ≤ ((3 : Int32) <<< ((y110 - (1 : Int32)) &&& 31)).toInt := fun q => c7 (pz_le.mpr q)
                have hq : (if l[i].1.natAbs ≤ 3 * 2 ^ (s1 - 1) then s1 else s1 + 1) = s1 + 1 := if_neg (by omega)
                rw [hq, ti_add (by omega) (by omega), h110, e1]
                omega
          · obtain ⟨y111a, y111b⟩ := y111
            obtain ⟨q1, q2⟩ := h111
            dsimp only at q1 q2 ⊢
            subst q2
            rw [List.append_nil]
            refine ⟨nxs sN l[i].1, oneT sN v0, q1, (nxs_b _ i4).1, ?_, ⟨v3, g3, k3, ?_⟩, hrk, ?_⟩
            · rw [List.append_assoc, ← hsa, i5]
            · unfold oneT
              rw [← List.append_assoc L]
              exact r1
            · rw [r3 16 (by decide), w3 16 (by decide), z5 a 16 (by simp)]
              exact i8
        · have hio : i < ones := by
            have : ¬ x3.toInt ≤ ii.toInt := fun q => c4 (pz_le.mpr q)
            omega
          rw [if_pos hio] at hsa
          refine ok_dr (b := sz) kp1 (xt_lt L hsz.1) ((xt_kk L hsz.1).trans hsk.1) (ok_chk hix (ok_lt ?_))
          rw [hin]
          refine ok_bnd (Q := fun y : Int64 => y.toInt = ((if l[i].1 < 0 then 1 else 0 : Nat) : Int)) (ok_if (fun c5 => ok_some ?_) (fun c5 => ok_some ?_)) (fun y127 h127 => ?_)
          · have := pz_le.mp c5
            rw [if_neg (by omega)]; exact l0
          · have c6 : ¬ (0 : Int32).toInt ≤ (N.1 sz i).toInt := fun q => c5 (pz_le.mpr q)
            rw [if_pos (by omega)]; exact l1
          refine ok_bnd (lvcode_ok i6 hki ha hau hat hsz hbf e12 (by decide) h127 (m := 1) e1 (by decide) (by
            have := hBd [] (fun T h => by cases h) (Nat.zero_le _)
            rw [List.append_nil] at this
            omega)) (fun y128 h128 => ok_app (ok_lt (ok_some ?_)))
          obtain ⟨⟨v3, g3, k3, r1⟩, r2, r3⟩ := h128
          rw [List.append_assoc] at r1
          dsimp only
          rw [List.append_nil]
          refine ⟨sN, toks 12 (if l[i].1 < 0 then 1 else 0) 1, i3, i4, ?_, ⟨v3, g3, k3, r1⟩, r2, ?_⟩
          · rw [List.append_assoc, ← hsa, i5]
          · rw [r3 16 (by decide)]; exact i8
      · obtain ⟨y84a, y84b, y84c⟩ := y84
        obtain ⟨sM, E, q1, q2, q3, q4, q5, q6⟩ := h84
        refine ok_app (ok_lt (ok_lt (ok_some ?_)))
        dsimp only at q1 q4 q5 q6 ⊢
        rw [List.append_nil]
        exact ⟨rfl, ⟨i + 1, sM, D ++ E, by rw [hii1]; omega, by omega, q1, q2, q3, q4, q5, q6⟩, by omega⟩
  · refine ⟨0, s0, [], e0, Nat.zero_le _, hy10, hs06, rfl, ⟨u, f, n, ?_⟩, hk, h16⟩
    rw [List.append_nil]
    exact h
  · dsimp only
    omega
